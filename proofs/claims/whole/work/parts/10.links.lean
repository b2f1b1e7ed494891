/-! ===== short forms of rows for the printed walks ===== -/
theorem sl_itE {S Y : Type} {f : S → Option (S ⊕ Y)} {P : S → Prop} {K : Y → Prop} (hs : ∀ s q, f s = some q → Sum.elim P K q → P s) (n : Nat) (s : S) (y : Y) (h : sl_it f n s = some y) (hK : K y) : P s := by
  refine sl_itI (P := P) (K := K) (fun s q hq hk => hs s q hq ?_) n s y h hK
  cases q with
  | inl t => exact hk
  | inr t => exact hk
section SCX
variable {X : XT} {pc : Nat} {lv : List (Option AV)} {st : List AV} {E : ET} {mi : MI} {r : RT}
theorem sc_callV1 {own : String} {idx n mL fr lo a kd : Nat} {y : MethodName} {bytes : ByteArray} {ret : Option FieldType} {avs st0 : List AV} {v : AV} {E1 : ET} {m1 : MI} (lk : sm_lk own idx y bytes mL ret n) (hown : X.own = own) (hv : kd < 8 ∧ sm_cC kd = y.cls ∧ Cond.instanceMethod y ∈ sm_tb ∧ Cond.selects y.cls y y ∈ sm_tb)
    (hC : cN X.G y bytes mL ret fr lo (.inr a :: avs) E mi (some v, E1, m1)) (hR : fr + 1 ≤ X.fr ∧ 8 + (mL + 11) + lo ≤ X.lo) (hn : avs.length = n ∧ st.length ≤ 8) (hk : (E.sh a).1 = kd) (ha : a < E.sz) (hst : st0 = avs.reverse ++ .inr a :: st)
    (hd : decode X.cc pc = .ok (.invokevirtual idx, 3)) (kk : sM X (pc + 3) lv (v :: st) E1 m1 r) : sM X pc lv st0 E mi r := sm_callV lk hown hv hC hR hn hk ha hst hd kk
theorem sc_callV0 {own : String} {idx n mL fr lo a kd : Nat} {y : MethodName} {bytes : ByteArray} {ret : Option FieldType} {avs st0 : List AV} {E1 : ET} {m1 : MI} (lk : sm_lk own idx y bytes mL ret n) (hown : X.own = own) (hv : kd < 8 ∧ sm_cC kd = y.cls ∧ Cond.instanceMethod y ∈ sm_tb ∧ Cond.selects y.cls y y ∈ sm_tb)
    (hC : cN X.G y bytes mL ret fr lo (.inr a :: avs) E mi (none, E1, m1)) (hR : fr + 1 ≤ X.fr ∧ 8 + (mL + 11) + lo ≤ X.lo) (hn : avs.length = n ∧ st.length ≤ 8) (hk : (E.sh a).1 = kd) (ha : a < E.sz) (hst : st0 = avs.reverse ++ .inr a :: st)
    (hd : decode X.cc pc = .ok (.invokevirtual idx, 3)) (kk : sM X (pc + 3) lv st E1 m1 r) : sM X pc lv st0 E mi r := sm_callV lk hown hv hC hR hn hk ha hst hd kk
theorem sc_callS1 {own : String} {idx n mL fr lo : Nat} {y : MethodName} {bytes : ByteArray} {ret : Option FieldType} {avs st0 : List AV} {v : AV} {E1 : ET} {m1 : MI} (lk : sm_lk own idx y bytes mL ret n) (hown : X.own = own) (hv : Cond.static y ∈ sm_tb)
    (hC : cN X.G y bytes mL ret fr lo avs E mi (some v, E1, m1)) (hR : fr + 1 ≤ X.fr ∧ 8 + (mL + 11) + lo ≤ X.lo) (hn : avs.length = n ∧ st.length ≤ 8) (hst : st0 = avs.reverse ++ st)
    (hd : decode X.cc pc = .ok (.invokestatic idx, 3)) (kk : sM X (pc + 3) lv (v :: st) E1 m1 r) : sM X pc lv st0 E mi r := sm_callS lk hown hv hC hR hn hst hd kk
theorem sc_callS0 {own : String} {idx n mL fr lo : Nat} {y : MethodName} {bytes : ByteArray} {ret : Option FieldType} {avs st0 : List AV} {E1 : ET} {m1 : MI} (lk : sm_lk own idx y bytes mL ret n) (hown : X.own = own) (hv : Cond.static y ∈ sm_tb)
    (hC : cN X.G y bytes mL ret fr lo avs E mi (none, E1, m1)) (hR : fr + 1 ≤ X.fr ∧ 8 + (mL + 11) + lo ≤ X.lo) (hn : avs.length = n ∧ st.length ≤ 8) (hst : st0 = avs.reverse ++ st)
    (hd : decode X.cc pc = .ok (.invokestatic idx, 3)) (kk : sM X (pc + 3) lv st E1 m1 r) : sM X pc lv st0 E mi r := sm_callS lk hown hv hC hR hn hst hd kk
theorem sc_icmp_eq {off : Int} {x y X' Y' : Int} (tgt : Nat) (hd : decode X.cc pc = .ok (.if_icmp .eq off, 3)) (ht : (pc : Int) + off = (tgt : Int)) (hx : sm_w x = X') (hy : sm_w y = Y')
    (kt : X' = Y' → sM X tgt lv st E mi r) (kf : ¬ X' = Y' → sM X (pc + 3) lv st E mi r) : sM X pc lv (.inl y :: .inl x :: st) E mi r := by
  subst hx
  subst hy
  exact sm_icmp_eq tgt hd ht kt kf
theorem sc_icmp_ne {off : Int} {x y X' Y' : Int} (tgt : Nat) (hd : decode X.cc pc = .ok (.if_icmp .ne off, 3)) (ht : (pc : Int) + off = (tgt : Int)) (hx : sm_w x = X') (hy : sm_w y = Y')
    (kt : ¬ X' = Y' → sM X tgt lv st E mi r) (kf : X' = Y' → sM X (pc + 3) lv st E mi r) : sM X pc lv (.inl y :: .inl x :: st) E mi r := by
  subst hx
  subst hy
  exact sm_icmp_ne tgt hd ht kt kf
theorem sc_icmp_lt {off : Int} {x y X' Y' : Int} (tgt : Nat) (hd : decode X.cc pc = .ok (.if_icmp .lt off, 3)) (ht : (pc : Int) + off = (tgt : Int)) (hx : sm_w x = X') (hy : sm_w y = Y')
    (kt : X' < Y' → sM X tgt lv st E mi r) (kf : ¬ X' < Y' → sM X (pc + 3) lv st E mi r) : sM X pc lv (.inl y :: .inl x :: st) E mi r := by
  subst hx
  subst hy
  exact sm_icmp_lt tgt hd ht kt kf
theorem sc_icmp_ge {off : Int} {x y X' Y' : Int} (tgt : Nat) (hd : decode X.cc pc = .ok (.if_icmp .ge off, 3)) (ht : (pc : Int) + off = (tgt : Int)) (hx : sm_w x = X') (hy : sm_w y = Y')
    (kt : Y' ≤ X' → sM X tgt lv st E mi r) (kf : ¬ Y' ≤ X' → sM X (pc + 3) lv st E mi r) : sM X pc lv (.inl y :: .inl x :: st) E mi r := by
  subst hx
  subst hy
  exact sm_icmp_ge tgt hd ht kt kf
theorem sc_icmp_gt {off : Int} {x y X' Y' : Int} (tgt : Nat) (hd : decode X.cc pc = .ok (.if_icmp .gt off, 3)) (ht : (pc : Int) + off = (tgt : Int)) (hx : sm_w x = X') (hy : sm_w y = Y')
    (kt : Y' < X' → sM X tgt lv st E mi r) (kf : ¬ Y' < X' → sM X (pc + 3) lv st E mi r) : sM X pc lv (.inl y :: .inl x :: st) E mi r := by
  subst hx
  subst hy
  exact sm_icmp_gt tgt hd ht kt kf
theorem sc_icmp_le {off : Int} {x y X' Y' : Int} (tgt : Nat) (hd : decode X.cc pc = .ok (.if_icmp .le off, 3)) (ht : (pc : Int) + off = (tgt : Int)) (hx : sm_w x = X') (hy : sm_w y = Y')
    (kt : X' ≤ Y' → sM X tgt lv st E mi r) (kf : ¬ X' ≤ Y' → sM X (pc + 3) lv st E mi r) : sM X pc lv (.inl y :: .inl x :: st) E mi r := by
  subst hx
  subst hy
  exact sm_icmp_le tgt hd ht kt kf
end SCX
theorem lk_RX5_29 : sm_lk RX5 29 yX9_isArea cX9_isArea 1 (some .boolean) 1 := ⟨(sm_gd 397 (by decide +kernel) (by rfl)), (sm_gd 48 (by decide +kernel) (by rfl)), ⟨by decide +kernel, by decide +kernel, by decide +kernel⟩, Or.inr ⟨"PatrolDesk", (List.mem_of_getElem? (i := 402) (by decide +kernel))⟩⟩
theorem sf_X9_isArea : Cond.static yX9_isArea ∈ sm_tb := (sm_gd 396 (by decide +kernel) (by rfl))
theorem lf_RX5_9 : sm_lkF RX5 9 4 1 := Or.inl (sm_gd 84 (by decide +kernel) (by rfl))
theorem fR_4_1 : 4 < 8 ∧ 1 < sm_cN 4 ∧ (sm_ty 4 1).isReference = true := ⟨by decide, by decide, rfl⟩
theorem lf_RX5_19 : sm_lkF RX5 19 4 0 := Or.inl (sm_gd 82 (by decide +kernel) (by rfl))
theorem fI_4_0 : 4 < 8 ∧ 0 < sm_cN 4 ∧ (sm_ty 4 0).isReference = false := ⟨by decide, by decide, rfl⟩
theorem fP_4_0 : 4 < 8 ∧ 0 < sm_cN 4 ∧ (sm_cT 4 0).2.2.2 = false := ⟨by decide, by decide, rfl⟩
theorem lx_RX5_23 : Cond.methodLink RX5 23 arraycopyName ∈ sm_tb ∧ Cond.native arraycopyName ∈ sm_tb ∧ Cond.static arraycopyName ∈ sm_tb ∧ Cond.initialized "java/lang/System" ∈ sm_tb := ⟨(sm_gd 415 (by decide +kernel) (by rfl)), (sm_gd 417 (by decide +kernel) (by rfl)), (sm_gd 416 (by decide +kernel) (by rfl)), (sm_gd 56 (by decide +kernel) (by rfl))⟩
theorem lf_RX5_15 : sm_lkF RX5 15 4 2 := Or.inl (sm_gd 85 (by decide +kernel) (by rfl))
theorem fR_4_2 : 4 < 8 ∧ 2 < sm_cN 4 ∧ (sm_ty 4 2).isReference = true := ⟨by decide, by decide, rfl⟩
theorem lf_RX4_9 : sm_lkF RX4 9 3 0 := Or.inl (sm_gd 105 (by decide +kernel) (by rfl))
theorem fI_3_0 : 3 < 8 ∧ 0 < sm_cN 3 ∧ (sm_ty 3 0).isReference = false := ⟨by decide, by decide, rfl⟩
theorem fP_3_0 : 3 < 8 ∧ 0 < sm_cN 3 ∧ (sm_cT 3 0).2.2.2 = false := ⟨by decide, by decide, rfl⟩
theorem lf_RX4_15 : sm_lkF RX4 15 3 1 := Or.inl (sm_gd 109 (by decide +kernel) (by rfl))
theorem fI_3_1 : 3 < 8 ∧ 1 < sm_cN 3 ∧ (sm_ty 3 1).isReference = false := ⟨by decide, by decide, rfl⟩
theorem fP_3_1 : 3 < 8 ∧ 1 < sm_cN 3 ∧ (sm_cT 3 1).2.2.2 = false := ⟨by decide, by decide, rfl⟩
theorem lf_RX4_18 : sm_lkF RX4 18 3 2 := Or.inl (sm_gd 113 (by decide +kernel) (by rfl))
theorem fI_3_2 : 3 < 8 ∧ 2 < sm_cN 3 ∧ (sm_ty 3 2).isReference = false := ⟨by decide, by decide, rfl⟩
theorem fP_3_2 : 3 < 8 ∧ 2 < sm_cN 3 ∧ (sm_cT 3 2).2.2.2 = false := ⟨by decide, by decide, rfl⟩
theorem lf_RX4_43 : sm_lkF RX4 43 3 3 := Or.inl (sm_gd 117 (by decide +kernel) (by rfl))
theorem fI_3_3 : 3 < 8 ∧ 3 < sm_cN 3 ∧ (sm_ty 3 3).isReference = false := ⟨by decide, by decide, rfl⟩
theorem fP_3_3 : 3 < 8 ∧ 3 < sm_cN 3 ∧ (sm_cT 3 3).2.2.2 = false := ⟨by decide, by decide, rfl⟩
theorem lf_RX4_22 : sm_lkF RX4 22 3 4 := Or.inl (sm_gd 122 (by decide +kernel) (by rfl))
theorem fI_3_4 : 3 < 8 ∧ 4 < sm_cN 3 ∧ (sm_ty 3 4).isReference = false := ⟨by decide, by decide, rfl⟩
theorem fP_3_4 : 3 < 8 ∧ 4 < sm_cN 3 ∧ (sm_cT 3 4).2.2.2 = false := ⟨by decide, by decide, rfl⟩
theorem lf_RX4_46 : sm_lkF RX4 46 3 5 := Or.inl (sm_gd 127 (by decide +kernel) (by rfl))
theorem fI_3_5 : 3 < 8 ∧ 5 < sm_cN 3 ∧ (sm_ty 3 5).isReference = false := ⟨by decide, by decide, rfl⟩
theorem fP_3_5 : 3 < 8 ∧ 5 < sm_cN 3 ∧ (sm_cT 3 5).2.2.2 = false := ⟨by decide, by decide, rfl⟩
theorem lf_RX4_49 : sm_lkF RX4 49 3 6 := Or.inl (sm_gd 131 (by decide +kernel) (by rfl))
theorem fI_3_6 : 3 < 8 ∧ 6 < sm_cN 3 ∧ (sm_ty 3 6).isReference = false := ⟨by decide, by decide, rfl⟩
theorem fP_3_6 : 3 < 8 ∧ 6 < sm_cN 3 ∧ (sm_cT 3 6).2.2.2 = false := ⟨by decide, by decide, rfl⟩
theorem lf_RX4_52 : sm_lkF RX4 52 3 7 := Or.inl (sm_gd 133 (by decide +kernel) (by rfl))
theorem fI_3_7 : 3 < 8 ∧ 7 < sm_cN 3 ∧ (sm_ty 3 7).isReference = false := ⟨by decide, by decide, rfl⟩
theorem fP_3_7 : 3 < 8 ∧ 7 < sm_cN 3 ∧ (sm_cT 3 7).2.2.2 = false := ⟨by decide, by decide, rfl⟩
theorem lf_RX4_55 : sm_lkF RX4 55 3 8 := Or.inl (sm_gd 135 (by decide +kernel) (by rfl))
theorem fI_3_8 : 3 < 8 ∧ 8 < sm_cN 3 ∧ (sm_ty 3 8).isReference = false := ⟨by decide, by decide, rfl⟩
theorem fP_3_8 : 3 < 8 ∧ 8 < sm_cN 3 ∧ (sm_cT 3 8).2.2.2 = false := ⟨by decide, by decide, rfl⟩
theorem lf_RX4_25 : sm_lkF RX4 25 3 9 := Or.inl (sm_gd 137 (by decide +kernel) (by rfl))
theorem fI_3_9 : 3 < 8 ∧ 9 < sm_cN 3 ∧ (sm_ty 3 9).isReference = false := ⟨by decide, by decide, rfl⟩
theorem fP_3_9 : 3 < 8 ∧ 9 < sm_cN 3 ∧ (sm_cT 3 9).2.2.2 = false := ⟨by decide, by decide, rfl⟩
theorem lf_RX4_28 : sm_lkF RX4 28 3 10 := Or.inl (sm_gd 140 (by decide +kernel) (by rfl))
theorem fI_3_10 : 3 < 8 ∧ 10 < sm_cN 3 ∧ (sm_ty 3 10).isReference = false := ⟨by decide, by decide, rfl⟩
theorem fP_3_10 : 3 < 8 ∧ 10 < sm_cN 3 ∧ (sm_cT 3 10).2.2.2 = false := ⟨by decide, by decide, rfl⟩
theorem lf_RX4_31 : sm_lkF RX4 31 3 11 := Or.inl (sm_gd 143 (by decide +kernel) (by rfl))
theorem fI_3_11 : 3 < 8 ∧ 11 < sm_cN 3 ∧ (sm_ty 3 11).isReference = false := ⟨by decide, by decide, rfl⟩
theorem fP_3_11 : 3 < 8 ∧ 11 < sm_cN 3 ∧ (sm_cT 3 11).2.2.2 = false := ⟨by decide, by decide, rfl⟩
theorem lf_RX4_34 : sm_lkF RX4 34 3 12 := Or.inl (sm_gd 146 (by decide +kernel) (by rfl))
theorem fI_3_12 : 3 < 8 ∧ 12 < sm_cN 3 ∧ (sm_ty 3 12).isReference = false := ⟨by decide, by decide, rfl⟩
theorem fP_3_12 : 3 < 8 ∧ 12 < sm_cN 3 ∧ (sm_cT 3 12).2.2.2 = false := ⟨by decide, by decide, rfl⟩
theorem lf_RX4_37 : sm_lkF RX4 37 3 13 := Or.inl (sm_gd 149 (by decide +kernel) (by rfl))
theorem fI_3_13 : 3 < 8 ∧ 13 < sm_cN 3 ∧ (sm_ty 3 13).isReference = false := ⟨by decide, by decide, rfl⟩
theorem fP_3_13 : 3 < 8 ∧ 13 < sm_cN 3 ∧ (sm_cT 3 13).2.2.2 = false := ⟨by decide, by decide, rfl⟩
theorem lf_RX3_7 : sm_lkF RX3 7 2 0 := Or.inl (sm_gd 186 (by decide +kernel) (by rfl))
theorem fI_2_0 : 2 < 8 ∧ 0 < sm_cN 2 ∧ (sm_ty 2 0).isReference = false := ⟨by decide, by decide, rfl⟩
theorem fP_2_0 : 2 < 8 ∧ 0 < sm_cN 2 ∧ (sm_cT 2 0).2.2.2 = false := ⟨by decide, by decide, rfl⟩
theorem lf_RX3_13 : sm_lkF RX3 13 2 1 := Or.inl (sm_gd 189 (by decide +kernel) (by rfl))
theorem fI_2_1 : 2 < 8 ∧ 1 < sm_cN 2 ∧ (sm_ty 2 1).isReference = false := ⟨by decide, by decide, rfl⟩
theorem fP_2_1 : 2 < 8 ∧ 1 < sm_cN 2 ∧ (sm_cT 2 1).2.2.2 = false := ⟨by decide, by decide, rfl⟩
theorem lf_RX3_16 : sm_lkF RX3 16 2 2 := Or.inl (sm_gd 191 (by decide +kernel) (by rfl))
theorem fI_2_2 : 2 < 8 ∧ 2 < sm_cN 2 ∧ (sm_ty 2 2).isReference = false := ⟨by decide, by decide, rfl⟩
theorem fP_2_2 : 2 < 8 ∧ 2 < sm_cN 2 ∧ (sm_cT 2 2).2.2.2 = false := ⟨by decide, by decide, rfl⟩
theorem lf_RX3_19 : sm_lkF RX3 19 2 3 := Or.inl (sm_gd 194 (by decide +kernel) (by rfl))
theorem fI_2_3 : 2 < 8 ∧ 3 < sm_cN 2 ∧ (sm_ty 2 3).isReference = false := ⟨by decide, by decide, rfl⟩
theorem fP_2_3 : 2 < 8 ∧ 3 < sm_cN 2 ∧ (sm_cT 2 3).2.2.2 = false := ⟨by decide, by decide, rfl⟩
theorem lf_RX3_22 : sm_lkF RX3 22 2 4 := Or.inl (sm_gd 197 (by decide +kernel) (by rfl))
theorem fI_2_4 : 2 < 8 ∧ 4 < sm_cN 2 ∧ (sm_ty 2 4).isReference = false := ⟨by decide, by decide, rfl⟩
theorem fP_2_4 : 2 < 8 ∧ 4 < sm_cN 2 ∧ (sm_cT 2 4).2.2.2 = false := ⟨by decide, by decide, rfl⟩
theorem lf_RX1_9 : sm_lkF RX1 9 0 0 := Or.inl (sm_gd 216 (by decide +kernel) (by rfl))
theorem fI_0_0 : 0 < 8 ∧ 0 < sm_cN 0 ∧ (sm_ty 0 0).isReference = false := ⟨by decide, by decide, rfl⟩
theorem fP_0_0 : 0 < 8 ∧ 0 < sm_cN 0 ∧ (sm_cT 0 0).2.2.2 = false := ⟨by decide, by decide, rfl⟩
theorem lf_RX1_15 : sm_lkF RX1 15 0 1 := Or.inl (sm_gd 221 (by decide +kernel) (by rfl))
theorem fI_0_1 : 0 < 8 ∧ 1 < sm_cN 0 ∧ (sm_ty 0 1).isReference = false := ⟨by decide, by decide, rfl⟩
theorem fP_0_1 : 0 < 8 ∧ 1 < sm_cN 0 ∧ (sm_cT 0 1).2.2.2 = false := ⟨by decide, by decide, rfl⟩
theorem lf_RX1_18 : sm_lkF RX1 18 0 2 := Or.inl (sm_gd 225 (by decide +kernel) (by rfl))
theorem fI_0_2 : 0 < 8 ∧ 2 < sm_cN 0 ∧ (sm_ty 0 2).isReference = false := ⟨by decide, by decide, rfl⟩
theorem fP_0_2 : 0 < 8 ∧ 2 < sm_cN 0 ∧ (sm_cT 0 2).2.2.2 = false := ⟨by decide, by decide, rfl⟩
theorem lf_RX1_21 : sm_lkF RX1 21 0 3 := Or.inl (sm_gd 228 (by decide +kernel) (by rfl))
theorem fI_0_3 : 0 < 8 ∧ 3 < sm_cN 0 ∧ (sm_ty 0 3).isReference = false := ⟨by decide, by decide, rfl⟩
theorem fP_0_3 : 0 < 8 ∧ 3 < sm_cN 0 ∧ (sm_cT 0 3).2.2.2 = false := ⟨by decide, by decide, rfl⟩
theorem lf_RX1_24 : sm_lkF RX1 24 0 4 := Or.inl (sm_gd 230 (by decide +kernel) (by rfl))
theorem fI_0_4 : 0 < 8 ∧ 4 < sm_cN 0 ∧ (sm_ty 0 4).isReference = false := ⟨by decide, by decide, rfl⟩
theorem fP_0_4 : 0 < 8 ∧ 4 < sm_cN 0 ∧ (sm_cT 0 4).2.2.2 = false := ⟨by decide, by decide, rfl⟩
theorem lf_RX1_27 : sm_lkF RX1 27 0 5 := Or.inl (sm_gd 233 (by decide +kernel) (by rfl))
theorem fI_0_5 : 0 < 8 ∧ 5 < sm_cN 0 ∧ (sm_ty 0 5).isReference = false := ⟨by decide, by decide, rfl⟩
theorem fP_0_5 : 0 < 8 ∧ 5 < sm_cN 0 ∧ (sm_cT 0 5).2.2.2 = false := ⟨by decide, by decide, rfl⟩
theorem lf_RX1_30 : sm_lkF RX1 30 0 6 := Or.inl (sm_gd 238 (by decide +kernel) (by rfl))
theorem fI_0_6 : 0 < 8 ∧ 6 < sm_cN 0 ∧ (sm_ty 0 6).isReference = false := ⟨by decide, by decide, rfl⟩
theorem fP_0_6 : 0 < 8 ∧ 6 < sm_cN 0 ∧ (sm_cT 0 6).2.2.2 = false := ⟨by decide, by decide, rfl⟩
theorem lf_RX1_33 : sm_lkF RX1 33 0 7 := Or.inl (sm_gd 242 (by decide +kernel) (by rfl))
theorem fI_0_7 : 0 < 8 ∧ 7 < sm_cN 0 ∧ (sm_ty 0 7).isReference = false := ⟨by decide, by decide, rfl⟩
theorem fP_0_7 : 0 < 8 ∧ 7 < sm_cN 0 ∧ (sm_cT 0 7).2.2.2 = false := ⟨by decide, by decide, rfl⟩
theorem lf_RX1_36 : sm_lkF RX1 36 0 8 := Or.inl (sm_gd 244 (by decide +kernel) (by rfl))
theorem fI_0_8 : 0 < 8 ∧ 8 < sm_cN 0 ∧ (sm_ty 0 8).isReference = false := ⟨by decide, by decide, rfl⟩
theorem fP_0_8 : 0 < 8 ∧ 8 < sm_cN 0 ∧ (sm_cT 0 8).2.2.2 = false := ⟨by decide, by decide, rfl⟩
theorem lf_RX1_39 : sm_lkF RX1 39 0 9 := Or.inl (sm_gd 247 (by decide +kernel) (by rfl))
theorem fI_0_9 : 0 < 8 ∧ 9 < sm_cN 0 ∧ (sm_ty 0 9).isReference = false := ⟨by decide, by decide, rfl⟩
theorem fP_0_9 : 0 < 8 ∧ 9 < sm_cN 0 ∧ (sm_cT 0 9).2.2.2 = false := ⟨by decide, by decide, rfl⟩
theorem lf_RX1_42 : sm_lkF RX1 42 0 10 := Or.inl (sm_gd 250 (by decide +kernel) (by rfl))
theorem fI_0_10 : 0 < 8 ∧ 10 < sm_cN 0 ∧ (sm_ty 0 10).isReference = false := ⟨by decide, by decide, rfl⟩
theorem fP_0_10 : 0 < 8 ∧ 10 < sm_cN 0 ∧ (sm_cT 0 10).2.2.2 = false := ⟨by decide, by decide, rfl⟩
theorem lf_RX7_12 : sm_lkF RX7 12 5 0 := Or.inl (sm_gd 277 (by decide +kernel) (by rfl))
theorem fR_5_0 : 5 < 8 ∧ 0 < sm_cN 5 ∧ (sm_ty 5 0).isReference = true := ⟨by decide, by decide, rfl⟩
theorem lk_RX7_49 : sm_lk RX7 49 yX5_copyFrom cX5_copyFrom 2 none 1 := ⟨(sm_gd 414 (by decide +kernel) (by rfl)), (sm_gd 50 (by decide +kernel) (by rfl)), ⟨by decide +kernel, by decide +kernel, by decide +kernel⟩, Or.inl (sm_gd 411 (by decide +kernel) (by rfl))⟩
theorem vf_X5_copyFrom : 4 < 8 ∧ sm_cC 4 = yX5_copyFrom.cls ∧ Cond.instanceMethod yX5_copyFrom ∈ sm_tb ∧ Cond.selects yX5_copyFrom.cls yX5_copyFrom yX5_copyFrom ∈ sm_tb := ⟨by decide, rfl, (sm_gd 412 (by decide +kernel) (by rfl)), (sm_gd 413 (by decide +kernel) (by rfl))⟩
theorem lf_RX7_18 : sm_lkF RX7 18 5 1 := Or.inl (sm_gd 281 (by decide +kernel) (by rfl))
theorem fR_5_1 : 5 < 8 ∧ 1 < sm_cN 5 ∧ (sm_ty 5 1).isReference = true := ⟨by decide, by decide, rfl⟩
theorem lx_RX7_53 : Cond.methodLink RX7 53 arraycopyName ∈ sm_tb ∧ Cond.native arraycopyName ∈ sm_tb ∧ Cond.static arraycopyName ∈ sm_tb ∧ Cond.initialized "java/lang/System" ∈ sm_tb := ⟨(sm_gd 418 (by decide +kernel) (by rfl)), (sm_gd 417 (by decide +kernel) (by rfl)), (sm_gd 416 (by decide +kernel) (by rfl)), (sm_gd 56 (by decide +kernel) (by rfl))⟩
theorem lf_RX7_40 : sm_lkF RX7 40 5 9 := Or.inl (sm_gd 308 (by decide +kernel) (by rfl))
theorem fR_5_9 : 5 < 8 ∧ 9 < sm_cN 5 ∧ (sm_ty 5 9).isReference = true := ⟨by decide, by decide, rfl⟩
theorem lf_RX7_59 : sm_lkF RX7 59 5 4 := Or.inl (sm_gd 290 (by decide +kernel) (by rfl))
theorem fI_5_4 : 5 < 8 ∧ 4 < sm_cN 5 ∧ (sm_ty 5 4).isReference = false := ⟨by decide, by decide, rfl⟩
theorem lf_RX7_24 : sm_lkF RX7 24 5 3 := Or.inl (sm_gd 285 (by decide +kernel) (by rfl))
theorem fR_5_3 : 5 < 8 ∧ 3 < sm_cN 5 ∧ (sm_ty 5 3).isReference = true := ⟨by decide, by decide, rfl⟩
theorem lk_RX7_63 : sm_lk RX7 63 yX4_copyFrom cX4_copyFrom 2 none 1 := ⟨(sm_gd 422 (by decide +kernel) (by rfl)), (sm_gd 51 (by decide +kernel) (by rfl)), ⟨by decide +kernel, by decide +kernel, by decide +kernel⟩, Or.inl (sm_gd 419 (by decide +kernel) (by rfl))⟩
theorem vf_X4_copyFrom : 3 < 8 ∧ sm_cC 3 = yX4_copyFrom.cls ∧ Cond.instanceMethod yX4_copyFrom ∈ sm_tb ∧ Cond.selects yX4_copyFrom.cls yX4_copyFrom yX4_copyFrom ∈ sm_tb := ⟨by decide, rfl, (sm_gd 420 (by decide +kernel) (by rfl)), (sm_gd 421 (by decide +kernel) (by rfl))⟩
theorem lf_RX7_66 : sm_lkF RX7 66 5 6 := Or.inl (sm_gd 296 (by decide +kernel) (by rfl))
theorem fI_5_6 : 5 < 8 ∧ 6 < sm_cN 5 ∧ (sm_ty 5 6).isReference = false := ⟨by decide, by decide, rfl⟩
theorem lf_RX7_30 : sm_lkF RX7 30 5 5 := Or.inl (sm_gd 293 (by decide +kernel) (by rfl))
theorem fR_5_5 : 5 < 8 ∧ 5 < sm_cN 5 ∧ (sm_ty 5 5).isReference = true := ⟨by decide, by decide, rfl⟩
theorem lk_RX7_69 : sm_lk RX7 69 yX3_copyFrom cX3_copyFrom 2 none 1 := ⟨(sm_gd 426 (by decide +kernel) (by rfl)), (sm_gd 52 (by decide +kernel) (by rfl)), ⟨by decide +kernel, by decide +kernel, by decide +kernel⟩, Or.inl (sm_gd 423 (by decide +kernel) (by rfl))⟩
theorem vf_X3_copyFrom : 2 < 8 ∧ sm_cC 2 = yX3_copyFrom.cls ∧ Cond.instanceMethod yX3_copyFrom ∈ sm_tb ∧ Cond.selects yX3_copyFrom.cls yX3_copyFrom yX3_copyFrom ∈ sm_tb := ⟨by decide, rfl, (sm_gd 424 (by decide +kernel) (by rfl)), (sm_gd 425 (by decide +kernel) (by rfl))⟩
theorem lf_RX7_72 : sm_lkF RX7 72 5 8 := Or.inl (sm_gd 305 (by decide +kernel) (by rfl))
theorem fI_5_8 : 5 < 8 ∧ 8 < sm_cN 5 ∧ (sm_ty 5 8).isReference = false := ⟨by decide, by decide, rfl⟩
theorem lf_RX7_36 : sm_lkF RX7 36 5 7 := Or.inl (sm_gd 299 (by decide +kernel) (by rfl))
theorem fR_5_7 : 5 < 8 ∧ 7 < sm_cN 5 ∧ (sm_ty 5 7).isReference = true := ⟨by decide, by decide, rfl⟩
theorem lk_RX7_75 : sm_lk RX7 75 yX1_copyFrom cX1_copyFrom 2 none 1 := ⟨(sm_gd 430 (by decide +kernel) (by rfl)), (sm_gd 53 (by decide +kernel) (by rfl)), ⟨by decide +kernel, by decide +kernel, by decide +kernel⟩, Or.inl (sm_gd 427 (by decide +kernel) (by rfl))⟩
theorem vf_X1_copyFrom : 0 < 8 ∧ sm_cC 0 = yX1_copyFrom.cls ∧ Cond.instanceMethod yX1_copyFrom ∈ sm_tb ∧ Cond.selects yX1_copyFrom.cls yX1_copyFrom yX1_copyFrom ∈ sm_tb := ⟨by decide, rfl, (sm_gd 428 (by decide +kernel) (by rfl)), (sm_gd 429 (by decide +kernel) (by rfl))⟩
theorem lf_RX7_78 : sm_lkF RX7 78 5 2 := Or.inl (sm_gd 283 (by decide +kernel) (by rfl))
theorem fI_5_2 : 5 < 8 ∧ 2 < sm_cN 5 ∧ (sm_ty 5 2).isReference = false := ⟨by decide, by decide, rfl⟩
theorem fP_5_2 : 5 < 8 ∧ 2 < sm_cN 5 ∧ (sm_cT 5 2).2.2.2 = false := ⟨by decide, by decide, rfl⟩
theorem fP_5_4 : 5 < 8 ∧ 4 < sm_cN 5 ∧ (sm_cT 5 4).2.2.2 = false := ⟨by decide, by decide, rfl⟩
theorem fP_5_6 : 5 < 8 ∧ 6 < sm_cN 5 ∧ (sm_cT 5 6).2.2.2 = false := ⟨by decide, by decide, rfl⟩
theorem fP_5_8 : 5 < 8 ∧ 8 < sm_cN 5 ∧ (sm_cT 5 8).2.2.2 = false := ⟨by decide, by decide, rfl⟩
theorem lf_RX7_81 : sm_lkF RX7 81 5 10 := Or.inl (sm_gd 310 (by decide +kernel) (by rfl))
theorem fI_5_10 : 5 < 8 ∧ 10 < sm_cN 5 ∧ (sm_ty 5 10).isReference = false := ⟨by decide, by decide, rfl⟩
theorem fP_5_10 : 5 < 8 ∧ 10 < sm_cN 5 ∧ (sm_cT 5 10).2.2.2 = false := ⟨by decide, by decide, rfl⟩
theorem lf_RX7_84 : sm_lkF RX7 84 5 11 := Or.inl (sm_gd 313 (by decide +kernel) (by rfl))
theorem fI_5_11 : 5 < 8 ∧ 11 < sm_cN 5 ∧ (sm_ty 5 11).isReference = false := ⟨by decide, by decide, rfl⟩
theorem fP_5_11 : 5 < 8 ∧ 11 < sm_cN 5 ∧ (sm_cT 5 11).2.2.2 = false := ⟨by decide, by decide, rfl⟩
theorem lf_RX9_192 : sm_lkF RX9 192 6 4 := Or.inl (sm_gd 373 (by decide +kernel) (by rfl))
theorem fI_6_4 : 6 < 8 ∧ 4 < sm_cN 6 ∧ (sm_ty 6 4).isReference = false := ⟨by decide, by decide, rfl⟩
theorem lf_RX9_22 : sm_lkF RX9 22 6 3 := Or.inl (sm_gd 372 (by decide +kernel) (by rfl))
theorem fR_6_3 : 6 < 8 ∧ 3 < sm_cN 6 ∧ (sm_ty 6 3).isReference = true := ⟨by decide, by decide, rfl⟩
theorem lf_RX9_10 : sm_lkF RX9 10 6 0 := Or.inl (sm_gd 369 (by decide +kernel) (by rfl))
theorem fR_6_0 : 6 < 8 ∧ 0 < sm_cN 6 ∧ (sm_ty 6 0).isReference = true := ⟨by decide, by decide, rfl⟩
theorem lk_RX9_180 : sm_lk RX9 180 yX7_copyFrom cX7_copyFrom 3 none 1 := ⟨(sm_gd 410 (by decide +kernel) (by rfl)), (sm_gd 49 (by decide +kernel) (by rfl)), ⟨by decide +kernel, by decide +kernel, by decide +kernel⟩, Or.inl (sm_gd 407 (by decide +kernel) (by rfl))⟩
theorem vf_X7_copyFrom : 5 < 8 ∧ sm_cC 5 = yX7_copyFrom.cls ∧ Cond.instanceMethod yX7_copyFrom ∈ sm_tb ∧ Cond.selects yX7_copyFrom.cls yX7_copyFrom yX7_copyFrom ∈ sm_tb := ⟨by decide, rfl, (sm_gd 408 (by decide +kernel) (by rfl)), (sm_gd 409 (by decide +kernel) (by rfl))⟩
theorem fP_6_4 : 6 < 8 ∧ 4 < sm_cN 6 ∧ (sm_cT 6 4).2.2.2 = false := ⟨by decide, by decide, rfl⟩
theorem lc_RX5_18 : Cond.constant RX5 18 (Int32.ofInt (1000000)) ∈ sm_tb := (sm_gd 81 (by decide +kernel) (by rfl))
theorem lk_RX5_33 : sm_lk RX5 33 yX5_between cX5_between 3 (some .int) 2 := ⟨(sm_gd 438 (by decide +kernel) (by rfl)), (sm_gd 50 (by decide +kernel) (by rfl)), ⟨by decide +kernel, by decide +kernel, by decide +kernel⟩, Or.inl (sm_gd 435 (by decide +kernel) (by rfl))⟩
theorem vf_X5_between : 4 < 8 ∧ sm_cC 4 = yX5_between.cls ∧ Cond.instanceMethod yX5_between ∈ sm_tb ∧ Cond.selects yX5_between.cls yX5_between yX5_between ∈ sm_tb := ⟨by decide, rfl, (sm_gd 436 (by decide +kernel) (by rfl)), (sm_gd 437 (by decide +kernel) (by rfl))⟩
theorem lm_RX5_37 : Cond.methodLink RX5 37 Lib.Math.min.name ∈ sm_tb ∧ Cond.static Lib.Math.min.name ∈ sm_tb ∧ Cond.initialized "java/lang/Math" ∈ sm_tb ∧ Cond.code Lib.Math.min.name Lib.Math.min.code 2 (some .int) ∈ sm_tb := ⟨(sm_gd 439 (by decide +kernel) (by rfl)), (sm_gd 440 (by decide +kernel) (by rfl)), (sm_gd 57 (by decide +kernel) (by rfl)), (sm_gd 441 (by decide +kernel) (by rfl))⟩
theorem lk_RX9_33 : sm_lk RX9 33 yX9_isArea cX9_isArea 1 (some .boolean) 1 := ⟨(sm_gd 397 (by decide +kernel) (by rfl)), (sm_gd 48 (by decide +kernel) (by rfl)), ⟨by decide +kernel, by decide +kernel, by decide +kernel⟩, Or.inl (sm_gd 395 (by decide +kernel) (by rfl))⟩
theorem lf_RX9_37 : sm_lkF RX9 37 5 0 := Or.inr ⟨"PatrolDesk", (List.mem_of_getElem? (i := 278) (by decide +kernel))⟩
theorem lk_RX9_41 : sm_lk RX9 41 yX5_road cX5_road 3 (some .int) 2 := ⟨(sm_gd 401 (by decide +kernel) (by rfl)), (sm_gd 50 (by decide +kernel) (by rfl)), ⟨by decide +kernel, by decide +kernel, by decide +kernel⟩, Or.inl (sm_gd 398 (by decide +kernel) (by rfl))⟩
theorem vf_X5_road : 4 < 8 ∧ sm_cC 4 = yX5_road.cls ∧ Cond.instanceMethod yX5_road ∈ sm_tb ∧ Cond.selects yX5_road.cls yX5_road yX5_road ∈ sm_tb := ⟨by decide, rfl, (sm_gd 399 (by decide +kernel) (by rfl)), (sm_gd 400 (by decide +kernel) (by rfl))⟩
theorem lf_RX9_47 : sm_lkF RX9 47 4 0 := Or.inr ⟨"PatrolDesk", (List.mem_of_getElem? (i := 83) (by decide +kernel))⟩
theorem lk_RX9_51 : sm_lk RX9 51 yX9_record cX9_record 3 none 0 := ⟨(sm_gd 406 (by decide +kernel) (by rfl)), (sm_gd 48 (by decide +kernel) (by rfl)), ⟨by decide +kernel, by decide +kernel, by decide +kernel⟩, Or.inl (sm_gd 403 (by decide +kernel) (by rfl))⟩
theorem vf_X9_record : 6 < 8 ∧ sm_cC 6 = yX9_record.cls ∧ Cond.instanceMethod yX9_record ∈ sm_tb ∧ Cond.selects yX9_record.cls yX9_record yX9_record ∈ sm_tb := ⟨by decide, rfl, (sm_gd 405 (by decide +kernel) (by rfl)), (sm_gd 0 (by decide +kernel) (by rfl))⟩
theorem lk_RX9_54 : sm_lk RX9 54 yX5_build cX5_build 9 (some .int) 3 := ⟨(sm_gd 434 (by decide +kernel) (by rfl)), (sm_gd 50 (by decide +kernel) (by rfl)), ⟨by decide +kernel, by decide +kernel, by decide +kernel⟩, Or.inl (sm_gd 431 (by decide +kernel) (by rfl))⟩
theorem vf_X5_build : 4 < 8 ∧ sm_cC 4 = yX5_build.cls ∧ Cond.instanceMethod yX5_build ∈ sm_tb ∧ Cond.selects yX5_build.cls yX5_build yX5_build ∈ sm_tb := ⟨by decide, rfl, (sm_gd 432 (by decide +kernel) (by rfl)), (sm_gd 433 (by decide +kernel) (by rfl))⟩
theorem lk_RX9_58 : sm_lk RX9 58 yX9_isTier cX9_isTier 1 (some .boolean) 1 := ⟨(sm_gd 448 (by decide +kernel) (by rfl)), (sm_gd 48 (by decide +kernel) (by rfl)), ⟨by decide +kernel, by decide +kernel, by decide +kernel⟩, Or.inl (sm_gd 446 (by decide +kernel) (by rfl))⟩
theorem sf_X9_isTier : Cond.static yX9_isTier ∈ sm_tb := (sm_gd 447 (by decide +kernel) (by rfl))
theorem lf_RX9_61 : sm_lkF RX9 61 5 2 := Or.inr ⟨"PatrolDesk", (List.mem_of_getElem? (i := 284) (by decide +kernel))⟩
theorem lk_RX9_64 : sm_lk RX9 64 yX7_enrol cX7_enrol 2 (some .int) 1 := ⟨(sm_gd 452 (by decide +kernel) (by rfl)), (sm_gd 49 (by decide +kernel) (by rfl)), ⟨by decide +kernel, by decide +kernel, by decide +kernel⟩, Or.inl (sm_gd 449 (by decide +kernel) (by rfl))⟩
theorem vf_X7_enrol : 5 < 8 ∧ sm_cC 5 = yX7_enrol.cls ∧ Cond.instanceMethod yX7_enrol ∈ sm_tb ∧ Cond.selects yX7_enrol.cls yX7_enrol yX7_enrol ∈ sm_tb := ⟨by decide, rfl, (sm_gd 450 (by decide +kernel) (by rfl)), (sm_gd 451 (by decide +kernel) (by rfl))⟩
theorem lk_RX4_40 : sm_lk RX4 40 yX4_becomeFree cX4_becomeFree 1 none 0 := ⟨(sm_gd 468 (by decide +kernel) (by rfl)), (sm_gd 51 (by decide +kernel) (by rfl)), ⟨by decide +kernel, by decide +kernel, by decide +kernel⟩, Or.inl (sm_gd 465 (by decide +kernel) (by rfl))⟩
theorem vf_X4_becomeFree : 3 < 8 ∧ sm_cC 3 = yX4_becomeFree.cls ∧ Cond.instanceMethod yX4_becomeFree ∈ sm_tb ∧ Cond.selects yX4_becomeFree.cls yX4_becomeFree yX4_becomeFree ∈ sm_tb := ⟨by decide, rfl, (sm_gd 466 (by decide +kernel) (by rfl)), (sm_gd 467 (by decide +kernel) (by rfl))⟩
theorem lk_RX7_87 : sm_lk RX7 87 yX4_begin cX4_begin 4 none 3 := ⟨(sm_gd 464 (by decide +kernel) (by rfl)), (sm_gd 51 (by decide +kernel) (by rfl)), ⟨by decide +kernel, by decide +kernel, by decide +kernel⟩, Or.inl (sm_gd 461 (by decide +kernel) (by rfl))⟩
theorem vf_X4_begin : 3 < 8 ∧ sm_cC 3 = yX4_begin.cls ∧ Cond.instanceMethod yX4_begin ∈ sm_tb ∧ Cond.selects yX4_begin.cls yX4_begin yX4_begin ∈ sm_tb := ⟨by decide, rfl, (sm_gd 462 (by decide +kernel) (by rfl)), (sm_gd 463 (by decide +kernel) (by rfl))⟩
theorem lf_RX9_68 : sm_lkF RX9 68 5 4 := Or.inr ⟨"PatrolDesk", (List.mem_of_getElem? (i := 291) (by decide +kernel))⟩
theorem lk_RX9_71 : sm_lk RX9 71 yX7_hire cX7_hire 4 (some .int) 3 := ⟨(sm_gd 460 (by decide +kernel) (by rfl)), (sm_gd 49 (by decide +kernel) (by rfl)), ⟨by decide +kernel, by decide +kernel, by decide +kernel⟩, Or.inl (sm_gd 457 (by decide +kernel) (by rfl))⟩
theorem vf_X7_hire : 5 < 8 ∧ sm_cC 5 = yX7_hire.cls ∧ Cond.instanceMethod yX7_hire ∈ sm_tb ∧ Cond.selects yX7_hire.cls yX7_hire yX7_hire ∈ sm_tb := ⟨by decide, rfl, (sm_gd 458 (by decide +kernel) (by rfl)), (sm_gd 459 (by decide +kernel) (by rfl))⟩
theorem lk_RX7_91 : sm_lk RX7 91 yX3_begin cX3_begin 3 none 2 := ⟨(sm_gd 480 (by decide +kernel) (by rfl)), (sm_gd 52 (by decide +kernel) (by rfl)), ⟨by decide +kernel, by decide +kernel, by decide +kernel⟩, Or.inl (sm_gd 477 (by decide +kernel) (by rfl))⟩
theorem vf_X3_begin : 2 < 8 ∧ sm_cC 2 = yX3_begin.cls ∧ Cond.instanceMethod yX3_begin ∈ sm_tb ∧ Cond.selects yX3_begin.cls yX3_begin yX3_begin ∈ sm_tb := ⟨by decide, rfl, (sm_gd 478 (by decide +kernel) (by rfl)), (sm_gd 479 (by decide +kernel) (by rfl))⟩
theorem lf_RX9_75 : sm_lkF RX9 75 5 6 := Or.inr ⟨"PatrolDesk", (List.mem_of_getElem? (i := 297) (by decide +kernel))⟩
theorem lk_RX9_78 : sm_lk RX9 78 yX7_open cX7_open 3 (some .int) 2 := ⟨(sm_gd 476 (by decide +kernel) (by rfl)), (sm_gd 49 (by decide +kernel) (by rfl)), ⟨by decide +kernel, by decide +kernel, by decide +kernel⟩, Or.inl (sm_gd 473 (by decide +kernel) (by rfl))⟩
theorem vf_X7_open : 5 < 8 ∧ sm_cC 5 = yX7_open.cls ∧ Cond.instanceMethod yX7_open ∈ sm_tb ∧ Cond.selects yX7_open.cls yX7_open yX7_open ∈ sm_tb := ⟨by decide, rfl, (sm_gd 474 (by decide +kernel) (by rfl)), (sm_gd 475 (by decide +kernel) (by rfl))⟩
theorem lf_RX9_81 : sm_lkF RX9 81 5 9 := Or.inr ⟨"PatrolDesk", (List.mem_of_getElem? (i := 309) (by decide +kernel))⟩
theorem lf_RX9_85 : sm_lkF RX9 85 5 10 := Or.inr ⟨"PatrolDesk", (List.mem_of_getElem? (i := 311) (by decide +kernel))⟩
theorem lf_RX7_130 : sm_lkF RX7 130 0 0 := Or.inr ⟨"PatrolDesk", (List.mem_of_getElem? (i := 219) (by decide +kernel))⟩
theorem lk_RX7_145 : sm_lk RX7 145 yX1_isOpen cX1_isOpen 1 (some .boolean) 0 := ⟨(sm_gd 509 (by decide +kernel) (by rfl)), (sm_gd 53 (by decide +kernel) (by rfl)), ⟨by decide +kernel, by decide +kernel, by decide +kernel⟩, Or.inl (sm_gd 506 (by decide +kernel) (by rfl))⟩
theorem vf_X1_isOpen : 0 < 8 ∧ sm_cC 0 = yX1_isOpen.cls ∧ Cond.instanceMethod yX1_isOpen ∈ sm_tb ∧ Cond.selects yX1_isOpen.cls yX1_isOpen yX1_isOpen ∈ sm_tb := ⟨by decide, rfl, (sm_gd 507 (by decide +kernel) (by rfl)), (sm_gd 508 (by decide +kernel) (by rfl))⟩
theorem lk_RX7_94 : sm_lk RX7 94 yX7_isMember cX7_isMember 2 (some .boolean) 1 := ⟨(sm_gd 500 (by decide +kernel) (by rfl)), (sm_gd 49 (by decide +kernel) (by rfl)), ⟨by decide +kernel, by decide +kernel, by decide +kernel⟩, Or.inl (sm_gd 497 (by decide +kernel) (by rfl))⟩
theorem vf_X7_isMember : 5 < 8 ∧ sm_cC 5 = yX7_isMember.cls ∧ Cond.instanceMethod yX7_isMember ∈ sm_tb ∧ Cond.selects yX7_isMember.cls yX7_isMember yX7_isMember ∈ sm_tb := ⟨by decide, rfl, (sm_gd 498 (by decide +kernel) (by rfl)), (sm_gd 499 (by decide +kernel) (by rfl))⟩
theorem lk_RX7_98 : sm_lk RX7 98 yX9_isArea cX9_isArea 1 (some .boolean) 1 := ⟨(sm_gd 397 (by decide +kernel) (by rfl)), (sm_gd 48 (by decide +kernel) (by rfl)), ⟨by decide +kernel, by decide +kernel, by decide +kernel⟩, Or.inr ⟨"PatrolDesk", (List.mem_of_getElem? (i := 501) (by decide +kernel))⟩⟩
theorem lk_RX7_101 : sm_lk RX7 101 yX7_openCallOf cX7_openCallOf 3 (some .int) 1 := ⟨(sm_gd 505 (by decide +kernel) (by rfl)), (sm_gd 49 (by decide +kernel) (by rfl)), ⟨by decide +kernel, by decide +kernel, by decide +kernel⟩, Or.inl (sm_gd 502 (by decide +kernel) (by rfl))⟩
theorem vf_X7_openCallOf : 5 < 8 ∧ sm_cC 5 = yX7_openCallOf.cls ∧ Cond.instanceMethod yX7_openCallOf ∈ sm_tb ∧ Cond.selects yX7_openCallOf.cls yX7_openCallOf yX7_openCallOf ∈ sm_tb := ⟨by decide, rfl, (sm_gd 503 (by decide +kernel) (by rfl)), (sm_gd 504 (by decide +kernel) (by rfl))⟩
theorem lf_RX7_133 : sm_lkF RX7 133 0 5 := Or.inr ⟨"PatrolDesk", (List.mem_of_getElem? (i := 236) (by decide +kernel))⟩
theorem lf_RX7_136 : sm_lkF RX7 136 0 8 := Or.inr ⟨"PatrolDesk", (List.mem_of_getElem? (i := 245) (by decide +kernel))⟩
theorem lk_RX7_139 : sm_lk RX7 139 yX7_tierOf cX7_tierOf 2 (some .int) 1 := ⟨(sm_gd 525 (by decide +kernel) (by rfl)), (sm_gd 49 (by decide +kernel) (by rfl)), ⟨by decide +kernel, by decide +kernel, by decide +kernel⟩, Or.inl (sm_gd 522 (by decide +kernel) (by rfl))⟩
theorem vf_X7_tierOf : 5 < 8 ∧ sm_cC 5 = yX7_tierOf.cls ∧ Cond.instanceMethod yX7_tierOf ∈ sm_tb ∧ Cond.selects yX7_tierOf.cls yX7_tierOf yX7_tierOf ∈ sm_tb := ⟨by decide, rfl, (sm_gd 523 (by decide +kernel) (by rfl)), (sm_gd 524 (by decide +kernel) (by rfl))⟩
theorem lk_RX7_142 : sm_lk RX7 142 yX9_isTier cX9_isTier 1 (some .boolean) 1 := ⟨(sm_gd 448 (by decide +kernel) (by rfl)), (sm_gd 48 (by decide +kernel) (by rfl)), ⟨by decide +kernel, by decide +kernel, by decide +kernel⟩, Or.inr ⟨"PatrolDesk", (List.mem_of_getElem? (i := 526) (by decide +kernel))⟩⟩
theorem lk_RX7_105 : sm_lk RX7 105 yX7_repairedBefore cX7_repairedBefore 3 (some .int) 1 := ⟨(sm_gd 517 (by decide +kernel) (by rfl)), (sm_gd 49 (by decide +kernel) (by rfl)), ⟨by decide +kernel, by decide +kernel, by decide +kernel⟩, Or.inl (sm_gd 514 (by decide +kernel) (by rfl))⟩
theorem vf_X7_repairedBefore : 5 < 8 ∧ sm_cC 5 = yX7_repairedBefore.cls ∧ Cond.instanceMethod yX7_repairedBefore ∈ sm_tb ∧ Cond.selects yX7_repairedBefore.cls yX7_repairedBefore yX7_repairedBefore ∈ sm_tb := ⟨by decide, rfl, (sm_gd 516 (by decide +kernel) (by rfl)), (sm_gd 1 (by decide +kernel) (by rfl))⟩
theorem lk_RX7_108 : sm_lk RX7 108 yX7_promiseOf cX7_promiseOf 3 (some .int) 1 := ⟨(sm_gd 521 (by decide +kernel) (by rfl)), (sm_gd 49 (by decide +kernel) (by rfl)), ⟨by decide +kernel, by decide +kernel, by decide +kernel⟩, Or.inl (sm_gd 518 (by decide +kernel) (by rfl))⟩
theorem vf_X7_promiseOf : 5 < 8 ∧ sm_cC 5 = yX7_promiseOf.cls ∧ Cond.instanceMethod yX7_promiseOf ∈ sm_tb ∧ Cond.selects yX7_promiseOf.cls yX7_promiseOf yX7_promiseOf ∈ sm_tb := ⟨by decide, rfl, (sm_gd 520 (by decide +kernel) (by rfl)), (sm_gd 2 (by decide +kernel) (by rfl))⟩
theorem lk_RX7_111 : sm_lk RX7 111 yX1_begin cX1_begin 6 none 5 := ⟨(sm_gd 530 (by decide +kernel) (by rfl)), (sm_gd 53 (by decide +kernel) (by rfl)), ⟨by decide +kernel, by decide +kernel, by decide +kernel⟩, Or.inl (sm_gd 527 (by decide +kernel) (by rfl))⟩
theorem vf_X1_begin : 0 < 8 ∧ sm_cC 0 = yX1_begin.cls ∧ Cond.instanceMethod yX1_begin ∈ sm_tb ∧ Cond.selects yX1_begin.cls yX1_begin yX1_begin ∈ sm_tb := ⟨by decide, rfl, (sm_gd 528 (by decide +kernel) (by rfl)), (sm_gd 529 (by decide +kernel) (by rfl))⟩
theorem lk_RX7_114 : sm_lk RX7 114 yX7_isCall cX7_isCall 2 (some .boolean) 1 := ⟨(sm_gd 534 (by decide +kernel) (by rfl)), (sm_gd 49 (by decide +kernel) (by rfl)), ⟨by decide +kernel, by decide +kernel, by decide +kernel⟩, Or.inl (sm_gd 531 (by decide +kernel) (by rfl))⟩
theorem vf_X7_isCall : 5 < 8 ∧ sm_cC 5 = yX7_isCall.cls ∧ Cond.instanceMethod yX7_isCall ∈ sm_tb ∧ Cond.selects yX7_isCall.cls yX7_isCall yX7_isCall ∈ sm_tb := ⟨by decide, rfl, (sm_gd 532 (by decide +kernel) (by rfl)), (sm_gd 533 (by decide +kernel) (by rfl))⟩
theorem lf_RX7_117 : sm_lkF RX7 117 0 10 := Or.inr ⟨"PatrolDesk", (List.mem_of_getElem? (i := 252) (by decide +kernel))⟩
theorem lf_RX7_121 : sm_lkF RX7 121 0 6 := Or.inr ⟨"PatrolDesk", (List.mem_of_getElem? (i := 240) (by decide +kernel))⟩
theorem lk_RX7_124 : sm_lk RX7 124 yX7_isPatrol cX7_isPatrol 2 (some .boolean) 1 := ⟨(sm_gd 538 (by decide +kernel) (by rfl)), (sm_gd 49 (by decide +kernel) (by rfl)), ⟨by decide +kernel, by decide +kernel, by decide +kernel⟩, Or.inl (sm_gd 535 (by decide +kernel) (by rfl))⟩
theorem vf_X7_isPatrol : 5 < 8 ∧ sm_cC 5 = yX7_isPatrol.cls ∧ Cond.instanceMethod yX7_isPatrol ∈ sm_tb ∧ Cond.selects yX7_isPatrol.cls yX7_isPatrol yX7_isPatrol ∈ sm_tb := ⟨by decide, rfl, (sm_gd 536 (by decide +kernel) (by rfl)), (sm_gd 537 (by decide +kernel) (by rfl))⟩
theorem lf_RX7_127 : sm_lkF RX7 127 3 11 := Or.inr ⟨"PatrolDesk", (List.mem_of_getElem? (i := 144) (by decide +kernel))⟩
theorem lk_RX9_88 : sm_lk RX9 88 yX7_refusal cX7_refusal 4 (some .int) 3 := ⟨(sm_gd 496 (by decide +kernel) (by rfl)), (sm_gd 49 (by decide +kernel) (by rfl)), ⟨by decide +kernel, by decide +kernel, by decide +kernel⟩, Or.inl (sm_gd 493 (by decide +kernel) (by rfl))⟩
theorem vf_X7_refusal : 5 < 8 ∧ sm_cC 5 = yX7_refusal.cls ∧ Cond.instanceMethod yX7_refusal ∈ sm_tb ∧ Cond.selects yX7_refusal.cls yX7_refusal yX7_refusal ∈ sm_tb := ⟨by decide, rfl, (sm_gd 494 (by decide +kernel) (by rfl)), (sm_gd 495 (by decide +kernel) (by rfl))⟩
theorem lk_RX9_91 : sm_lk RX9 91 yX7_take cX7_take 8 (some .int) 3 := ⟨(sm_gd 513 (by decide +kernel) (by rfl)), (sm_gd 49 (by decide +kernel) (by rfl)), ⟨by decide +kernel, by decide +kernel, by decide +kernel⟩, Or.inl (sm_gd 510 (by decide +kernel) (by rfl))⟩
theorem vf_X7_take : 5 < 8 ∧ sm_cC 5 = yX7_take.cls ∧ Cond.instanceMethod yX7_take ∈ sm_tb ∧ Cond.selects yX7_take.cls yX7_take yX7_take ∈ sm_tb := ⟨by decide, rfl, (sm_gd 511 (by decide +kernel) (by rfl)), (sm_gd 512 (by decide +kernel) (by rfl))⟩
theorem lf_RX7_149 : sm_lkF RX7 149 3 5 := Or.inr ⟨"PatrolDesk", (List.mem_of_getElem? (i := 128) (by decide +kernel))⟩
theorem lk_RX9_94 : sm_lk RX9 94 yX7_isCall cX7_isCall 2 (some .boolean) 1 := ⟨(sm_gd 534 (by decide +kernel) (by rfl)), (sm_gd 49 (by decide +kernel) (by rfl)), ⟨by decide +kernel, by decide +kernel, by decide +kernel⟩, Or.inl (sm_gd 543 (by decide +kernel) (by rfl))⟩
theorem lf_RX9_97 : sm_lkF RX9 97 5 7 := Or.inr ⟨"PatrolDesk", (List.mem_of_getElem? (i := 303) (by decide +kernel))⟩
theorem lk_RX9_101 : sm_lk RX9 101 yX1_isUnattended cX1_isUnattended 1 (some .boolean) 0 := ⟨(sm_gd 547 (by decide +kernel) (by rfl)), (sm_gd 53 (by decide +kernel) (by rfl)), ⟨by decide +kernel, by decide +kernel, by decide +kernel⟩, Or.inl (sm_gd 544 (by decide +kernel) (by rfl))⟩
theorem vf_X1_isUnattended : 0 < 8 ∧ sm_cC 0 = yX1_isUnattended.cls ∧ Cond.instanceMethod yX1_isUnattended ∈ sm_tb ∧ Cond.selects yX1_isUnattended.cls yX1_isUnattended yX1_isUnattended ∈ sm_tb := ⟨by decide, rfl, (sm_gd 545 (by decide +kernel) (by rfl)), (sm_gd 546 (by decide +kernel) (by rfl))⟩
theorem lk_RX9_107 : sm_lk RX9 107 yX7_patrolOf cX7_patrolOf 3 (some .int) 1 := ⟨(sm_gd 551 (by decide +kernel) (by rfl)), (sm_gd 49 (by decide +kernel) (by rfl)), ⟨by decide +kernel, by decide +kernel, by decide +kernel⟩, Or.inl (sm_gd 548 (by decide +kernel) (by rfl))⟩
theorem vf_X7_patrolOf : 5 < 8 ∧ sm_cC 5 = yX7_patrolOf.cls ∧ Cond.instanceMethod yX7_patrolOf ∈ sm_tb ∧ Cond.selects yX7_patrolOf.cls yX7_patrolOf yX7_patrolOf ∈ sm_tb := ⟨by decide, rfl, (sm_gd 549 (by decide +kernel) (by rfl)), (sm_gd 550 (by decide +kernel) (by rfl))⟩
theorem lk_RX9_110 : sm_lk RX9 110 yX7_isPatrol cX7_isPatrol 2 (some .boolean) 1 := ⟨(sm_gd 538 (by decide +kernel) (by rfl)), (sm_gd 49 (by decide +kernel) (by rfl)), ⟨by decide +kernel, by decide +kernel, by decide +kernel⟩, Or.inl (sm_gd 552 (by decide +kernel) (by rfl))⟩
theorem lf_RX9_122 : sm_lkF RX9 122 5 11 := Or.inr ⟨"PatrolDesk", (List.mem_of_getElem? (i := 315) (by decide +kernel))⟩
theorem lk_RX9_125 : sm_lk RX9 125 yX1_end cX1_end 3 none 2 := ⟨(sm_gd 557 (by decide +kernel) (by rfl)), (sm_gd 53 (by decide +kernel) (by rfl)), ⟨by decide +kernel, by decide +kernel, by decide +kernel⟩, Or.inl (sm_gd 554 (by decide +kernel) (by rfl))⟩
theorem vf_X1_end : 0 < 8 ∧ sm_cC 0 = yX1_end.cls ∧ Cond.instanceMethod yX1_end ∈ sm_tb ∧ Cond.selects yX1_end.cls yX1_end yX1_end ∈ sm_tb := ⟨by decide, rfl, (sm_gd 555 (by decide +kernel) (by rfl)), (sm_gd 556 (by decide +kernel) (by rfl))⟩
theorem lk_RX9_129 : sm_lk RX9 129 yX1_waited cX1_waited 2 (some .int) 1 := ⟨(sm_gd 561 (by decide +kernel) (by rfl)), (sm_gd 53 (by decide +kernel) (by rfl)), ⟨by decide +kernel, by decide +kernel, by decide +kernel⟩, Or.inl (sm_gd 558 (by decide +kernel) (by rfl))⟩
theorem vf_X1_waited : 0 < 8 ∧ sm_cC 0 = yX1_waited.cls ∧ Cond.instanceMethod yX1_waited ∈ sm_tb ∧ Cond.selects yX1_waited.cls yX1_waited yX1_waited ∈ sm_tb := ⟨by decide, rfl, (sm_gd 559 (by decide +kernel) (by rfl)), (sm_gd 560 (by decide +kernel) (by rfl))⟩
theorem lf_RX9_113 : sm_lkF RX9 113 5 3 := Or.inr ⟨"PatrolDesk", (List.mem_of_getElem? (i := 288) (by decide +kernel))⟩
theorem lk_RX9_117 : sm_lk RX9 117 yX4_becomeFree cX4_becomeFree 1 none 0 := ⟨(sm_gd 468 (by decide +kernel) (by rfl)), (sm_gd 51 (by decide +kernel) (by rfl)), ⟨by decide +kernel, by decide +kernel, by decide +kernel⟩, Or.inl (sm_gd 553 (by decide +kernel) (by rfl))⟩
theorem lf_RX7_152 : sm_lkF RX7 152 3 3 := Or.inr ⟨"PatrolDesk", (List.mem_of_getElem? (i := 121) (by decide +kernel))⟩
theorem lf_RX9_135 : sm_lkF RX9 135 3 3 := Or.inr ⟨"PatrolDesk", (List.mem_of_getElem? (i := 120) (by decide +kernel))⟩
theorem lk_RX9_138 : sm_lk RX9 138 yX7_patrolsOnDuty cX7_patrolsOnDuty 3 (some .int) 0 := ⟨(sm_gd 573 (by decide +kernel) (by rfl)), (sm_gd 49 (by decide +kernel) (by rfl)), ⟨by decide +kernel, by decide +kernel, by decide +kernel⟩, Or.inl (sm_gd 570 (by decide +kernel) (by rfl))⟩
theorem vf_X7_patrolsOnDuty : 5 < 8 ∧ sm_cC 5 = yX7_patrolsOnDuty.cls ∧ Cond.instanceMethod yX7_patrolsOnDuty ∈ sm_tb ∧ Cond.selects yX7_patrolsOnDuty.cls yX7_patrolsOnDuty yX7_patrolsOnDuty ∈ sm_tb := ⟨by decide, rfl, (sm_gd 571 (by decide +kernel) (by rfl)), (sm_gd 572 (by decide +kernel) (by rfl))⟩
theorem lk_RX9_132 : sm_lk RX9 132 yX4_isBusy cX4_isBusy 1 (some .boolean) 0 := ⟨(sm_gd 569 (by decide +kernel) (by rfl)), (sm_gd 51 (by decide +kernel) (by rfl)), ⟨by decide +kernel, by decide +kernel, by decide +kernel⟩, Or.inl (sm_gd 566 (by decide +kernel) (by rfl))⟩
theorem vf_X4_isBusy : 3 < 8 ∧ sm_cC 3 = yX4_isBusy.cls ∧ Cond.instanceMethod yX4_isBusy ∈ sm_tb ∧ Cond.selects yX4_isBusy.cls yX4_isBusy yX4_isBusy ∈ sm_tb := ⟨by decide, rfl, (sm_gd 567 (by decide +kernel) (by rfl)), (sm_gd 568 (by decide +kernel) (by rfl))⟩
theorem lf_RX9_142 : sm_lkF RX9 142 3 4 := Or.inr ⟨"PatrolDesk", (List.mem_of_getElem? (i := 125) (by decide +kernel))⟩
theorem lf_RX9_145 : sm_lkF RX9 145 3 0 := Or.inr ⟨"PatrolDesk", (List.mem_of_getElem? (i := 108) (by decide +kernel))⟩
theorem lk_RX9_148 : sm_lk RX9 148 yX5_between cX5_between 3 (some .int) 2 := ⟨(sm_gd 438 (by decide +kernel) (by rfl)), (sm_gd 50 (by decide +kernel) (by rfl)), ⟨by decide +kernel, by decide +kernel, by decide +kernel⟩, Or.inl (sm_gd 578 (by decide +kernel) (by rfl))⟩
theorem lc_RX9_151 : Cond.constant RX9 151 (Int32.ofInt (1000000)) ∈ sm_tb := (sm_gd 579 (by decide +kernel) (by rfl))
theorem lk_RX9_152 : sm_lk RX9 152 yX7_isGarage cX7_isGarage 2 (some .boolean) 1 := ⟨(sm_gd 587 (by decide +kernel) (by rfl)), (sm_gd 49 (by decide +kernel) (by rfl)), ⟨by decide +kernel, by decide +kernel, by decide +kernel⟩, Or.inl (sm_gd 584 (by decide +kernel) (by rfl))⟩
theorem vf_X7_isGarage : 5 < 8 ∧ sm_cC 5 = yX7_isGarage.cls ∧ Cond.instanceMethod yX7_isGarage ∈ sm_tb ∧ Cond.selects yX7_isGarage.cls yX7_isGarage yX7_isGarage ∈ sm_tb := ⟨by decide, rfl, (sm_gd 585 (by decide +kernel) (by rfl)), (sm_gd 586 (by decide +kernel) (by rfl))⟩
theorem lf_RX9_155 : sm_lkF RX9 155 5 5 := Or.inr ⟨"PatrolDesk", (List.mem_of_getElem? (i := 295) (by decide +kernel))⟩
theorem lf_RX9_159 : sm_lkF RX9 159 2 2 := Or.inr ⟨"PatrolDesk", (List.mem_of_getElem? (i := 193) (by decide +kernel))⟩
theorem lc_RX8_179 : Cond.constant RX8 179 (Int32.ofInt (1000000)) ∈ sm_tb := (sm_gd 609 (by decide +kernel) (by rfl))
theorem lf_RX8_180 : sm_lkF RX8 180 5 6 := Or.inr ⟨"PatrolDesk", (List.mem_of_getElem? (i := 298) (by decide +kernel))⟩
theorem lf_RX8_95 : sm_lkF RX8 95 5 0 := Or.inr ⟨"PatrolDesk", (List.mem_of_getElem? (i := 279) (by decide +kernel))⟩
theorem lf_RX8_154 : sm_lkF RX8 154 5 5 := Or.inr ⟨"PatrolDesk", (List.mem_of_getElem? (i := 294) (by decide +kernel))⟩
theorem lf_RX8_166 : sm_lkF RX8 166 2 0 := Or.inr ⟨"PatrolDesk", (List.mem_of_getElem? (i := 187) (by decide +kernel))⟩
theorem lk_RX8_103 : sm_lk RX8 103 yX5_between cX5_between 3 (some .int) 2 := ⟨(sm_gd 438 (by decide +kernel) (by rfl)), (sm_gd 50 (by decide +kernel) (by rfl)), ⟨by decide +kernel, by decide +kernel, by decide +kernel⟩, Or.inl (sm_gd 610 (by decide +kernel) (by rfl))⟩
theorem lk_RX8_183 : sm_lk RX8 183 yX3_hasRoom cX3_hasRoom 1 (some .boolean) 0 := ⟨(sm_gd 614 (by decide +kernel) (by rfl)), (sm_gd 52 (by decide +kernel) (by rfl)), ⟨by decide +kernel, by decide +kernel, by decide +kernel⟩, Or.inl (sm_gd 611 (by decide +kernel) (by rfl))⟩
theorem vf_X3_hasRoom : 2 < 8 ∧ sm_cC 2 = yX3_hasRoom.cls ∧ Cond.instanceMethod yX3_hasRoom ∈ sm_tb ∧ Cond.selects yX3_hasRoom.cls yX3_hasRoom yX3_hasRoom ∈ sm_tb := ⟨by decide, rfl, (sm_gd 612 (by decide +kernel) (by rfl)), (sm_gd 613 (by decide +kernel) (by rfl))⟩
theorem lk_RX8_186 : sm_lk RX8 186 yX5_nextOnWay cX5_nextOnWay 6 (some .int) 2 := ⟨(sm_gd 623 (by decide +kernel) (by rfl)), (sm_gd 50 (by decide +kernel) (by rfl)), ⟨by decide +kernel, by decide +kernel, by decide +kernel⟩, Or.inl (sm_gd 620 (by decide +kernel) (by rfl))⟩
theorem vf_X5_nextOnWay : 4 < 8 ∧ sm_cC 4 = yX5_nextOnWay.cls ∧ Cond.instanceMethod yX5_nextOnWay ∈ sm_tb ∧ Cond.selects yX5_nextOnWay.cls yX5_nextOnWay yX5_nextOnWay ∈ sm_tb := ⟨by decide, rfl, (sm_gd 621 (by decide +kernel) (by rfl)), (sm_gd 622 (by decide +kernel) (by rfl))⟩
theorem lk_RX8_145 : sm_lk RX8 145 yX9_regionOf cX9_regionOf 1 (some .int) 1 := ⟨(sm_gd 626 (by decide +kernel) (by rfl)), (sm_gd 48 (by decide +kernel) (by rfl)), ⟨by decide +kernel, by decide +kernel, by decide +kernel⟩, Or.inr ⟨"PatrolDesk", (List.mem_of_getElem? (i := 624) (by decide +kernel))⟩⟩
theorem sf_X9_regionOf : Cond.static yX9_regionOf ∈ sm_tb := (sm_gd 625 (by decide +kernel) (by rfl))
theorem lf_RX8_102 : sm_lkF RX8 102 0 1 := Or.inr ⟨"PatrolDesk", (List.mem_of_getElem? (i := 222) (by decide +kernel))⟩
theorem lk_RX8_148 : sm_lk RX8 148 yX8_nearestGarage cX8_nearestGarage 6 (some .int) 2 := ⟨(sm_gd 608 (by decide +kernel) (by rfl)), (sm_gd 58 (by decide +kernel) (by rfl)), ⟨by decide +kernel, by decide +kernel, by decide +kernel⟩, Or.inl (sm_gd 606 (by decide +kernel) (by rfl))⟩
theorem sf_X8_nearestGarage : Cond.static yX8_nearestGarage ∈ sm_tb := (sm_gd 607 (by decide +kernel) (by rfl))
theorem lk_RX8_151 : sm_lk RX8 151 yX7_isGarage cX7_isGarage 2 (some .boolean) 1 := ⟨(sm_gd 587 (by decide +kernel) (by rfl)), (sm_gd 49 (by decide +kernel) (by rfl)), ⟨by decide +kernel, by decide +kernel, by decide +kernel⟩, Or.inl (sm_gd 615 (by decide +kernel) (by rfl))⟩
theorem lf_RX8_158 : sm_lkF RX8 158 2 3 := Or.inr ⟨"PatrolDesk", (List.mem_of_getElem? (i := 195) (by decide +kernel))⟩
theorem lf_RX8_112 : sm_lkF RX8 112 0 5 := Or.inr ⟨"PatrolDesk", (List.mem_of_getElem? (i := 235) (by decide +kernel))⟩
theorem lf_RX8_55 : sm_lkF RX8 55 3 3 := Or.inr ⟨"PatrolDesk", (List.mem_of_getElem? (i := 118) (by decide +kernel))⟩
theorem lf_RX8_163 : sm_lkF RX8 163 3 8 := Or.inr ⟨"PatrolDesk", (List.mem_of_getElem? (i := 136) (by decide +kernel))⟩
theorem lk_RX8_167 : sm_lk RX8 167 yX8_endOfTow cX8_endOfTow 6 (some .int) 3 := ⟨(sm_gd 619 (by decide +kernel) (by rfl)), (sm_gd 58 (by decide +kernel) (by rfl)), ⟨by decide +kernel, by decide +kernel, by decide +kernel⟩, Or.inl (sm_gd 617 (by decide +kernel) (by rfl))⟩
theorem sf_X8_endOfTow : Cond.static yX8_endOfTow ∈ sm_tb := (sm_gd 618 (by decide +kernel) (by rfl))
theorem lf_RX8_171 : sm_lkF RX8 171 3 7 := Or.inr ⟨"PatrolDesk", (List.mem_of_getElem? (i := 134) (by decide +kernel))⟩
theorem lm_RX8_174 : Cond.methodLink RX8 174 Lib.Math.max.name ∈ sm_tb ∧ Cond.static Lib.Math.max.name ∈ sm_tb ∧ Cond.initialized "java/lang/Math" ∈ sm_tb ∧ Cond.code Lib.Math.max.name Lib.Math.max.code 2 (some .int) ∈ sm_tb := ⟨(sm_gd 627 (by decide +kernel) (by rfl)), (sm_gd 628 (by decide +kernel) (by rfl)), (sm_gd 57 (by decide +kernel) (by rfl)), (sm_gd 629 (by decide +kernel) (by rfl))⟩
theorem lf_RX8_41 : sm_lkF RX8 41 3 6 := Or.inr ⟨"PatrolDesk", (List.mem_of_getElem? (i := 130) (by decide +kernel))⟩
theorem lk_RX8_75 : sm_lk RX8 75 yX4_becomeFree cX4_becomeFree 1 none 0 := ⟨(sm_gd 468 (by decide +kernel) (by rfl)), (sm_gd 51 (by decide +kernel) (by rfl)), ⟨by decide +kernel, by decide +kernel, by decide +kernel⟩, Or.inl (sm_gd 616 (by decide +kernel) (by rfl))⟩
theorem lf_RX8_15 : sm_lkF RX8 15 5 3 := Or.inr ⟨"PatrolDesk", (List.mem_of_getElem? (i := 286) (by decide +kernel))⟩
theorem lf_RX8_99 : sm_lkF RX8 99 3 4 := Or.inr ⟨"PatrolDesk", (List.mem_of_getElem? (i := 123) (by decide +kernel))⟩
theorem lf_RX8_119 : sm_lkF RX8 119 0 6 := Or.inr ⟨"PatrolDesk", (List.mem_of_getElem? (i := 239) (by decide +kernel))⟩
theorem lf_RX8_35 : sm_lkF RX8 35 5 11 := Or.inr ⟨"PatrolDesk", (List.mem_of_getElem? (i := 312) (by decide +kernel))⟩
theorem lf_RX8_122 : sm_lkF RX8 122 0 7 := Or.inr ⟨"PatrolDesk", (List.mem_of_getElem? (i := 243) (by decide +kernel))⟩
theorem lf_RX8_125 : sm_lkF RX8 125 3 12 := Or.inr ⟨"PatrolDesk", (List.mem_of_getElem? (i := 147) (by decide +kernel))⟩
theorem lk_RX8_128 : sm_lk RX8 128 yX1_waited cX1_waited 2 (some .int) 1 := ⟨(sm_gd 561 (by decide +kernel) (by rfl)), (sm_gd 53 (by decide +kernel) (by rfl)), ⟨by decide +kernel, by decide +kernel, by decide +kernel⟩, Or.inl (sm_gd 630 (by decide +kernel) (by rfl))⟩
theorem lf_RX8_132 : sm_lkF RX8 132 3 1 := Or.inr ⟨"PatrolDesk", (List.mem_of_getElem? (i := 110) (by decide +kernel))⟩
theorem lf_RX8_135 : sm_lkF RX8 135 0 2 := Or.inr ⟨"PatrolDesk", (List.mem_of_getElem? (i := 226) (by decide +kernel))⟩
theorem lf_RX8_138 : sm_lkF RX8 138 3 2 := Or.inr ⟨"PatrolDesk", (List.mem_of_getElem? (i := 114) (by decide +kernel))⟩
theorem lf_RX8_142 : sm_lkF RX8 142 3 0 := Or.inr ⟨"PatrolDesk", (List.mem_of_getElem? (i := 106) (by decide +kernel))⟩
theorem lk_RX8_115 : sm_lk RX8 115 yX8_startTow cX8_startTow 5 none 3 := ⟨(sm_gd 605 (by decide +kernel) (by rfl)), (sm_gd 58 (by decide +kernel) (by rfl)), ⟨by decide +kernel, by decide +kernel, by decide +kernel⟩, Or.inl (sm_gd 603 (by decide +kernel) (by rfl))⟩
theorem sf_X8_startTow : Cond.static yX8_startTow ∈ sm_tb := (sm_gd 604 (by decide +kernel) (by rfl))
theorem lf_RX8_189 : sm_lkF RX8 189 3 10 := Or.inr ⟨"PatrolDesk", (List.mem_of_getElem? (i := 141) (by decide +kernel))⟩
theorem lf_RX8_192 : sm_lkF RX8 192 2 2 := Or.inr ⟨"PatrolDesk", (List.mem_of_getElem? (i := 192) (by decide +kernel))⟩
theorem lf_RX8_195 : sm_lkF RX8 195 2 4 := Or.inr ⟨"PatrolDesk", (List.mem_of_getElem? (i := 198) (by decide +kernel))⟩
theorem lf_RX8_198 : sm_lkF RX8 198 0 9 := Or.inr ⟨"PatrolDesk", (List.mem_of_getElem? (i := 248) (by decide +kernel))⟩
theorem lk_RX8_66 : sm_lk RX8 66 yX1_end cX1_end 3 none 2 := ⟨(sm_gd 557 (by decide +kernel) (by rfl)), (sm_gd 53 (by decide +kernel) (by rfl)), ⟨by decide +kernel, by decide +kernel, by decide +kernel⟩, Or.inl (sm_gd 634 (by decide +kernel) (by rfl))⟩
theorem lf_RX8_38 : sm_lkF RX8 38 3 13 := Or.inr ⟨"PatrolDesk", (List.mem_of_getElem? (i := 150) (by decide +kernel))⟩
theorem lf_RX8_44 : sm_lkF RX8 44 3 5 := Or.inr ⟨"PatrolDesk", (List.mem_of_getElem? (i := 126) (by decide +kernel))⟩
theorem lk_RX8_47 : sm_lk RX8 47 yX7_isCall cX7_isCall 2 (some .boolean) 1 := ⟨(sm_gd 534 (by decide +kernel) (by rfl)), (sm_gd 49 (by decide +kernel) (by rfl)), ⟨by decide +kernel, by decide +kernel, by decide +kernel⟩, Or.inl (sm_gd 599 (by decide +kernel) (by rfl))⟩
theorem lf_RX8_51 : sm_lkF RX8 51 5 7 := Or.inr ⟨"PatrolDesk", (List.mem_of_getElem? (i := 302) (by decide +kernel))⟩
theorem lf_RX8_72 : sm_lkF RX8 72 3 9 := Or.inr ⟨"PatrolDesk", (List.mem_of_getElem? (i := 138) (by decide +kernel))⟩
theorem lk_RX8_62 : sm_lk RX8 62 yX8_endTow cX8_endTow 6 (some .int) 3 := ⟨(sm_gd 633 (by decide +kernel) (by rfl)), (sm_gd 58 (by decide +kernel) (by rfl)), ⟨by decide +kernel, by decide +kernel, by decide +kernel⟩, Or.inl (sm_gd 631 (by decide +kernel) (by rfl))⟩
theorem sf_X8_endTow : Cond.static yX8_endTow ∈ sm_tb := (sm_gd 632 (by decide +kernel) (by rfl))
theorem lk_RX8_58 : sm_lk RX8 58 yX8_arrive cX8_arrive 4 none 3 := ⟨(sm_gd 602 (by decide +kernel) (by rfl)), (sm_gd 58 (by decide +kernel) (by rfl)), ⟨by decide +kernel, by decide +kernel, by decide +kernel⟩, Or.inl (sm_gd 600 (by decide +kernel) (by rfl))⟩
theorem sf_X8_arrive : Cond.static yX8_arrive ∈ sm_tb := (sm_gd 601 (by decide +kernel) (by rfl))
theorem lk_RX6_9 : sm_lk RX6 9 yX7_isCall cX7_isCall 2 (some .boolean) 1 := ⟨(sm_gd 534 (by decide +kernel) (by rfl)), (sm_gd 49 (by decide +kernel) (by rfl)), ⟨by decide +kernel, by decide +kernel, by decide +kernel⟩, Or.inl (sm_gd 644 (by decide +kernel) (by rfl))⟩
theorem lf_RX6_15 : sm_lkF RX6 15 5 7 := Or.inr ⟨"PatrolDesk", (List.mem_of_getElem? (i := 300) (by decide +kernel))⟩
theorem lf_RX6_19 : sm_lkF RX6 19 0 5 := Or.inr ⟨"PatrolDesk", (List.mem_of_getElem? (i := 232) (by decide +kernel))⟩
theorem lk_RX6_25 : sm_lk RX6 25 yX7_patrolOf cX7_patrolOf 3 (some .int) 1 := ⟨(sm_gd 551 (by decide +kernel) (by rfl)), (sm_gd 49 (by decide +kernel) (by rfl)), ⟨by decide +kernel, by decide +kernel, by decide +kernel⟩, Or.inl (sm_gd 645 (by decide +kernel) (by rfl))⟩
theorem lk_RX6_46 : sm_lk RX6 46 yX1_due cX1_due 1 (some .int) 0 := ⟨(sm_gd 652 (by decide +kernel) (by rfl)), (sm_gd 53 (by decide +kernel) (by rfl)), ⟨by decide +kernel, by decide +kernel, by decide +kernel⟩, Or.inl (sm_gd 649 (by decide +kernel) (by rfl))⟩
theorem vf_X1_due : 0 < 8 ∧ sm_cC 0 = yX1_due.cls ∧ Cond.instanceMethod yX1_due ∈ sm_tb ∧ Cond.selects yX1_due.cls yX1_due yX1_due ∈ sm_tb := ⟨by decide, rfl, (sm_gd 650 (by decide +kernel) (by rfl)), (sm_gd 651 (by decide +kernel) (by rfl))⟩
theorem lf_RX6_50 : sm_lkF RX6 50 0 0 := Or.inr ⟨"PatrolDesk", (List.mem_of_getElem? (i := 218) (by decide +kernel))⟩
theorem lk_RX6_53 : sm_lk RX6 53 yX7_tierOf cX7_tierOf 2 (some .int) 1 := ⟨(sm_gd 525 (by decide +kernel) (by rfl)), (sm_gd 49 (by decide +kernel) (by rfl)), ⟨by decide +kernel, by decide +kernel, by decide +kernel⟩, Or.inl (sm_gd 653 (by decide +kernel) (by rfl))⟩
theorem lf_RX6_29 : sm_lkF RX6 29 5 8 := Or.inr ⟨"PatrolDesk", (List.mem_of_getElem? (i := 306) (by decide +kernel))⟩
theorem lk_RX6_32 : sm_lk RX6 32 yX6_waits cX6_waits 3 (some .boolean) 2 := ⟨(sm_gd 643 (by decide +kernel) (by rfl)), (sm_gd 59 (by decide +kernel) (by rfl)), ⟨by decide +kernel, by decide +kernel, by decide +kernel⟩, Or.inl (sm_gd 641 (by decide +kernel) (by rfl))⟩
theorem sf_X6_waits : Cond.static yX6_waits ∈ sm_tb := (sm_gd 642 (by decide +kernel) (by rfl))
theorem lf_RX6_38 : sm_lkF RX6 38 5 12 := Or.inr ⟨"PatrolDesk", (List.mem_of_getElem? (i := 317) (by decide +kernel))⟩
theorem fR_5_12 : 5 < 8 ∧ 12 < sm_cN 5 ∧ (sm_ty 5 12).isReference = true := ⟨by decide, by decide, rfl⟩
theorem lk_RX6_42 : sm_lk RX6 42 yX6_isAheadOf cX6_isAheadOf 5 (some .boolean) 3 := ⟨(sm_gd 648 (by decide +kernel) (by rfl)), (sm_gd 59 (by decide +kernel) (by rfl)), ⟨by decide +kernel, by decide +kernel, by decide +kernel⟩, Or.inl (sm_gd 646 (by decide +kernel) (by rfl))⟩
theorem sf_X6_isAheadOf : Cond.static yX6_isAheadOf ∈ sm_tb := (sm_gd 647 (by decide +kernel) (by rfl))
theorem lf_RX6_90 : sm_lkF RX6 90 3 0 := Or.inr ⟨"PatrolDesk", (List.mem_of_getElem? (i := 107) (by decide +kernel))⟩
theorem lk_RX6_93 : sm_lk RX6 93 yX9_regionOf cX9_regionOf 1 (some .int) 1 := ⟨(sm_gd 626 (by decide +kernel) (by rfl)), (sm_gd 48 (by decide +kernel) (by rfl)), ⟨by decide +kernel, by decide +kernel, by decide +kernel⟩, Or.inr ⟨"PatrolDesk", (List.mem_of_getElem? (i := 662) (by decide +kernel))⟩⟩
theorem lf_RX6_73 : sm_lkF RX6 73 0 1 := Or.inr ⟨"PatrolDesk", (List.mem_of_getElem? (i := 223) (by decide +kernel))⟩
theorem lm_RX6_96 : Cond.methodLink RX6 96 Lib.Math.abs.name ∈ sm_tb ∧ Cond.static Lib.Math.abs.name ∈ sm_tb ∧ Cond.initialized "java/lang/Math" ∈ sm_tb ∧ Cond.code Lib.Math.abs.name Lib.Math.abs.code 1 (some .int) ∈ sm_tb := ⟨(sm_gd 663 (by decide +kernel) (by rfl)), (sm_gd 664 (by decide +kernel) (by rfl)), (sm_gd 57 (by decide +kernel) (by rfl)), (sm_gd 665 (by decide +kernel) (by rfl))⟩
theorem lf_RX6_101 : sm_lkF RX6 101 3 2 := Or.inr ⟨"PatrolDesk", (List.mem_of_getElem? (i := 115) (by decide +kernel))⟩
theorem lc_RX6_56 : Cond.constant RX6 56 (Int32.ofInt (1000000)) ∈ sm_tb := (sm_gd 657 (by decide +kernel) (by rfl))
theorem lf_RX6_57 : sm_lkF RX6 57 5 4 := Or.inr ⟨"PatrolDesk", (List.mem_of_getElem? (i := 292) (by decide +kernel))⟩
theorem lf_RX6_60 : sm_lkF RX6 60 5 3 := Or.inr ⟨"PatrolDesk", (List.mem_of_getElem? (i := 287) (by decide +kernel))⟩
theorem lf_RX6_64 : sm_lkF RX6 64 5 0 := Or.inr ⟨"PatrolDesk", (List.mem_of_getElem? (i := 280) (by decide +kernel))⟩
theorem lf_RX6_68 : sm_lkF RX6 68 3 4 := Or.inr ⟨"PatrolDesk", (List.mem_of_getElem? (i := 124) (by decide +kernel))⟩
theorem lk_RX6_74 : sm_lk RX6 74 yX5_between cX5_between 3 (some .int) 2 := ⟨(sm_gd 438 (by decide +kernel) (by rfl)), (sm_gd 50 (by decide +kernel) (by rfl)), ⟨by decide +kernel, by decide +kernel, by decide +kernel⟩, Or.inl (sm_gd 658 (by decide +kernel) (by rfl))⟩
theorem lf_RX6_83 : sm_lkF RX6 83 3 3 := Or.inr ⟨"PatrolDesk", (List.mem_of_getElem? (i := 119) (by decide +kernel))⟩
theorem lk_RX6_86 : sm_lk RX6 86 yX6_mayTake cX6_mayTake 3 (some .boolean) 2 := ⟨(sm_gd 661 (by decide +kernel) (by rfl)), (sm_gd 59 (by decide +kernel) (by rfl)), ⟨by decide +kernel, by decide +kernel, by decide +kernel⟩, Or.inl (sm_gd 659 (by decide +kernel) (by rfl))⟩
theorem sf_X6_mayTake : Cond.static yX6_mayTake ∈ sm_tb := (sm_gd 660 (by decide +kernel) (by rfl))
theorem lf_RX6_80 : sm_lkF RX6 80 3 1 := Or.inr ⟨"PatrolDesk", (List.mem_of_getElem? (i := 111) (by decide +kernel))⟩
theorem lk_RX8_78 : sm_lk RX8 78 yX6_putInOrder cX6_putInOrder 4 (some .int) 1 := ⟨(sm_gd 640 (by decide +kernel) (by rfl)), (sm_gd 59 (by decide +kernel) (by rfl)), ⟨by decide +kernel, by decide +kernel, by decide +kernel⟩, Or.inl (sm_gd 638 (by decide +kernel) (by rfl))⟩
theorem sf_X6_putInOrder : Cond.static yX6_putInOrder ∈ sm_tb := (sm_gd 639 (by decide +kernel) (by rfl))
theorem lf_RX8_84 : sm_lkF RX8 84 5 12 := Or.inr ⟨"PatrolDesk", (List.mem_of_getElem? (i := 318) (by decide +kernel))⟩
theorem lk_RX8_88 : sm_lk RX8 88 yX6_nearestPatrol cX6_nearestPatrol 9 (some .int) 2 := ⟨(sm_gd 656 (by decide +kernel) (by rfl)), (sm_gd 59 (by decide +kernel) (by rfl)), ⟨by decide +kernel, by decide +kernel, by decide +kernel⟩, Or.inl (sm_gd 654 (by decide +kernel) (by rfl))⟩
theorem sf_X6_nearestPatrol : Cond.static yX6_nearestPatrol ∈ sm_tb := (sm_gd 655 (by decide +kernel) (by rfl))
theorem lk_RX8_92 : sm_lk RX8 92 yX7_isPatrol cX7_isPatrol 2 (some .boolean) 1 := ⟨(sm_gd 538 (by decide +kernel) (by rfl)), (sm_gd 49 (by decide +kernel) (by rfl)), ⟨by decide +kernel, by decide +kernel, by decide +kernel⟩, Or.inl (sm_gd 666 (by decide +kernel) (by rfl))⟩
theorem lk_RX8_109 : sm_lk RX8 109 yX4_leaveFor cX4_leaveFor 3 none 2 := ⟨(sm_gd 670 (by decide +kernel) (by rfl)), (sm_gd 51 (by decide +kernel) (by rfl)), ⟨by decide +kernel, by decide +kernel, by decide +kernel⟩, Or.inl (sm_gd 667 (by decide +kernel) (by rfl))⟩
theorem vf_X4_leaveFor : 3 < 8 ∧ sm_cC 3 = yX4_leaveFor.cls ∧ Cond.instanceMethod yX4_leaveFor ∈ sm_tb ∧ Cond.selects yX4_leaveFor.cls yX4_leaveFor yX4_leaveFor ∈ sm_tb := ⟨by decide, rfl, (sm_gd 668 (by decide +kernel) (by rfl)), (sm_gd 669 (by decide +kernel) (by rfl))⟩
theorem lf_RX8_9 : sm_lkF RX8 9 5 4 := Or.inr ⟨"PatrolDesk", (List.mem_of_getElem? (i := 289) (by decide +kernel))⟩
theorem lk_RX8_19 : sm_lk RX8 19 yX4_isBusy cX4_isBusy 1 (some .boolean) 0 := ⟨(sm_gd 569 (by decide +kernel) (by rfl)), (sm_gd 51 (by decide +kernel) (by rfl)), ⟨by decide +kernel, by decide +kernel, by decide +kernel⟩, Or.inl (sm_gd 595 (by decide +kernel) (by rfl))⟩
theorem lk_RX8_25 : sm_lk RX8 25 yX8_goOn cX8_goOn 4 (some .int) 2 := ⟨(sm_gd 598 (by decide +kernel) (by rfl)), (sm_gd 58 (by decide +kernel) (by rfl)), ⟨by decide +kernel, by decide +kernel, by decide +kernel⟩, Or.inl (sm_gd 596 (by decide +kernel) (by rfl))⟩
theorem sf_X8_goOn : Cond.static yX8_goOn ∈ sm_tb := (sm_gd 597 (by decide +kernel) (by rfl))
theorem lk_RX8_31 : sm_lk RX8 31 yX8_sendPatrols cX8_sendPatrols 7 none 1 := ⟨(sm_gd 637 (by decide +kernel) (by rfl)), (sm_gd 58 (by decide +kernel) (by rfl)), ⟨by decide +kernel, by decide +kernel, by decide +kernel⟩, Or.inl (sm_gd 635 (by decide +kernel) (by rfl))⟩
theorem sf_X8_sendPatrols : Cond.static yX8_sendPatrols ∈ sm_tb := (sm_gd 636 (by decide +kernel) (by rfl))
theorem lk_RX9_164 : sm_lk RX9 164 yX8_passMinute cX8_passMinute 3 (some .int) 1 := ⟨(sm_gd 594 (by decide +kernel) (by rfl)), (sm_gd 58 (by decide +kernel) (by rfl)), ⟨by decide +kernel, by decide +kernel, by decide +kernel⟩, Or.inl (sm_gd 592 (by decide +kernel) (by rfl))⟩
theorem sf_X8_passMinute : Cond.static yX8_passMinute ∈ sm_tb := (sm_gd 593 (by decide +kernel) (by rfl))
theorem lf_RX2_19 : sm_lkF RX2 19 1 1 := Or.inl (sm_gd 355 (by decide +kernel) (by rfl))
theorem fI_1_1 : 1 < 8 ∧ 1 < sm_cN 1 ∧ (sm_ty 1 1).isReference = false := ⟨by decide, by decide, rfl⟩
theorem lf_RX2_9 : sm_lkF RX2 9 1 0 := Or.inl (sm_gd 354 (by decide +kernel) (by rfl))
theorem fR_1_0 : 1 < 8 ∧ 0 < sm_cN 1 ∧ (sm_ty 1 0).isReference = true := ⟨by decide, by decide, rfl⟩
theorem fP_1_1 : 1 < 8 ∧ 1 < sm_cN 1 ∧ (sm_cT 1 1).2.2.2 = false := ⟨by decide, by decide, rfl⟩
theorem lf_RX9_29 : sm_lkF RX9 29 6 6 := Or.inl (sm_gd 375 (by decide +kernel) (by rfl))
theorem fR_6_6 : 6 < 8 ∧ 6 < sm_cN 6 ∧ (sm_ty 6 6).isReference = true := ⟨by decide, by decide, rfl⟩
theorem lk_RX9_170 : sm_lk RX9 170 yX2_append cX2_append 2 (some .boolean) 1 := ⟨(sm_gd 678 (by decide +kernel) (by rfl)), (sm_gd 54 (by decide +kernel) (by rfl)), ⟨by decide +kernel, by decide +kernel, by decide +kernel⟩, Or.inl (sm_gd 675 (by decide +kernel) (by rfl))⟩
theorem vf_X2_append : 1 < 8 ∧ sm_cC 1 = yX2_append.cls ∧ Cond.instanceMethod yX2_append ∈ sm_tb ∧ Cond.selects yX2_append.cls yX2_append yX2_append ∈ sm_tb := ⟨by decide, rfl, (sm_gd 676 (by decide +kernel) (by rfl)), (sm_gd 677 (by decide +kernel) (by rfl))⟩
theorem lf_RX9_174 : sm_lkF RX9 174 1 1 := Or.inr ⟨"PatrolDesk", (List.mem_of_getElem? (i := 356) (by decide +kernel))⟩
theorem lk_RX2_26 : sm_lk RX2 26 yX2_signAt cX2_signAt 2 (some .int) 1 := ⟨(sm_gd 694 (by decide +kernel) (by rfl)), (sm_gd 54 (by decide +kernel) (by rfl)), ⟨by decide +kernel, by decide +kernel, by decide +kernel⟩, Or.inl (sm_gd 691 (by decide +kernel) (by rfl))⟩
theorem vf_X2_signAt : 1 < 8 ∧ sm_cC 1 = yX2_signAt.cls ∧ Cond.instanceMethod yX2_signAt ∈ sm_tb ∧ Cond.selects yX2_signAt.cls yX2_signAt yX2_signAt ∈ sm_tb := ⟨by decide, rfl, (sm_gd 693 (by decide +kernel) (by rfl)), (sm_gd 3 (by decide +kernel) (by rfl))⟩
theorem lk_RX2_40 : sm_lk RX2 40 yX2_isDigit cX2_isDigit 1 (some .boolean) 1 := ⟨(sm_gd 703 (by decide +kernel) (by rfl)), (sm_gd 54 (by decide +kernel) (by rfl)), ⟨by decide +kernel, by decide +kernel, by decide +kernel⟩, Or.inl (sm_gd 701 (by decide +kernel) (by rfl))⟩
theorem sf_X2_isDigit : Cond.static yX2_isDigit ∈ sm_tb := (sm_gd 702 (by decide +kernel) (by rfl))
theorem lf_RX2_23 : sm_lkF RX2 23 1 3 := Or.inl (sm_gd 358 (by decide +kernel) (by rfl))
theorem fI_1_3 : 1 < 8 ∧ 3 < sm_cN 1 ∧ (sm_ty 1 3).isReference = false := ⟨by decide, by decide, rfl⟩
theorem lf_RX2_15 : sm_lkF RX2 15 1 2 := Or.inl (sm_gd 357 (by decide +kernel) (by rfl))
theorem fR_1_2 : 1 < 8 ∧ 2 < sm_cN 1 ∧ (sm_ty 1 2).isReference = true := ⟨by decide, by decide, rfl⟩
theorem fP_1_3 : 1 < 8 ∧ 3 < sm_cN 1 ∧ (sm_cT 1 3).2.2.2 = false := ⟨by decide, by decide, rfl⟩
theorem lg_RX2_30 : Cond.fieldLink RX2 30 "PatrolDesk$CallText" "MARKS" "[C" ∈ sm_tb := (sm_gd 695 (by decide +kernel) (by rfl))
theorem lk_RX2_33 : sm_lk RX2 33 yX2_digitsAt cX2_digitsAt 2 (some .int) 1 := ⟨(sm_gd 700 (by decide +kernel) (by rfl)), (sm_gd 54 (by decide +kernel) (by rfl)), ⟨by decide +kernel, by decide +kernel, by decide +kernel⟩, Or.inl (sm_gd 697 (by decide +kernel) (by rfl))⟩
theorem vf_X2_digitsAt : 1 < 8 ∧ sm_cC 1 = yX2_digitsAt.cls ∧ Cond.instanceMethod yX2_digitsAt ∈ sm_tb ∧ Cond.selects yX2_digitsAt.cls yX2_digitsAt yX2_digitsAt ∈ sm_tb := ⟨by decide, rfl, (sm_gd 699 (by decide +kernel) (by rfl)), (sm_gd 4 (by decide +kernel) (by rfl))⟩
theorem lk_RX2_36 : sm_lk RX2 36 yX2_addNumber cX2_addNumber 5 none 2 := ⟨(sm_gd 707 (by decide +kernel) (by rfl)), (sm_gd 54 (by decide +kernel) (by rfl)), ⟨by decide +kernel, by decide +kernel, by decide +kernel⟩, Or.inl (sm_gd 704 (by decide +kernel) (by rfl))⟩
theorem vf_X2_addNumber : 1 < 8 ∧ sm_cC 1 = yX2_addNumber.cls ∧ Cond.instanceMethod yX2_addNumber ∈ sm_tb ∧ Cond.selects yX2_addNumber.cls yX2_addNumber yX2_addNumber ∈ sm_tb := ⟨by decide, rfl, (sm_gd 706 (by decide +kernel) (by rfl)), (sm_gd 5 (by decide +kernel) (by rfl))⟩
theorem lk_RX9_187 : sm_lk RX9 187 yX2_calls cX2_calls 1 (some .int) 0 := ⟨(sm_gd 715 (by decide +kernel) (by rfl)), (sm_gd 54 (by decide +kernel) (by rfl)), ⟨by decide +kernel, by decide +kernel, by decide +kernel⟩, Or.inl (sm_gd 712 (by decide +kernel) (by rfl))⟩
theorem vf_X2_calls : 1 < 8 ∧ sm_cC 1 = yX2_calls.cls ∧ Cond.instanceMethod yX2_calls ∈ sm_tb ∧ Cond.selects yX2_calls.cls yX2_calls yX2_calls ∈ sm_tb := ⟨by decide, rfl, (sm_gd 713 (by decide +kernel) (by rfl)), (sm_gd 714 (by decide +kernel) (by rfl))⟩
theorem lk_RX9_189 : sm_lk RX9 189 yX2_number cX2_number 4 (some .int) 2 := ⟨(sm_gd 719 (by decide +kernel) (by rfl)), (sm_gd 54 (by decide +kernel) (by rfl)), ⟨by decide +kernel, by decide +kernel, by decide +kernel⟩, Or.inl (sm_gd 716 (by decide +kernel) (by rfl))⟩
theorem vf_X2_number : 1 < 8 ∧ sm_cC 1 = yX2_number.cls ∧ Cond.instanceMethod yX2_number ∈ sm_tb ∧ Cond.selects yX2_number.cls yX2_number yX2_number ∈ sm_tb := ⟨by decide, rfl, (sm_gd 717 (by decide +kernel) (by rfl)), (sm_gd 718 (by decide +kernel) (by rfl))⟩
theorem lk_RX9_177 : sm_lk RX9 177 yX2_read cX2_read 4 (some .int) 0 := ⟨(sm_gd 690 (by decide +kernel) (by rfl)), (sm_gd 54 (by decide +kernel) (by rfl)), ⟨by decide +kernel, by decide +kernel, by decide +kernel⟩, Or.inl (sm_gd 687 (by decide +kernel) (by rfl))⟩
theorem vf_X2_read : 1 < 8 ∧ sm_cC 1 = yX2_read.cls ∧ Cond.instanceMethod yX2_read ∈ sm_tb ∧ Cond.selects yX2_read.cls yX2_read yX2_read ∈ sm_tb := ⟨by decide, rfl, (sm_gd 688 (by decide +kernel) (by rfl)), (sm_gd 689 (by decide +kernel) (by rfl))⟩
theorem lf_RX9_19 : sm_lkF RX9 19 6 2 := Or.inl (sm_gd 371 (by decide +kernel) (by rfl))
theorem fR_6_2 : 6 < 8 ∧ 2 < sm_cN 6 ∧ (sm_ty 6 2).isReference = true := ⟨by decide, by decide, rfl⟩
theorem lk_RX9_184 : sm_lk RX9 184 yX9_takeAll cX9_takeAll 7 (some .int) 1 := ⟨(sm_gd 711 (by decide +kernel) (by rfl)), (sm_gd 48 (by decide +kernel) (by rfl)), ⟨by decide +kernel, by decide +kernel, by decide +kernel⟩, Or.inl (sm_gd 708 (by decide +kernel) (by rfl))⟩
theorem vf_X9_takeAll : 6 < 8 ∧ sm_cC 6 = yX9_takeAll.cls ∧ Cond.instanceMethod yX9_takeAll ∈ sm_tb ∧ Cond.selects yX9_takeAll.cls yX9_takeAll yX9_takeAll ∈ sm_tb := ⟨by decide, rfl, (sm_gd 710 (by decide +kernel) (by rfl)), (sm_gd 6 (by decide +kernel) (by rfl))⟩
theorem lf_RX9_16 : sm_lkF RX9 16 6 1 := Or.inl (sm_gd 370 (by decide +kernel) (by rfl))
theorem fR_6_1 : 6 < 8 ∧ 1 < sm_cN 6 ∧ (sm_ty 6 1).isReference = true := ⟨by decide, by decide, rfl⟩
theorem lf_RX9_195 : sm_lkF RX9 195 6 5 := Or.inl (sm_gd 374 (by decide +kernel) (by rfl))
theorem fP_6_5 : 6 < 8 ∧ 5 < sm_cN 6 ∧ (sm_cT 6 5).2.2.2 = false := ⟨by decide, by decide, rfl⟩
theorem fI_6_5 : 6 < 8 ∧ 5 < sm_cN 6 ∧ (sm_ty 6 5).isReference = false := ⟨by decide, by decide, rfl⟩
theorem lk_RX9_199 : sm_lk RX9 199 yX5_nextOnWay cX5_nextOnWay 6 (some .int) 2 := ⟨(sm_gd 623 (by decide +kernel) (by rfl)), (sm_gd 50 (by decide +kernel) (by rfl)), ⟨by decide +kernel, by decide +kernel, by decide +kernel⟩, Or.inl (sm_gd 740 (by decide +kernel) (by rfl))⟩
theorem lf_RX0_25 : sm_lkF RX0 25 0 0 := Or.inr ⟨"PatrolDesk", (List.mem_of_getElem? (i := 217) (by decide +kernel))⟩
theorem lk_RX0_52 : sm_lk RX0 52 yX7_tierOf cX7_tierOf 2 (some .int) 1 := ⟨(sm_gd 525 (by decide +kernel) (by rfl)), (sm_gd 49 (by decide +kernel) (by rfl)), ⟨by decide +kernel, by decide +kernel, by decide +kernel⟩, Or.inl (sm_gd 756 (by decide +kernel) (by rfl))⟩
theorem lk_RX0_55 : sm_lk RX0 55 yX9_isTier cX9_isTier 1 (some .boolean) 1 := ⟨(sm_gd 448 (by decide +kernel) (by rfl)), (sm_gd 48 (by decide +kernel) (by rfl)), ⟨by decide +kernel, by decide +kernel, by decide +kernel⟩, Or.inr ⟨"PatrolDesk", (List.mem_of_getElem? (i := 757) (by decide +kernel))⟩⟩
theorem lg_RX0_59 : Cond.fieldLink RX0 59 "PatrolDesk$Books" "REPAIR_COSTS" "[I" ∈ sm_tb := (sm_gd 758 (by decide +kernel) (by rfl))
theorem lf_RX0_48 : sm_lkF RX0 48 0 10 := Or.inr ⟨"PatrolDesk", (List.mem_of_getElem? (i := 251) (by decide +kernel))⟩
theorem lm_RX0_63 : Cond.methodLink RX0 63 Lib.Math.max.name ∈ sm_tb ∧ Cond.static Lib.Math.max.name ∈ sm_tb ∧ Cond.initialized "java/lang/Math" ∈ sm_tb ∧ Cond.code Lib.Math.max.name Lib.Math.max.code 2 (some .int) ∈ sm_tb := ⟨(sm_gd 760 (by decide +kernel) (by rfl)), (sm_gd 628 (by decide +kernel) (by rfl)), (sm_gd 57 (by decide +kernel) (by rfl)), (sm_gd 629 (by decide +kernel) (by rfl))⟩
theorem lk_RX1_46 : sm_lk RX1 46 yX1_due cX1_due 1 (some .int) 0 := ⟨(sm_gd 652 (by decide +kernel) (by rfl)), (sm_gd 53 (by decide +kernel) (by rfl)), ⟨by decide +kernel, by decide +kernel, by decide +kernel⟩, Or.inl (sm_gd 765 (by decide +kernel) (by rfl))⟩
theorem lf_RX0_30 : sm_lkF RX0 30 5 11 := Or.inr ⟨"PatrolDesk", (List.mem_of_getElem? (i := 314) (by decide +kernel))⟩
theorem lk_RX0_33 : sm_lk RX0 33 yX1_waited cX1_waited 2 (some .int) 1 := ⟨(sm_gd 561 (by decide +kernel) (by rfl)), (sm_gd 53 (by decide +kernel) (by rfl)), ⟨by decide +kernel, by decide +kernel, by decide +kernel⟩, Or.inl (sm_gd 752 (by decide +kernel) (by rfl))⟩
theorem lf_RX0_37 : sm_lkF RX0 37 0 5 := Or.inr ⟨"PatrolDesk", (List.mem_of_getElem? (i := 234) (by decide +kernel))⟩
theorem lk_RX0_40 : sm_lk RX0 40 yX0_cost cX0_cost 3 (some .int) 2 := ⟨(sm_gd 755 (by decide +kernel) (by rfl)), (sm_gd 60 (by decide +kernel) (by rfl)), ⟨by decide +kernel, by decide +kernel, by decide +kernel⟩, Or.inl (sm_gd 753 (by decide +kernel) (by rfl))⟩
theorem sf_X0_cost : Cond.static yX0_cost ∈ sm_tb := (sm_gd 754 (by decide +kernel) (by rfl))
theorem lk_RX0_44 : sm_lk RX0 44 yX1_isLate cX1_isLate 1 (some .boolean) 0 := ⟨(sm_gd 764 (by decide +kernel) (by rfl)), (sm_gd 53 (by decide +kernel) (by rfl)), ⟨by decide +kernel, by decide +kernel, by decide +kernel⟩, Or.inl (sm_gd 761 (by decide +kernel) (by rfl))⟩
theorem vf_X1_isLate : 0 < 8 ∧ sm_cC 0 = yX1_isLate.cls ∧ Cond.instanceMethod yX1_isLate ∈ sm_tb ∧ Cond.selects yX1_isLate.cls yX1_isLate yX1_isLate ∈ sm_tb := ⟨by decide, rfl, (sm_gd 762 (by decide +kernel) (by rfl)), (sm_gd 763 (by decide +kernel) (by rfl))⟩
theorem lf_RX0_9 : sm_lkF RX0 9 5 8 := Or.inr ⟨"PatrolDesk", (List.mem_of_getElem? (i := 304) (by decide +kernel))⟩
theorem lf_RX0_15 : sm_lkF RX0 15 5 7 := Or.inr ⟨"PatrolDesk", (List.mem_of_getElem? (i := 301) (by decide +kernel))⟩
theorem lk_RX0_19 : sm_lk RX0 19 yX0_amount cX0_amount 3 (some .int) 3 := ⟨(sm_gd 751 (by decide +kernel) (by rfl)), (sm_gd 60 (by decide +kernel) (by rfl)), ⟨by decide +kernel, by decide +kernel, by decide +kernel⟩, Or.inl (sm_gd 749 (by decide +kernel) (by rfl))⟩
theorem sf_X0_amount : Cond.static yX0_amount ∈ sm_tb := (sm_gd 750 (by decide +kernel) (by rfl))
theorem lk_RX9_202 : sm_lk RX9 202 yX7_isMember cX7_isMember 2 (some .boolean) 1 := ⟨(sm_gd 500 (by decide +kernel) (by rfl)), (sm_gd 49 (by decide +kernel) (by rfl)), ⟨by decide +kernel, by decide +kernel, by decide +kernel⟩, Or.inl (sm_gd 745 (by decide +kernel) (by rfl))⟩
theorem lf_RX9_205 : sm_lkF RX9 205 5 1 := Or.inr ⟨"PatrolDesk", (List.mem_of_getElem? (i := 282) (by decide +kernel))⟩
theorem lk_RX9_208 : sm_lk RX9 208 yX0_ofMember cX0_ofMember 5 (some .int) 3 := ⟨(sm_gd 748 (by decide +kernel) (by rfl)), (sm_gd 60 (by decide +kernel) (by rfl)), ⟨by decide +kernel, by decide +kernel, by decide +kernel⟩, Or.inl (sm_gd 746 (by decide +kernel) (by rfl))⟩
theorem sf_X0_ofMember : Cond.static yX0_ofMember ∈ sm_tb := (sm_gd 747 (by decide +kernel) (by rfl))
theorem lk_RX9_214 : sm_lk RX9 214 yX7_openCallOf cX7_openCallOf 3 (some .int) 1 := ⟨(sm_gd 505 (by decide +kernel) (by rfl)), (sm_gd 49 (by decide +kernel) (by rfl)), ⟨by decide +kernel, by decide +kernel, by decide +kernel⟩, Or.inl (sm_gd 766 (by decide +kernel) (by rfl))⟩
theorem lf_RX9_217 : sm_lkF RX9 217 3 1 := Or.inr ⟨"PatrolDesk", (List.mem_of_getElem? (i := 112) (by decide +kernel))⟩
theorem lf_RX9_220 : sm_lkF RX9 220 3 2 := Or.inr ⟨"PatrolDesk", (List.mem_of_getElem? (i := 116) (by decide +kernel))⟩
theorem lf_RX9_223 : sm_lkF RX9 223 3 5 := Or.inr ⟨"PatrolDesk", (List.mem_of_getElem? (i := 129) (by decide +kernel))⟩
theorem lf_RX9_226 : sm_lkF RX9 226 3 6 := Or.inr ⟨"PatrolDesk", (List.mem_of_getElem? (i := 132) (by decide +kernel))⟩
theorem lf_RX9_229 : sm_lkF RX9 229 3 9 := Or.inr ⟨"PatrolDesk", (List.mem_of_getElem? (i := 139) (by decide +kernel))⟩
theorem lf_RX9_232 : sm_lkF RX9 232 3 10 := Or.inr ⟨"PatrolDesk", (List.mem_of_getElem? (i := 142) (by decide +kernel))⟩
theorem lf_RX9_235 : sm_lkF RX9 235 3 11 := Or.inr ⟨"PatrolDesk", (List.mem_of_getElem? (i := 145) (by decide +kernel))⟩
theorem lf_RX9_238 : sm_lkF RX9 238 3 12 := Or.inr ⟨"PatrolDesk", (List.mem_of_getElem? (i := 148) (by decide +kernel))⟩
theorem lf_RX9_241 : sm_lkF RX9 241 3 13 := Or.inr ⟨"PatrolDesk", (List.mem_of_getElem? (i := 151) (by decide +kernel))⟩
theorem lf_RX9_244 : sm_lkF RX9 244 2 0 := Or.inr ⟨"PatrolDesk", (List.mem_of_getElem? (i := 188) (by decide +kernel))⟩
theorem lf_RX9_245 : sm_lkF RX9 245 2 1 := Or.inr ⟨"PatrolDesk", (List.mem_of_getElem? (i := 190) (by decide +kernel))⟩
theorem lf_RX9_248 : sm_lkF RX9 248 2 3 := Or.inr ⟨"PatrolDesk", (List.mem_of_getElem? (i := 196) (by decide +kernel))⟩
theorem lf_RX9_251 : sm_lkF RX9 251 2 4 := Or.inr ⟨"PatrolDesk", (List.mem_of_getElem? (i := 199) (by decide +kernel))⟩
theorem lf_RX9_254 : sm_lkF RX9 254 0 0 := Or.inr ⟨"PatrolDesk", (List.mem_of_getElem? (i := 220) (by decide +kernel))⟩
theorem lf_RX9_257 : sm_lkF RX9 257 0 1 := Or.inr ⟨"PatrolDesk", (List.mem_of_getElem? (i := 224) (by decide +kernel))⟩
theorem lf_RX9_258 : sm_lkF RX9 258 0 2 := Or.inr ⟨"PatrolDesk", (List.mem_of_getElem? (i := 227) (by decide +kernel))⟩
theorem lf_RX9_261 : sm_lkF RX9 261 0 3 := Or.inr ⟨"PatrolDesk", (List.mem_of_getElem? (i := 229) (by decide +kernel))⟩
theorem lf_RX9_264 : sm_lkF RX9 264 0 4 := Or.inr ⟨"PatrolDesk", (List.mem_of_getElem? (i := 231) (by decide +kernel))⟩
theorem lf_RX9_267 : sm_lkF RX9 267 0 5 := Or.inr ⟨"PatrolDesk", (List.mem_of_getElem? (i := 237) (by decide +kernel))⟩
theorem lf_RX9_270 : sm_lkF RX9 270 0 6 := Or.inr ⟨"PatrolDesk", (List.mem_of_getElem? (i := 241) (by decide +kernel))⟩
theorem lf_RX9_273 : sm_lkF RX9 273 0 8 := Or.inr ⟨"PatrolDesk", (List.mem_of_getElem? (i := 246) (by decide +kernel))⟩
theorem lf_RX9_276 : sm_lkF RX9 276 0 10 := Or.inr ⟨"PatrolDesk", (List.mem_of_getElem? (i := 253) (by decide +kernel))⟩
theorem lk_RX9_279 : sm_lk RX9 279 yX1_due cX1_due 1 (some .int) 0 := ⟨(sm_gd 652 (by decide +kernel) (by rfl)), (sm_gd 53 (by decide +kernel) (by rfl)), ⟨by decide +kernel, by decide +kernel, by decide +kernel⟩, Or.inl (sm_gd 779 (by decide +kernel) (by rfl))⟩
theorem lf_RX9_282 : sm_lkF RX9 282 0 9 := Or.inr ⟨"PatrolDesk", (List.mem_of_getElem? (i := 249) (by decide +kernel))⟩
theorem lk_RX9_285 : sm_lk RX9 285 yX6_putInOrder cX6_putInOrder 4 (some .int) 1 := ⟨(sm_gd 640 (by decide +kernel) (by rfl)), (sm_gd 59 (by decide +kernel) (by rfl)), ⟨by decide +kernel, by decide +kernel, by decide +kernel⟩, Or.inl (sm_gd 784 (by decide +kernel) (by rfl))⟩
theorem lf_RX9_290 : sm_lkF RX9 290 5 12 := Or.inr ⟨"PatrolDesk", (List.mem_of_getElem? (i := 319) (by decide +kernel))⟩
theorem lk_RX9_293 : sm_lk RX9 293 yX6_waits cX6_waits 3 (some .boolean) 2 := ⟨(sm_gd 643 (by decide +kernel) (by rfl)), (sm_gd 59 (by decide +kernel) (by rfl)), ⟨by decide +kernel, by decide +kernel, by decide +kernel⟩, Or.inl (sm_gd 789 (by decide +kernel) (by rfl))⟩
theorem lk_RX9_297 : sm_lk RX9 297 yX6_nearestPatrol cX6_nearestPatrol 9 (some .int) 2 := ⟨(sm_gd 656 (by decide +kernel) (by rfl)), (sm_gd 59 (by decide +kernel) (by rfl)), ⟨by decide +kernel, by decide +kernel, by decide +kernel⟩, Or.inl (sm_gd 790 (by decide +kernel) (by rfl))⟩
theorem lf_RX9_304 : sm_lkF RX9 304 5 8 := Or.inr ⟨"PatrolDesk", (List.mem_of_getElem? (i := 307) (by decide +kernel))⟩
theorem lk_RX9_307 : sm_lk RX9 307 yX0_ofAll cX0_ofAll 4 (some .int) 2 := ⟨(sm_gd 805 (by decide +kernel) (by rfl)), (sm_gd 60 (by decide +kernel) (by rfl)), ⟨by decide +kernel, by decide +kernel, by decide +kernel⟩, Or.inl (sm_gd 803 (by decide +kernel) (by rfl))⟩
theorem sf_X0_ofAll : Cond.static yX0_ofAll ∈ sm_tb := (sm_gd 804 (by decide +kernel) (by rfl))
theorem lk_RX9_301 : sm_lk RX9 301 yX7_callsIn cX7_callsIn 4 (some .int) 1 := ⟨(sm_gd 802 (by decide +kernel) (by rfl)), (sm_gd 49 (by decide +kernel) (by rfl)), ⟨by decide +kernel, by decide +kernel, by decide +kernel⟩, Or.inl (sm_gd 799 (by decide +kernel) (by rfl))⟩
theorem vf_X7_callsIn : 5 < 8 ∧ sm_cC 5 = yX7_callsIn.cls ∧ Cond.instanceMethod yX7_callsIn ∈ sm_tb ∧ Cond.selects yX7_callsIn.cls yX7_callsIn yX7_callsIn ∈ sm_tb := ⟨by decide, rfl, (sm_gd 800 (by decide +kernel) (by rfl)), (sm_gd 801 (by decide +kernel) (by rfl))⟩
theorem lf_RX10_25 : sm_lkF RX10 25 7 8 := Or.inl (sm_gd 825 (by decide +kernel) (by rfl))
theorem fR_7_8 : 7 < 8 ∧ 8 < sm_cN 7 ∧ (sm_ty 7 8).isReference = true := ⟨by decide, by decide, rfl⟩
theorem lc_RX10_52 : Cond.constant RX10 52 (Int32.ofInt (100000)) ∈ sm_tb := (sm_gd 816 (by decide +kernel) (by rfl))
theorem lf_RX10_28 : sm_lkF RX10 28 7 9 := Or.inl (sm_gd 826 (by decide +kernel) (by rfl))
theorem fR_7_9 : 7 < 8 ∧ 9 < sm_cN 7 ∧ (sm_ty 7 9).isReference = true := ⟨by decide, by decide, rfl⟩
theorem lf_RX10_7 : sm_lkF RX10 7 7 0 := Or.inl (sm_gd 817 (by decide +kernel) (by rfl))
theorem fR_7_0 : 7 < 8 ∧ 0 < sm_cN 7 ∧ (sm_ty 7 0).isReference = true := ⟨by decide, by decide, rfl⟩
theorem lf_RX10_40 : sm_lkF RX10 40 7 2 := Or.inl (sm_gd 819 (by decide +kernel) (by rfl))
theorem fI_7_2 : 7 < 8 ∧ 2 < sm_cN 7 ∧ (sm_ty 7 2).isReference = false := ⟨by decide, by decide, rfl⟩
theorem lf_RX10_13 : sm_lkF RX10 13 7 1 := Or.inl (sm_gd 818 (by decide +kernel) (by rfl))
theorem fR_7_1 : 7 < 8 ∧ 1 < sm_cN 7 ∧ (sm_ty 7 1).isReference = true := ⟨by decide, by decide, rfl⟩
theorem lk_RX10_44 : sm_lk RX10 44 yX10_copies cX10_copies 5 none 4 := ⟨(sm_gd 879 (by decide +kernel) (by rfl)), (sm_gd 55 (by decide +kernel) (by rfl)), ⟨by decide +kernel, by decide +kernel, by decide +kernel⟩, Or.inl (sm_gd 877 (by decide +kernel) (by rfl))⟩
theorem sf_X10_copies : Cond.static yX10_copies ∈ sm_tb := (sm_gd 878 (by decide +kernel) (by rfl))
theorem fP_7_2 : 7 < 8 ∧ 2 < sm_cN 7 ∧ (sm_cT 7 2).2.2.2 = false := ⟨by decide, by decide, rfl⟩
theorem lk_RX10_48 : sm_lk RX10 48 yX10_in cX10_in 3 (some .boolean) 3 := ⟨(sm_gd 872 (by decide +kernel) (by rfl)), (sm_gd 55 (by decide +kernel) (by rfl)), ⟨by decide +kernel, by decide +kernel, by decide +kernel⟩, Or.inl (sm_gd 870 (by decide +kernel) (by rfl))⟩
theorem sf_X10_in : Cond.static yX10_in ∈ sm_tb := (sm_gd 871 (by decide +kernel) (by rfl))
theorem lk_RX10_53 : sm_lk RX10 53 yX10_way cX10_way 3 (some .int) 2 := ⟨(sm_gd 979 (by decide +kernel) (by rfl)), (sm_gd 55 (by decide +kernel) (by rfl)), ⟨by decide +kernel, by decide +kernel, by decide +kernel⟩, Or.inl (sm_gd 976 (by decide +kernel) (by rfl))⟩
theorem vf_X10_way : 7 < 8 ∧ sm_cC 7 = yX10_way.cls ∧ Cond.instanceMethod yX10_way ∈ sm_tb ∧ Cond.selects yX10_way.cls yX10_way yX10_way ∈ sm_tb := ⟨by decide, rfl, (sm_gd 978 (by decide +kernel) (by rfl)), (sm_gd 24 (by decide +kernel) (by rfl))⟩
theorem lk_RX10_57 : sm_lk RX10 57 yX10_isArea cX10_isArea 1 (some .boolean) 1 := ⟨(sm_gd 869 (by decide +kernel) (by rfl)), (sm_gd 55 (by decide +kernel) (by rfl)), ⟨by decide +kernel, by decide +kernel, by decide +kernel⟩, Or.inl (sm_gd 867 (by decide +kernel) (by rfl))⟩
theorem sf_X10_isArea : Cond.static yX10_isArea ∈ sm_tb := (sm_gd 868 (by decide +kernel) (by rfl))
theorem lk_RX10_61 : sm_lk RX10 61 yX10_records cX10_records 2 none 0 := ⟨(sm_gd 876 (by decide +kernel) (by rfl)), (sm_gd 55 (by decide +kernel) (by rfl)), ⟨by decide +kernel, by decide +kernel, by decide +kernel⟩, Or.inl (sm_gd 873 (by decide +kernel) (by rfl))⟩
theorem vf_X10_records : 7 < 8 ∧ sm_cC 7 = yX10_records.cls ∧ Cond.instanceMethod yX10_records ∈ sm_tb ∧ Cond.selects yX10_records.cls yX10_records yX10_records ∈ sm_tb := ⟨by decide, rfl, (sm_gd 875 (by decide +kernel) (by rfl)), (sm_gd 8 (by decide +kernel) (by rfl))⟩
theorem lk_RX10_37 : sm_lk RX10 37 yX10_laysWays cX10_laysWays 4 none 0 := ⟨(sm_gd 815 (by decide +kernel) (by rfl)), (sm_gd 55 (by decide +kernel) (by rfl)), ⟨by decide +kernel, by decide +kernel, by decide +kernel⟩, Or.inl (sm_gd 812 (by decide +kernel) (by rfl))⟩
theorem vf_X10_laysWays : 7 < 8 ∧ sm_cC 7 = yX10_laysWays.cls ∧ Cond.instanceMethod yX10_laysWays ∈ sm_tb ∧ Cond.selects yX10_laysWays.cls yX10_laysWays yX10_laysWays ∈ sm_tb := ⟨by decide, rfl, (sm_gd 814 (by decide +kernel) (by rfl)), (sm_gd 7 (by decide +kernel) (by rfl))⟩
theorem lk_RX10_64 : sm_lk RX10 64 yX10_laysPatrol cX10_laysPatrol 4 none 3 := ⟨(sm_gd 891 (by decide +kernel) (by rfl)), (sm_gd 55 (by decide +kernel) (by rfl)), ⟨by decide +kernel, by decide +kernel, by decide +kernel⟩, Or.inl (sm_gd 888 (by decide +kernel) (by rfl))⟩
theorem vf_X10_laysPatrol : 7 < 8 ∧ sm_cC 7 = yX10_laysPatrol.cls ∧ Cond.instanceMethod yX10_laysPatrol ∈ sm_tb ∧ Cond.selects yX10_laysPatrol.cls yX10_laysPatrol yX10_laysPatrol ∈ sm_tb := ⟨by decide, rfl, (sm_gd 890 (by decide +kernel) (by rfl)), (sm_gd 9 (by decide +kernel) (by rfl))⟩
theorem lk_RX10_68 : sm_lk RX10 68 yX10_frees cX10_frees 2 none 1 := ⟨(sm_gd 895 (by decide +kernel) (by rfl)), (sm_gd 55 (by decide +kernel) (by rfl)), ⟨by decide +kernel, by decide +kernel, by decide +kernel⟩, Or.inl (sm_gd 892 (by decide +kernel) (by rfl))⟩
theorem vf_X10_frees : 7 < 8 ∧ sm_cC 7 = yX10_frees.cls ∧ Cond.instanceMethod yX10_frees ∈ sm_tb ∧ Cond.selects yX10_frees.cls yX10_frees yX10_frees ∈ sm_tb := ⟨by decide, rfl, (sm_gd 894 (by decide +kernel) (by rfl)), (sm_gd 10 (by decide +kernel) (by rfl))⟩
theorem lk_RX10_72 : sm_lk RX10 72 yX10_ofCall cX10_ofCall 3 (some .int) 2 := ⟨(sm_gd 927 (by decide +kernel) (by rfl)), (sm_gd 55 (by decide +kernel) (by rfl)), ⟨by decide +kernel, by decide +kernel, by decide +kernel⟩, Or.inl (sm_gd 924 (by decide +kernel) (by rfl))⟩
theorem vf_X10_ofCall : 7 < 8 ∧ sm_cC 7 = yX10_ofCall.cls ∧ Cond.instanceMethod yX10_ofCall ∈ sm_tb ∧ Cond.selects yX10_ofCall.cls yX10_ofCall yX10_ofCall ∈ sm_tb := ⟨by decide, rfl, (sm_gd 926 (by decide +kernel) (by rfl)), (sm_gd 14 (by decide +kernel) (by rfl))⟩
theorem lk_RX10_75 : sm_lk RX10 75 yX10_isMember cX10_isMember 2 (some .boolean) 1 := ⟨(sm_gd 919 (by decide +kernel) (by rfl)), (sm_gd 55 (by decide +kernel) (by rfl)), ⟨by decide +kernel, by decide +kernel, by decide +kernel⟩, Or.inl (sm_gd 916 (by decide +kernel) (by rfl))⟩
theorem vf_X10_isMember : 7 < 8 ∧ sm_cC 7 = yX10_isMember.cls ∧ Cond.instanceMethod yX10_isMember ∈ sm_tb ∧ Cond.selects yX10_isMember.cls yX10_isMember yX10_isMember ∈ sm_tb := ⟨by decide, rfl, (sm_gd 918 (by decide +kernel) (by rfl)), (sm_gd 12 (by decide +kernel) (by rfl))⟩
theorem lk_RX10_78 : sm_lk RX10 78 yX10_openOf cX10_openOf 3 (some .int) 1 := ⟨(sm_gd 923 (by decide +kernel) (by rfl)), (sm_gd 55 (by decide +kernel) (by rfl)), ⟨by decide +kernel, by decide +kernel, by decide +kernel⟩, Or.inl (sm_gd 920 (by decide +kernel) (by rfl))⟩
theorem vf_X10_openOf : 7 < 8 ∧ sm_cC 7 = yX10_openOf.cls ∧ Cond.instanceMethod yX10_openOf ∈ sm_tb ∧ Cond.selects yX10_openOf.cls yX10_openOf yX10_openOf ∈ sm_tb := ⟨by decide, rfl, (sm_gd 922 (by decide +kernel) (by rfl)), (sm_gd 13 (by decide +kernel) (by rfl))⟩
theorem lk_RX10_82 : sm_lk RX10 82 yX10_laysCall cX10_laysCall 4 none 3 := ⟨(sm_gd 935 (by decide +kernel) (by rfl)), (sm_gd 55 (by decide +kernel) (by rfl)), ⟨by decide +kernel, by decide +kernel, by decide +kernel⟩, Or.inl (sm_gd 932 (by decide +kernel) (by rfl))⟩
theorem vf_X10_laysCall : 7 < 8 ∧ sm_cC 7 = yX10_laysCall.cls ∧ Cond.instanceMethod yX10_laysCall ∈ sm_tb ∧ Cond.selects yX10_laysCall.cls yX10_laysCall yX10_laysCall ∈ sm_tb := ⟨by decide, rfl, (sm_gd 934 (by decide +kernel) (by rfl)), (sm_gd 16 (by decide +kernel) (by rfl))⟩
theorem lk_RX10_85 : sm_lk RX10 85 yX10_ofMember cX10_ofMember 3 (some .int) 2 := ⟨(sm_gd 939 (by decide +kernel) (by rfl)), (sm_gd 55 (by decide +kernel) (by rfl)), ⟨by decide +kernel, by decide +kernel, by decide +kernel⟩, Or.inl (sm_gd 936 (by decide +kernel) (by rfl))⟩
theorem vf_X10_ofMember : 7 < 8 ∧ sm_cC 7 = yX10_ofMember.cls ∧ Cond.instanceMethod yX10_ofMember ∈ sm_tb ∧ Cond.selects yX10_ofMember.cls yX10_ofMember yX10_ofMember ∈ sm_tb := ⟨by decide, rfl, (sm_gd 938 (by decide +kernel) (by rfl)), (sm_gd 17 (by decide +kernel) (by rfl))⟩
theorem lk_RX10_88 : sm_lk RX10 88 yX10_ofPatrol cX10_ofPatrol 3 (some .int) 2 := ⟨(sm_gd 943 (by decide +kernel) (by rfl)), (sm_gd 55 (by decide +kernel) (by rfl)), ⟨by decide +kernel, by decide +kernel, by decide +kernel⟩, Or.inl (sm_gd 940 (by decide +kernel) (by rfl))⟩
theorem vf_X10_ofPatrol : 7 < 8 ∧ sm_cC 7 = yX10_ofPatrol.cls ∧ Cond.instanceMethod yX10_ofPatrol ∈ sm_tb ∧ Cond.selects yX10_ofPatrol.cls yX10_ofPatrol yX10_ofPatrol ∈ sm_tb := ⟨by decide, rfl, (sm_gd 942 (by decide +kernel) (by rfl)), (sm_gd 18 (by decide +kernel) (by rfl))⟩
theorem lk_RX10_91 : sm_lk RX10 91 yX10_addsMember cX10_addsMember 4 none 3 := ⟨(sm_gd 947 (by decide +kernel) (by rfl)), (sm_gd 55 (by decide +kernel) (by rfl)), ⟨by decide +kernel, by decide +kernel, by decide +kernel⟩, Or.inl (sm_gd 944 (by decide +kernel) (by rfl))⟩
theorem vf_X10_addsMember : 7 < 8 ∧ sm_cC 7 = yX10_addsMember.cls ∧ Cond.instanceMethod yX10_addsMember ∈ sm_tb ∧ Cond.selects yX10_addsMember.cls yX10_addsMember yX10_addsMember ∈ sm_tb := ⟨by decide, rfl, (sm_gd 946 (by decide +kernel) (by rfl)), (sm_gd 19 (by decide +kernel) (by rfl))⟩
theorem lk_RX10_94 : sm_lk RX10 94 yX10_against cX10_against 4 (some .int) 3 := ⟨(sm_gd 915 (by decide +kernel) (by rfl)), (sm_gd 55 (by decide +kernel) (by rfl)), ⟨by decide +kernel, by decide +kernel, by decide +kernel⟩, Or.inl (sm_gd 912 (by decide +kernel) (by rfl))⟩
theorem vf_X10_against : 7 < 8 ∧ sm_cC 7 = yX10_against.cls ∧ Cond.instanceMethod yX10_against ∈ sm_tb ∧ Cond.selects yX10_against.cls yX10_against yX10_against ∈ sm_tb := ⟨by decide, rfl, (sm_gd 914 (by decide +kernel) (by rfl)), (sm_gd 11 (by decide +kernel) (by rfl))⟩
theorem lk_RX10_98 : sm_lk RX10 98 yX10_comes cX10_comes 7 none 3 := ⟨(sm_gd 931 (by decide +kernel) (by rfl)), (sm_gd 55 (by decide +kernel) (by rfl)), ⟨by decide +kernel, by decide +kernel, by decide +kernel⟩, Or.inl (sm_gd 928 (by decide +kernel) (by rfl))⟩
theorem vf_X10_comes : 7 < 8 ∧ sm_cC 7 = yX10_comes.cls ∧ Cond.instanceMethod yX10_comes ∈ sm_tb ∧ Cond.selects yX10_comes.cls yX10_comes yX10_comes ∈ sm_tb := ⟨by decide, rfl, (sm_gd 930 (by decide +kernel) (by rfl)), (sm_gd 15 (by decide +kernel) (by rfl))⟩
theorem lk_RX10_101 : sm_lk RX10 101 yX10_isCall cX10_isCall 2 (some .boolean) 1 := ⟨(sm_gd 955 (by decide +kernel) (by rfl)), (sm_gd 55 (by decide +kernel) (by rfl)), ⟨by decide +kernel, by decide +kernel, by decide +kernel⟩, Or.inl (sm_gd 952 (by decide +kernel) (by rfl))⟩
theorem vf_X10_isCall : 7 < 8 ∧ sm_cC 7 = yX10_isCall.cls ∧ Cond.instanceMethod yX10_isCall ∈ sm_tb ∧ Cond.selects yX10_isCall.cls yX10_isCall yX10_isCall ∈ sm_tb := ⟨by decide, rfl, (sm_gd 954 (by decide +kernel) (by rfl)), (sm_gd 20 (by decide +kernel) (by rfl))⟩
theorem lk_RX10_104 : sm_lk RX10 104 yX10_waitedOf cX10_waitedOf 3 (some .int) 1 := ⟨(sm_gd 959 (by decide +kernel) (by rfl)), (sm_gd 55 (by decide +kernel) (by rfl)), ⟨by decide +kernel, by decide +kernel, by decide +kernel⟩, Or.inl (sm_gd 956 (by decide +kernel) (by rfl))⟩
theorem vf_X10_waitedOf : 7 < 8 ∧ sm_cC 7 = yX10_waitedOf.cls ∧ Cond.instanceMethod yX10_waitedOf ∈ sm_tb ∧ Cond.selects yX10_waitedOf.cls yX10_waitedOf yX10_waitedOf ∈ sm_tb := ⟨by decide, rfl, (sm_gd 958 (by decide +kernel) (by rfl)), (sm_gd 21 (by decide +kernel) (by rfl))⟩
theorem lk_RX10_107 : sm_lk RX10 107 yX10_isPatrol cX10_isPatrol 2 (some .boolean) 1 := ⟨(sm_gd 967 (by decide +kernel) (by rfl)), (sm_gd 55 (by decide +kernel) (by rfl)), ⟨by decide +kernel, by decide +kernel, by decide +kernel⟩, Or.inl (sm_gd 964 (by decide +kernel) (by rfl))⟩
theorem vf_X10_isPatrol : 7 < 8 ∧ sm_cC 7 = yX10_isPatrol.cls ∧ Cond.instanceMethod yX10_isPatrol ∈ sm_tb ∧ Cond.selects yX10_isPatrol.cls yX10_isPatrol yX10_isPatrol ∈ sm_tb := ⟨by decide, rfl, (sm_gd 966 (by decide +kernel) (by rfl)), (sm_gd 22 (by decide +kernel) (by rfl))⟩
theorem lk_RX10_110 : sm_lk RX10 110 yX10_onDuty cX10_onDuty 3 (some .int) 0 := ⟨(sm_gd 971 (by decide +kernel) (by rfl)), (sm_gd 55 (by decide +kernel) (by rfl)), ⟨by decide +kernel, by decide +kernel, by decide +kernel⟩, Or.inl (sm_gd 968 (by decide +kernel) (by rfl))⟩
theorem vf_X10_onDuty : 7 < 8 ∧ sm_cC 7 = yX10_onDuty.cls ∧ Cond.instanceMethod yX10_onDuty ∈ sm_tb ∧ Cond.selects yX10_onDuty.cls yX10_onDuty yX10_onDuty ∈ sm_tb := ⟨by decide, rfl, (sm_gd 970 (by decide +kernel) (by rfl)), (sm_gd 23 (by decide +kernel) (by rfl))⟩
theorem lk_RX10_114 : sm_lk RX10 114 yX10_isGarage cX10_isGarage 2 (some .boolean) 1 := ⟨(sm_gd 987 (by decide +kernel) (by rfl)), (sm_gd 55 (by decide +kernel) (by rfl)), ⟨by decide +kernel, by decide +kernel, by decide +kernel⟩, Or.inl (sm_gd 984 (by decide +kernel) (by rfl))⟩
theorem vf_X10_isGarage : 7 < 8 ∧ sm_cC 7 = yX10_isGarage.cls ∧ Cond.instanceMethod yX10_isGarage ∈ sm_tb ∧ Cond.selects yX10_isGarage.cls yX10_isGarage yX10_isGarage ∈ sm_tb := ⟨by decide, rfl, (sm_gd 986 (by decide +kernel) (by rfl)), (sm_gd 25 (by decide +kernel) (by rfl))⟩
theorem lk_RX10_117 : sm_lk RX10 117 yX10_ofGarage cX10_ofGarage 3 (some .int) 2 := ⟨(sm_gd 991 (by decide +kernel) (by rfl)), (sm_gd 55 (by decide +kernel) (by rfl)), ⟨by decide +kernel, by decide +kernel, by decide +kernel⟩, Or.inl (sm_gd 988 (by decide +kernel) (by rfl))⟩
theorem vf_X10_ofGarage : 7 < 8 ∧ sm_cC 7 = yX10_ofGarage.cls ∧ Cond.instanceMethod yX10_ofGarage ∈ sm_tb ∧ Cond.selects yX10_ofGarage.cls yX10_ofGarage yX10_ofGarage ∈ sm_tb := ⟨by decide, rfl, (sm_gd 990 (by decide +kernel) (by rfl)), (sm_gd 26 (by decide +kernel) (by rfl))⟩
theorem lk_RX10_120 : sm_lk RX10 120 yX10_underWay cX10_underWay 4 (some .int) 1 := ⟨(sm_gd 1019 (by decide +kernel) (by rfl)), (sm_gd 55 (by decide +kernel) (by rfl)), ⟨by decide +kernel, by decide +kernel, by decide +kernel⟩, Or.inl (sm_gd 1016 (by decide +kernel) (by rfl))⟩
theorem vf_X10_underWay : 7 < 8 ∧ sm_cC 7 = yX10_underWay.cls ∧ Cond.instanceMethod yX10_underWay ∈ sm_tb ∧ Cond.selects yX10_underWay.cls yX10_underWay yX10_underWay ∈ sm_tb := ⟨by decide, rfl, (sm_gd 1018 (by decide +kernel) (by rfl)), (sm_gd 32 (by decide +kernel) (by rfl))⟩
theorem lk_RX10_123 : sm_lk RX10 123 yX10_garageFor cX10_garageFor 6 (some .int) 1 := ⟨(sm_gd 1015 (by decide +kernel) (by rfl)), (sm_gd 55 (by decide +kernel) (by rfl)), ⟨by decide +kernel, by decide +kernel, by decide +kernel⟩, Or.inl (sm_gd 1012 (by decide +kernel) (by rfl))⟩
theorem vf_X10_garageFor : 7 < 8 ∧ sm_cC 7 = yX10_garageFor.cls ∧ Cond.instanceMethod yX10_garageFor ∈ sm_tb ∧ Cond.selects yX10_garageFor.cls yX10_garageFor yX10_garageFor ∈ sm_tb := ⟨by decide, rfl, (sm_gd 1014 (by decide +kernel) (by rfl)), (sm_gd 31 (by decide +kernel) (by rfl))⟩
theorem lk_RX10_129 : sm_lk RX10 129 yX10_region cX10_region 1 (some .int) 1 := ⟨(sm_gd 1026 (by decide +kernel) (by rfl)), (sm_gd 55 (by decide +kernel) (by rfl)), ⟨by decide +kernel, by decide +kernel, by decide +kernel⟩, Or.inl (sm_gd 1024 (by decide +kernel) (by rfl))⟩
theorem sf_X10_region : Cond.static yX10_region ∈ sm_tb := (sm_gd 1025 (by decide +kernel) (by rfl))
theorem lk_RX10_132 : sm_lk RX10 132 yX10_nextOn cX10_nextOn 4 (some .int) 2 := ⟨(sm_gd 1030 (by decide +kernel) (by rfl)), (sm_gd 55 (by decide +kernel) (by rfl)), ⟨by decide +kernel, by decide +kernel, by decide +kernel⟩, Or.inl (sm_gd 1027 (by decide +kernel) (by rfl))⟩
theorem vf_X10_nextOn : 7 < 8 ∧ sm_cC 7 = yX10_nextOn.cls ∧ Cond.instanceMethod yX10_nextOn ∈ sm_tb ∧ Cond.selects yX10_nextOn.cls yX10_nextOn yX10_nextOn ∈ sm_tb := ⟨by decide, rfl, (sm_gd 1029 (by decide +kernel) (by rfl)), (sm_gd 34 (by decide +kernel) (by rfl))⟩
theorem lk_RX10_126 : sm_lk RX10 126 yX10_leaves cX10_leaves 3 none 1 := ⟨(sm_gd 1023 (by decide +kernel) (by rfl)), (sm_gd 55 (by decide +kernel) (by rfl)), ⟨by decide +kernel, by decide +kernel, by decide +kernel⟩, Or.inl (sm_gd 1020 (by decide +kernel) (by rfl))⟩
theorem vf_X10_leaves : 7 < 8 ∧ sm_cC 7 = yX10_leaves.cls ∧ Cond.instanceMethod yX10_leaves ∈ sm_tb ∧ Cond.selects yX10_leaves.cls yX10_leaves yX10_leaves ∈ sm_tb := ⟨by decide, rfl, (sm_gd 1022 (by decide +kernel) (by rfl)), (sm_gd 33 (by decide +kernel) (by rfl))⟩
theorem lk_RX10_135 : sm_lk RX10 135 yX10_tows cX10_tows 13 none 1 := ⟨(sm_gd 1011 (by decide +kernel) (by rfl)), (sm_gd 55 (by decide +kernel) (by rfl)), ⟨by decide +kernel, by decide +kernel, by decide +kernel⟩, Or.inl (sm_gd 1008 (by decide +kernel) (by rfl))⟩
theorem vf_X10_tows : 7 < 8 ∧ sm_cC 7 = yX10_tows.cls ∧ Cond.instanceMethod yX10_tows ∈ sm_tb ∧ Cond.selects yX10_tows.cls yX10_tows yX10_tows ∈ sm_tb := ⟨by decide, rfl, (sm_gd 1010 (by decide +kernel) (by rfl)), (sm_gd 30 (by decide +kernel) (by rfl))⟩
theorem lk_RX10_138 : sm_lk RX10 138 yX10_rest cX10_rest 2 (some .int) 1 := ⟨(sm_gd 1058 (by decide +kernel) (by rfl)), (sm_gd 55 (by decide +kernel) (by rfl)), ⟨by decide +kernel, by decide +kernel, by decide +kernel⟩, Or.inl (sm_gd 1055 (by decide +kernel) (by rfl))⟩
theorem vf_X10_rest : 7 < 8 ∧ sm_cC 7 = yX10_rest.cls ∧ Cond.instanceMethod yX10_rest ∈ sm_tb ∧ Cond.selects yX10_rest.cls yX10_rest yX10_rest ∈ sm_tb := ⟨by decide, rfl, (sm_gd 1057 (by decide +kernel) (by rfl)), (sm_gd 41 (by decide +kernel) (by rfl))⟩
theorem lf_RX10_141 : sm_lkF RX10 141 7 11 := Or.inl (sm_gd 828 (by decide +kernel) (by rfl))
theorem fP_7_11 : 7 < 8 ∧ 11 < sm_cN 7 ∧ (sm_cT 7 11).2.2.2 = false := ⟨by decide, by decide, rfl⟩
theorem lk_RX10_144 : sm_lk RX10 144 yX10_waits cX10_waits 2 (some .boolean) 1 := ⟨(sm_gd 1050 (by decide +kernel) (by rfl)), (sm_gd 55 (by decide +kernel) (by rfl)), ⟨by decide +kernel, by decide +kernel, by decide +kernel⟩, Or.inl (sm_gd 1047 (by decide +kernel) (by rfl))⟩
theorem vf_X10_waits : 7 < 8 ∧ sm_cC 7 = yX10_waits.cls ∧ Cond.instanceMethod yX10_waits ∈ sm_tb ∧ Cond.selects yX10_waits.cls yX10_waits yX10_waits ∈ sm_tb := ⟨by decide, rfl, (sm_gd 1049 (by decide +kernel) (by rfl)), (sm_gd 39 (by decide +kernel) (by rfl))⟩
theorem fI_7_11 : 7 < 8 ∧ 11 < sm_cN 7 ∧ (sm_ty 7 11).isReference = false := ⟨by decide, by decide, rfl⟩
theorem lf_RX10_31 : sm_lkF RX10 31 7 10 := Or.inl (sm_gd 827 (by decide +kernel) (by rfl))
theorem fR_7_10 : 7 < 8 ∧ 10 < sm_cN 7 ∧ (sm_ty 7 10).isReference = true := ⟨by decide, by decide, rfl⟩
theorem lk_RX10_147 : sm_lk RX10 147 yX10_isAhead cX10_isAhead 5 (some .boolean) 2 := ⟨(sm_gd 1054 (by decide +kernel) (by rfl)), (sm_gd 55 (by decide +kernel) (by rfl)), ⟨by decide +kernel, by decide +kernel, by decide +kernel⟩, Or.inl (sm_gd 1051 (by decide +kernel) (by rfl))⟩
theorem vf_X10_isAhead : 7 < 8 ∧ sm_cC 7 = yX10_isAhead.cls ∧ Cond.instanceMethod yX10_isAhead ∈ sm_tb ∧ Cond.selects yX10_isAhead.cls yX10_isAhead yX10_isAhead ∈ sm_tb := ⟨by decide, rfl, (sm_gd 1053 (by decide +kernel) (by rfl)), (sm_gd 40 (by decide +kernel) (by rfl))⟩
theorem lk_RX10_151 : sm_lk RX10 151 yX10_mayTake cX10_mayTake 5 (some .boolean) 2 := ⟨(sm_gd 1066 (by decide +kernel) (by rfl)), (sm_gd 55 (by decide +kernel) (by rfl)), ⟨by decide +kernel, by decide +kernel, by decide +kernel⟩, Or.inl (sm_gd 1063 (by decide +kernel) (by rfl))⟩
theorem vf_X10_mayTake : 7 < 8 ∧ sm_cC 7 = yX10_mayTake.cls ∧ Cond.instanceMethod yX10_mayTake ∈ sm_tb ∧ Cond.selects yX10_mayTake.cls yX10_mayTake yX10_mayTake ∈ sm_tb := ⟨by decide, rfl, (sm_gd 1065 (by decide +kernel) (by rfl)), (sm_gd 43 (by decide +kernel) (by rfl))⟩
theorem lk_RX10_154 : sm_lk RX10 154 yX10_laysRow cX10_laysRow 3 none 0 := ⟨(sm_gd 1046 (by decide +kernel) (by rfl)), (sm_gd 55 (by decide +kernel) (by rfl)), ⟨by decide +kernel, by decide +kernel, by decide +kernel⟩, Or.inl (sm_gd 1043 (by decide +kernel) (by rfl))⟩
theorem vf_X10_laysRow : 7 < 8 ∧ sm_cC 7 = yX10_laysRow.cls ∧ Cond.instanceMethod yX10_laysRow ∈ sm_tb ∧ Cond.selects yX10_laysRow.cls yX10_laysRow yX10_laysRow ∈ sm_tb := ⟨by decide, rfl, (sm_gd 1045 (by decide +kernel) (by rfl)), (sm_gd 38 (by decide +kernel) (by rfl))⟩
theorem lk_RX10_157 : sm_lk RX10 157 yX10_nearestOf cX10_nearestOf 7 (some .int) 1 := ⟨(sm_gd 1062 (by decide +kernel) (by rfl)), (sm_gd 55 (by decide +kernel) (by rfl)), ⟨by decide +kernel, by decide +kernel, by decide +kernel⟩, Or.inl (sm_gd 1059 (by decide +kernel) (by rfl))⟩
theorem vf_X10_nearestOf : 7 < 8 ∧ sm_cC 7 = yX10_nearestOf.cls ∧ Cond.instanceMethod yX10_nearestOf ∈ sm_tb ∧ Cond.selects yX10_nearestOf.cls yX10_nearestOf yX10_nearestOf ∈ sm_tb := ⟨by decide, rfl, (sm_gd 1061 (by decide +kernel) (by rfl)), (sm_gd 42 (by decide +kernel) (by rfl))⟩
theorem lk_RX10_160 : sm_lk RX10 160 yX10_gets cX10_gets 5 none 1 := ⟨(sm_gd 1007 (by decide +kernel) (by rfl)), (sm_gd 55 (by decide +kernel) (by rfl)), ⟨by decide +kernel, by decide +kernel, by decide +kernel⟩, Or.inl (sm_gd 1004 (by decide +kernel) (by rfl))⟩
theorem vf_X10_gets : 7 < 8 ∧ sm_cC 7 = yX10_gets.cls ∧ Cond.instanceMethod yX10_gets ∈ sm_tb ∧ Cond.selects yX10_gets.cls yX10_gets yX10_gets ∈ sm_tb := ⟨by decide, rfl, (sm_gd 1006 (by decide +kernel) (by rfl)), (sm_gd 29 (by decide +kernel) (by rfl))⟩
theorem lk_RX10_166 : sm_lk RX10 166 yX10_towed cX10_towed 5 none 1 := ⟨(sm_gd 1038 (by decide +kernel) (by rfl)), (sm_gd 55 (by decide +kernel) (by rfl)), ⟨by decide +kernel, by decide +kernel, by decide +kernel⟩, Or.inl (sm_gd 1035 (by decide +kernel) (by rfl))⟩
theorem vf_X10_towed : 7 < 8 ∧ sm_cC 7 = yX10_towed.cls ∧ Cond.instanceMethod yX10_towed ∈ sm_tb ∧ Cond.selects yX10_towed.cls yX10_towed yX10_towed ∈ sm_tb := ⟨by decide, rfl, (sm_gd 1037 (by decide +kernel) (by rfl)), (sm_gd 36 (by decide +kernel) (by rfl))⟩
theorem lk_RX10_163 : sm_lk RX10 163 yX10_repaired cX10_repaired 5 none 1 := ⟨(sm_gd 1034 (by decide +kernel) (by rfl)), (sm_gd 55 (by decide +kernel) (by rfl)), ⟨by decide +kernel, by decide +kernel, by decide +kernel⟩, Or.inl (sm_gd 1031 (by decide +kernel) (by rfl))⟩
theorem vf_X10_repaired : 7 < 8 ∧ sm_cC 7 = yX10_repaired.cls ∧ Cond.instanceMethod yX10_repaired ∈ sm_tb ∧ Cond.selects yX10_repaired.cls yX10_repaired yX10_repaired ∈ sm_tb := ⟨by decide, rfl, (sm_gd 1033 (by decide +kernel) (by rfl)), (sm_gd 35 (by decide +kernel) (by rfl))⟩
theorem lk_RX10_169 : sm_lk RX10 169 yX10_sends cX10_sends 5 none 0 := ⟨(sm_gd 1042 (by decide +kernel) (by rfl)), (sm_gd 55 (by decide +kernel) (by rfl)), ⟨by decide +kernel, by decide +kernel, by decide +kernel⟩, Or.inl (sm_gd 1039 (by decide +kernel) (by rfl))⟩
theorem vf_X10_sends : 7 < 8 ∧ sm_cC 7 = yX10_sends.cls ∧ Cond.instanceMethod yX10_sends ∈ sm_tb ∧ Cond.selects yX10_sends.cls yX10_sends yX10_sends ∈ sm_tb := ⟨by decide, rfl, (sm_gd 1041 (by decide +kernel) (by rfl)), (sm_gd 37 (by decide +kernel) (by rfl))⟩
theorem lk_RX10_172 : sm_lk RX10 172 yX10_manyIn cX10_manyIn 4 (some .int) 1 := ⟨(sm_gd 999 (by decide +kernel) (by rfl)), (sm_gd 55 (by decide +kernel) (by rfl)), ⟨by decide +kernel, by decide +kernel, by decide +kernel⟩, Or.inl (sm_gd 996 (by decide +kernel) (by rfl))⟩
theorem vf_X10_manyIn : 7 < 8 ∧ sm_cC 7 = yX10_manyIn.cls ∧ Cond.instanceMethod yX10_manyIn ∈ sm_tb ∧ Cond.selects yX10_manyIn.cls yX10_manyIn yX10_manyIn ∈ sm_tb := ⟨by decide, rfl, (sm_gd 998 (by decide +kernel) (by rfl)), (sm_gd 27 (by decide +kernel) (by rfl))⟩
theorem lk_RX10_175 : sm_lk RX10 175 yX10_passes cX10_passes 3 none 0 := ⟨(sm_gd 1003 (by decide +kernel) (by rfl)), (sm_gd 55 (by decide +kernel) (by rfl)), ⟨by decide +kernel, by decide +kernel, by decide +kernel⟩, Or.inl (sm_gd 1000 (by decide +kernel) (by rfl))⟩
theorem vf_X10_passes : 7 < 8 ∧ sm_cC 7 = yX10_passes.cls ∧ Cond.instanceMethod yX10_passes ∈ sm_tb ∧ Cond.selects yX10_passes.cls yX10_passes yX10_passes ∈ sm_tb := ⟨by decide, rfl, (sm_gd 1002 (by decide +kernel) (by rfl)), (sm_gd 28 (by decide +kernel) (by rfl))⟩
theorem lf_RX10_178 : sm_lkF RX10 178 7 7 := Or.inl (sm_gd 824 (by decide +kernel) (by rfl))
theorem fI_7_7 : 7 < 8 ∧ 7 < sm_cN 7 ∧ (sm_ty 7 7).isReference = false := ⟨by decide, by decide, rfl⟩
theorem lf_RX10_22 : sm_lkF RX10 22 7 6 := Or.inl (sm_gd 823 (by decide +kernel) (by rfl))
theorem fR_7_6 : 7 < 8 ∧ 6 < sm_cN 7 ∧ (sm_ty 7 6).isReference = true := ⟨by decide, by decide, rfl⟩
theorem fP_7_7 : 7 < 8 ∧ 7 < sm_cN 7 ∧ (sm_cT 7 7).2.2.2 = false := ⟨by decide, by decide, rfl⟩
theorem lf_RX10_181 : sm_lkF RX10 181 7 14 := Or.inl (sm_gd 831 (by decide +kernel) (by rfl))
theorem fI_7_14 : 7 < 8 ∧ 14 < sm_cN 7 ∧ (sm_ty 7 14).isReference = false := ⟨by decide, by decide, rfl⟩
theorem lk_RX10_184 : sm_lk RX10 184 yX10_signAt cX10_signAt 2 (some .int) 1 := ⟨(sm_gd 1090 (by decide +kernel) (by rfl)), (sm_gd 55 (by decide +kernel) (by rfl)), ⟨by decide +kernel, by decide +kernel, by decide +kernel⟩, Or.inl (sm_gd 1087 (by decide +kernel) (by rfl))⟩
theorem vf_X10_signAt : 7 < 8 ∧ sm_cC 7 = yX10_signAt.cls ∧ Cond.instanceMethod yX10_signAt ∈ sm_tb ∧ Cond.selects yX10_signAt.cls yX10_signAt yX10_signAt ∈ sm_tb := ⟨by decide, rfl, (sm_gd 1089 (by decide +kernel) (by rfl)), (sm_gd 46 (by decide +kernel) (by rfl))⟩
theorem fP_7_14 : 7 < 8 ∧ 14 < sm_cN 7 ∧ (sm_cT 7 14).2.2.2 = false := ⟨by decide, by decide, rfl⟩
theorem lf_RX10_34 : sm_lkF RX10 34 7 12 := Or.inl (sm_gd 829 (by decide +kernel) (by rfl))
theorem fR_7_12 : 7 < 8 ∧ 12 < sm_cN 7 ∧ (sm_ty 7 12).isReference = true := ⟨by decide, by decide, rfl⟩
theorem lf_RX10_187 : sm_lkF RX10 187 7 13 := Or.inl (sm_gd 830 (by decide +kernel) (by rfl))
theorem fP_7_13 : 7 < 8 ∧ 13 < sm_cN 7 ∧ (sm_cT 7 13).2.2.2 = false := ⟨by decide, by decide, rfl⟩
theorem fI_7_13 : 7 < 8 ∧ 13 < sm_cN 7 ∧ (sm_ty 7 13).isReference = false := ⟨by decide, by decide, rfl⟩
theorem lk_RX10_190 : sm_lk RX10 190 yX10_reads cX10_reads 4 (some .boolean) 2 := ⟨(sm_gd 1086 (by decide +kernel) (by rfl)), (sm_gd 55 (by decide +kernel) (by rfl)), ⟨by decide +kernel, by decide +kernel, by decide +kernel⟩, Or.inl (sm_gd 1083 (by decide +kernel) (by rfl))⟩
theorem vf_X10_reads : 7 < 8 ∧ sm_cC 7 = yX10_reads.cls ∧ Cond.instanceMethod yX10_reads ∈ sm_tb ∧ Cond.selects yX10_reads.cls yX10_reads yX10_reads ∈ sm_tb := ⟨by decide, rfl, (sm_gd 1085 (by decide +kernel) (by rfl)), (sm_gd 45 (by decide +kernel) (by rfl))⟩
theorem lk_RX10_193 : sm_lk RX10 193 yX10_faultOf cX10_faultOf 2 (some .int) 0 := ⟨(sm_gd 1082 (by decide +kernel) (by rfl)), (sm_gd 55 (by decide +kernel) (by rfl)), ⟨by decide +kernel, by decide +kernel, by decide +kernel⟩, Or.inl (sm_gd 1079 (by decide +kernel) (by rfl))⟩
theorem vf_X10_faultOf : 7 < 8 ∧ sm_cC 7 = yX10_faultOf.cls ∧ Cond.instanceMethod yX10_faultOf ∈ sm_tb ∧ Cond.selects yX10_faultOf.cls yX10_faultOf yX10_faultOf ∈ sm_tb := ⟨by decide, rfl, (sm_gd 1081 (by decide +kernel) (by rfl)), (sm_gd 44 (by decide +kernel) (by rfl))⟩
theorem lf_RX10_19 : sm_lkF RX10 19 7 5 := Or.inl (sm_gd 822 (by decide +kernel) (by rfl))
theorem fR_7_5 : 7 < 8 ∧ 5 < sm_cN 7 ∧ (sm_ty 7 5).isReference = true := ⟨by decide, by decide, rfl⟩
theorem lf_RX10_16 : sm_lkF RX10 16 7 3 := Or.inl (sm_gd 820 (by decide +kernel) (by rfl))
theorem fR_7_3 : 7 < 8 ∧ 3 < sm_cN 7 ∧ (sm_ty 7 3).isReference = true := ⟨by decide, by decide, rfl⟩
theorem lf_RX10_196 : sm_lkF RX10 196 7 4 := Or.inl (sm_gd 821 (by decide +kernel) (by rfl))
theorem fP_7_4 : 7 < 8 ∧ 4 < sm_cN 7 ∧ (sm_cT 7 4).2.2.2 = false := ⟨by decide, by decide, rfl⟩
theorem fI_7_4 : 7 < 8 ∧ 4 < sm_cN 7 ∧ (sm_ty 7 4).isReference = false := ⟨by decide, by decide, rfl⟩
