/-! ===== constructors: steps of a walk onward ===== -/
def FW (X : XT) (pc : Nat) (lv : List (Option AV)) (st : List AV) (E : ET) (mi : MI) (pc' : Nat) (lv' : List (Option AV)) (st' : List AV) (E' : ET) (mi' : MI) : Prop := ∀ r, sM X pc' lv' st' E' mi' r → sM X pc lv st E mi r
/-- one cell more, and a field or a place that holds it -/
def NA (E : ET) (mi : MI) (E' : ET) (mi' : MI) (a j kd n w : Nat) : Prop := E'.sz = E.sz + 1 ∧ E'.us = E.us + w ∧ (∀ k, E'.sh k = if k = E.sz then (kd, n) else E.sh k) ∧ (∀ b i, E'.mr b i = if b = a ∧ i = j then some E.sz else if b = E.sz then none else E.mr b i) ∧ ∀ b i, mi' b i = if b = E.sz then 0 else mi b i
theorem na_al (E : ET) (mi : MI) (a j kd n w : Nat) : NA E mi ((sm_al E kd n w).1, (sm_al E kd n w).2.1, (sm_al E kd n w).2.2.1, sm_upr (sm_al E kd n w).mr a j (some E.sz)) (sm_z mi E.sz) a j kd n w := by
  refine ⟨rfl, rfl, fun k => rfl, fun b i => ?_, fun b i => ?_⟩
  · show (if b = a ∧ i = j then some E.sz else (if b = E.1 then (fun _ => none) else E.2.2.2 b) i) = _
    by_cases z : b = a ∧ i = j
    · rw [if_pos z, if_pos z]
    · rw [if_neg z, if_neg z]
      by_cases y : b = E.1
      · rw [if_pos y, if_pos y]
      · rw [if_neg y, if_neg y]
  · unfold sm_z
    by_cases y : b = E.sz
    · rw [if_pos y, if_pos y]
    · rw [if_neg y, if_neg y]
theorem al_sh {E : ET} {kd n w k : Nat} (h : k < E.sz) : (sm_al E kd n w).sh k = E.sh k := by
  show (if k = E.1 then (kd, n) else E.2.2.1 k) = _
  rw [if_neg (by have : k < E.1 := h; omega)]
theorem st_arr {X : XT} {pc : Nat} {lv : List (Option AV)} {st : List AV} {E : ET} {mi : MI} {a j kdo idx n kd : Nat} {at' : ArrayType} (hat : at' = .int ∧ kd = 20 ∨ at' = .char ∧ kd = 21) (hw : Cond.arrayClass (newarray.typeOf at') ∈ sm_tb) (hn : n < 65536) (hd1 : decode X.cc pc = .ok (.newarray at', 2))
    (lk : Cond.fieldLink X.own idx (sm_cC kdo) (sm_cT kdo j).2.1 (sm_cT kdo j).2.2.1 ∈ sm_tb) (h8 : kdo < 8 ∧ j < sm_cN kdo ∧ (sm_cT kdo j).2.2.2 = true ∧ (sm_ty kdo j).isReference = true) (hini : X.ini = true) (hown : sm_cC kdo = X.own) (hk : (E.sh a).1 = kdo) (h3a : 3 ≤ a) (ha : a < E.sz) (hd2 : decode X.cc (pc + 2) = .ok (.putfield idx, 3)) :
    ∃ E' mi', FW X pc lv (.inl (n : Int) :: .inr a :: st) E mi (pc + 2 + 3) lv st E' mi' ∧ NA E mi E' mi' a j kd n n :=
  ⟨_, _, fun r kk => sm_newarray hat hw hn hd1 (sm_putR lk h8 hini hown (by rw [al_sh ha]; exact hk) h3a (by show a < E.1 + 1; exact Nat.lt_succ_of_lt ha) hd2 kk), na_al E mi a j kd n n⟩
theorem st_aarr {X : XT} {pc : Nat} {lv : List (Option AV)} {st : List AV} {E : ET} {mi : MI} {a j kdo idx idx' n kd : Nat} (h22 : kd = 22 ∨ kd = 23 ∨ kd = 24 ∨ kd = 25) (hw : Cond.classLink X.own idx' (sm_cC (sm_aK kd)) ∈ sm_tb) (hn : n < 65536) (hd1 : decode X.cc pc = .ok (.anewarray idx', 3))
    (lk : Cond.fieldLink X.own idx (sm_cC kdo) (sm_cT kdo j).2.1 (sm_cT kdo j).2.2.1 ∈ sm_tb) (h8 : kdo < 8 ∧ j < sm_cN kdo ∧ (sm_cT kdo j).2.2.2 = true ∧ (sm_ty kdo j).isReference = true) (hini : X.ini = true) (hown : sm_cC kdo = X.own) (hk : (E.sh a).1 = kdo) (h3a : 3 ≤ a) (ha : a < E.sz) (hd2 : decode X.cc (pc + 3) = .ok (.putfield idx, 3)) :
    ∃ E' mi', FW X pc lv (.inl (n : Int) :: .inr a :: st) E mi (pc + 3 + 3) lv st E' mi' ∧ NA E mi E' mi' a j kd n n :=
  ⟨_, _, fun r kk => sm_anewarray h22 hw hn hd1 (sm_putR lk h8 hini hown (by rw [al_sh ha]; exact hk) h3a (by show a < E.1 + 1; exact Nat.lt_succ_of_lt ha) hd2 kk), na_al E mi a j kd n n⟩
/-- objects of no arrays are made empty -/
theorem bBrk_init {G : GT} {E : ET} {mi : MI} {a : Nat} : cN G yX1_init cX1_init 1 none 1 20 [.inr a] E mi (none, E, mi) := by
  refine sm_meth (by decide +kernel) (Nat.le_of_ble_eq_true rfl) ?_
  refine sm_aload_n dX1_init_0 rfl ?_
  refine sm_objInit lo_RX1_3 ⟨Nat.le_of_ble_eq_true rfl, Nat.le_of_ble_eq_true rfl⟩ dX1_init_1 ?_
  exact sm_return rfl dX1_init_4
theorem bGar_init {G : GT} {E : ET} {mi : MI} {a : Nat} : cN G yX3_init cX3_init 1 none 1 20 [.inr a] E mi (none, E, mi) := by
  refine sm_meth (by decide +kernel) (Nat.le_of_ble_eq_true rfl) ?_
  refine sm_aload_n dX3_init_0 rfl ?_
  refine sm_objInit lo_RX3_1 ⟨Nat.le_of_ble_eq_true rfl, Nat.le_of_ble_eq_true rfl⟩ dX3_init_1 ?_
  exact sm_return rfl dX3_init_4
theorem bPat_init {G : GT} {E : ET} {mi : MI} {a : Nat} : cN G yX4_init cX4_init 1 none 1 20 [.inr a] E mi (none, E, mi) := by
  refine sm_meth (by decide +kernel) (Nat.le_of_ble_eq_true rfl) ?_
  refine sm_aload_n dX4_init_0 rfl ?_
  refine sm_objInit lo_RX4_3 ⟨Nat.le_of_ble_eq_true rfl, Nat.le_of_ble_eq_true rfl⟩ dX4_init_1 ?_
  exact sm_return rfl dX4_init_4
/-- a text -/
theorem bText_init {G : GT} {E : ET} {mi : MI} {a : Nat} (h3 : 3 ≤ a) (hsz : E.sz = a + 1) (hk : (E.sh a).1 = 1) : ∃ E' mi', cN G yX2_init cX2_init 1 none 1 20 [.inr a] E mi (none, E', mi') ∧ E'.sz = a + 3 ∧ E'.us = E.us + 90 ∧ (∀ k, k ≤ a → E'.sh k = E.sh k) ∧ (∀ b, b < a → E'.mr b = E.mr b) ∧ (∀ b, b ≤ a → mi' b = mi b) ∧ gT E' a := by
  obtain ⟨E1, m1, s1, n1, u1, p1, q1, v1⟩ := st_arr (X := (G, yX2_init.cls, cX2_init, 1, none, decide (yX2_init.name = "<init>"), 1, 20)) (pc := 7) (lv := [some (.inr a)]) (st := []) (E := E) (mi := mi) (a := a) (j := 0) (kdo := 1) (n := 60) (kd := 21) (Or.inr ⟨rfl, rfl⟩) ac_char (by decide) dX2_init_7 lp_RX2_9 fQ_1_0 rfl rfl hk h3 (by omega) dX2_init_9
  obtain ⟨E2, m2, s2, n2, u2, p2, q2, v2⟩ := st_arr (X := (G, yX2_init.cls, cX2_init, 1, none, decide (yX2_init.name = "<init>"), 1, 20)) (pc := 15) (lv := [some (.inr a)]) (st := []) (E := E1) (mi := m1) (a := a) (j := 2) (kdo := 1) (n := 30) (kd := 20) (Or.inl ⟨rfl, rfl⟩) ac_int (by decide) dX2_init_15 lp_RX2_15 fQ_1_2 rfl rfl (by rw [p1, if_neg (by omega)]; exact hk) h3 (by omega) dX2_init_17
  refine ⟨E2, m2, ?_, by omega, by omega, fun k hk' => by rw [p2, if_neg (by omega), p1, if_neg (by omega)], fun b hb => ?_, fun b hb => ?_, h3, by omega, ?_, ⟨?_, ?_⟩, ⟨?_, ?_⟩⟩
  · refine sm_meth (by decide +kernel) (Nat.le_of_ble_eq_true rfl) ?_
    refine sm_aload_n dX2_init_0 rfl ?_
    refine sm_objInit lo_RX2_3 ⟨Nat.le_of_ble_eq_true rfl, Nat.le_of_ble_eq_true rfl⟩ dX2_init_1 ?_
    refine sm_aload_n dX2_init_4 rfl ?_
    refine sm_bipush dX2_init_5 rfl ?_
    refine s1 _ ?_
    refine sm_aload_n dX2_init_12 rfl ?_
    refine sm_bipush dX2_init_13 rfl ?_
    refine s2 _ ?_
    exact sm_return rfl dX2_init_20
  · funext i
    rw [q2, if_neg (by omega), if_neg (by omega), q1, if_neg (by omega), if_neg (by omega)]
  · funext i
    rw [v2, if_neg (by omega), v1, if_neg (by omega)]
  · rw [p2, if_neg (by omega), p1, if_neg (by omega)]
    exact hk
  · rw [p2, if_neg (by omega), p1, if_pos (by omega)]
  · rw [q2, if_neg (by omega), if_neg (by omega), q1, if_pos ⟨rfl, rfl⟩, hsz]
  · rw [p2, if_pos (by omega)]
  · rw [q2, if_pos ⟨rfl, rfl⟩, n1, hsz]
/-- a map -/
abbrev xMap_init (G : GT) : XT := (G, yX5_init.cls, cX5_init, 2, none, decide (yX5_init.name = "<init>"), 1, 20)
theorem map_l24 {G : GT} {E : ET} {a d : Nat} (hk : (E.sh a).1 = 4) (ha : a < E.sz) (hd : E.mr a 2 = some d) (hs : E.sh d = (20, 144)) (h3 : 3 ≤ d) (hd2 : d < E.sz) : ∀ (k i : Nat) (mi : MI), i + k = 144 →
    ∃ mi', FW (xMap_init G) 24 [some (.inr a), some (.inl (i : Int))] [] E mi 45 [some (.inr a), some (.inl 144)] [] E mi' ∧ ∀ b j, mi' b j = if b = d ∧ i ≤ j ∧ j < 144 then 1000000 else mi b j := by
  intro k
  induction k with
  | zero =>
    intro i mi hi
    have e : i = 144 := by omega
    subst e
    refine ⟨mi, fun r kk => ?_, fun b j => by rw [if_neg (by omega)]⟩
    refine sm_iload_n dX5_init_24 rfl ?_
    refine sm_sipush dX5_init_25 rfl ?_
    exact sm_icmp_ge 45 dX5_init_28 rfl (fun _ => kk) (fun c => absurd (Int.le_refl _) c)
  | succ k ih =>
    intro i mi hi
    have wi : sm_w (i : Int) = i := tw (by omega) (by omega)
    obtain ⟨mi', s1, q1⟩ := ih (i + 1) (sm_up mi d i 1000000) (by omega)
    refine ⟨mi', fun r kk => ?_, fun b j => ?_⟩
    · refine sm_iload_n dX5_init_24 rfl ?_
      refine sm_sipush dX5_init_25 rfl ?_
      refine sm_icmp_ge 45 dX5_init_28 rfl (fun c => absurd c (by rw [wi, tw (x := 144) (by omega) (by omega)]; omega)) (fun _ => ?_)
      refine sm_aload_n dX5_init_31 rfl ?_
      refine sm_getR lf_RX5_15 fR_4_2 hk ha hd dX5_init_32 ?_
      refine sm_iload_n dX5_init_35 rfl ?_
      refine sm_ldc rfl lc_RX5_18 dX5_init_36 ?_
      refine sm_iastore hs h3 hd2 (by rw [wi]; omega) (by rw [wi]; omega) dX5_init_38 ?_
      refine sm_iinc dX5_init_39 (Nat.le_of_ble_eq_true rfl) rfl ?_
      refine sm_goto 24 dX5_init_42 rfl ?_
      rw [wi]
      exact s1 r kk
    · rw [q1]
      by_cases z : b = d ∧ i ≤ j ∧ j < 144
      · rw [if_pos z]
        by_cases y : j = i
        · rw [if_neg (by omega), y, z.1, up_s]
        · rw [if_pos ⟨z.1, by omega, z.2.2⟩]
      · rw [if_neg z, if_neg (fun e => z ⟨e.1, by omega, e.2.2⟩)]
        unfold sm_up
        rw [if_neg (fun e => z ⟨e.1, by omega, by omega⟩)]
theorem map_l47 {G : GT} {E : ET} {a d : Nat} (hk : (E.sh a).1 = 4) (ha : a < E.sz) (hd : E.mr a 2 = some d) (hs : E.sh d = (20, 144)) (h3 : 3 ≤ d) (hd2 : d < E.sz) : ∀ (k i : Nat) (mi : MI), i + k = 12 →
    ∃ mi', FW (xMap_init G) 47 [some (.inr a), some (.inl (i : Int))] [] E mi 71 [some (.inr a), some (.inl 12)] [] E mi' ∧ (∀ b, ¬ b = d → mi' b = mi b) ∧ ∀ x y, x < 12 → y < 12 → mi' d (12 * x + y) = if x = y ∧ i ≤ x then 0 else mi d (12 * x + y) := by
  intro k
  induction k with
  | zero =>
    intro i mi hi
    have e : i = 12 := by omega
    subst e
    refine ⟨mi, fun r kk => ?_, fun _ _ => rfl, fun x y hx hy => by rw [if_neg (by omega)]⟩
    refine sm_iload_n dX5_init_47 rfl ?_
    refine sm_bipush dX5_init_48 rfl ?_
    exact sm_icmp_ge 71 dX5_init_50 rfl (fun _ => kk) (fun c => absurd (Int.le_refl _) c)
  | succ k ih =>
    intro i mi hi
    have wi : sm_w (i : Int) = i := tw (by omega) (by omega)
    have wj : sm_w ((i : Int) * 12 + (i : Int)) = (i : Int) * 12 + (i : Int) := tw (by omega) (by omega)
    obtain ⟨mi', s1, q0, q1⟩ := ih (i + 1) (sm_up mi d (12 * i + i) 0) (by omega)
    refine ⟨mi', fun r kk => ?_, fun b hb => by rw [q0 b hb, up_D hb], fun x y hx hy => ?_⟩
    · refine sm_iload_n dX5_init_47 rfl ?_
      refine sm_bipush dX5_init_48 rfl ?_
      refine sm_icmp_ge 71 dX5_init_50 rfl (fun c => absurd c (by rw [wi, tw (x := 12) (by omega) (by omega)]; omega)) (fun _ => ?_)
      refine sm_aload_n dX5_init_53 rfl ?_
      refine sm_getR lf_RX5_15 fR_4_2 hk ha hd dX5_init_54 ?_
      refine sm_iload_n dX5_init_57 rfl ?_
      refine sm_bipush dX5_init_58 rfl ?_
      refine sm_imul dX5_init_60 ?_
      refine sm_iload_n dX5_init_61 rfl ?_
      refine sm_iadd dX5_init_62 ?_
      refine sm_iconst dX5_init_63 ?_
      refine sm_iastore hs h3 hd2 (by rw [wj]; omega) (by rw [wj]; omega) dX5_init_64 ?_
      refine sm_iinc dX5_init_65 (Nat.le_of_ble_eq_true rfl) rfl ?_
      refine sm_goto 47 dX5_init_68 rfl ?_
      rw [wj, show ((i : Int) * 12 + (i : Int)).toNat = 12 * i + i by omega]
      exact s1 r kk
    · rw [q1 x y hx hy]
      by_cases z : x = y ∧ i ≤ x
      · rw [if_pos z]
        by_cases w : x = i
        · rw [if_neg (by omega), ← z.1, w, up_s]
        · rw [if_pos ⟨z.1, by omega⟩]
      · rw [if_neg z, if_neg (fun e => z ⟨e.1, by omega⟩), up_j (by omega)]
theorem bMap_init {G : GT} {E : ET} {mi : MI} {a : Nat} (h3 : 3 ≤ a) (hsz : E.sz = a + 1) (hk : (E.sh a).1 = 4) : ∃ E' mi', cN G yX5_init cX5_init 2 none 1 20 [.inr a] E mi (none, E', mi') ∧ E'.sz = a + 3 ∧ E'.us = E.us + 288 ∧ (∀ k, k ≤ a → E'.sh k = E.sh k) ∧ (∀ b, b < a → E'.mr b = E.mr b) ∧ (∀ b, b ≤ a → mi' b = mi b) ∧ gM E' a ∧
    (∀ j, mi' (a + 1) j = 0) ∧ ∀ x y, x < 12 → y < 12 → mi' (a + 2) (12 * x + y) = if x = y then 0 else 1000000 := by
  obtain ⟨E1, m1, s1, n1, u1, p1, q1, v1⟩ := st_arr (X := xMap_init G) (pc := 8) (lv := [some (.inr a), none]) (st := []) (E := E) (mi := mi) (a := a) (j := 1) (kdo := 4) (n := 144) (kd := 20) (Or.inl ⟨rfl, rfl⟩) ac_int (by decide) dX5_init_8 lp_RX5_9 fQ_4_1 rfl rfl hk h3 (by omega) dX5_init_10
  obtain ⟨E2, m2, s2, n2, u2, p2, q2, v2⟩ := st_arr (X := xMap_init G) (pc := 17) (lv := [some (.inr a), none]) (st := []) (E := E1) (mi := m1) (a := a) (j := 2) (kdo := 4) (n := 144) (kd := 20) (Or.inl ⟨rfl, rfl⟩) ac_int (by decide) dX5_init_17 lp_RX5_15 fQ_4_2 rfl rfl (by rw [p1, if_neg (by omega)]; exact hk) h3 (by omega) dX5_init_19
  have k2 : (E2.sh a).1 = 4 := by rw [p2, if_neg (by omega), p1, if_neg (by omega)]; exact hk
  have r2 : E2.mr a 2 = some (a + 2) := by rw [q2, if_pos ⟨rfl, rfl⟩, n1, hsz]
  have h2 : E2.sh (a + 2) = (20, 144) := by rw [p2, if_pos (by omega)]
  obtain ⟨m3, s3, v3⟩ := map_l24 (G := G) k2 (by omega) r2 h2 (by omega) (by omega) 144 0 m2 (by omega)
  obtain ⟨m4, s4, v4, v5⟩ := map_l47 (G := G) k2 (by omega) r2 h2 (by omega) (by omega) 12 0 m3 (by omega)
  refine ⟨E2, m4, ?_, by omega, by omega, fun k hk' => by rw [p2, if_neg (by omega), p1, if_neg (by omega)], fun b hb => ?_, fun b hb => ?_, ⟨h3, by omega, k2, ⟨?_, ?_⟩, h2, r2⟩, fun j => ?_, fun x y hx hy => ?_⟩
  · refine sm_meth (by decide +kernel) (Nat.le_of_ble_eq_true rfl) ?_
    refine sm_aload_n dX5_init_0 rfl ?_
    refine sm_objInit lo_RX5_3 ⟨Nat.le_of_ble_eq_true rfl, Nat.le_of_ble_eq_true rfl⟩ dX5_init_1 ?_
    refine sm_aload_n dX5_init_4 rfl ?_
    refine sm_sipush dX5_init_5 rfl ?_
    refine s1 _ ?_
    refine sm_aload_n dX5_init_13 rfl ?_
    refine sm_sipush dX5_init_14 rfl ?_
    refine s2 _ ?_
    refine sm_iconst dX5_init_22 ?_
    refine sm_istore_n dX5_init_23 (Nat.le_of_ble_eq_true rfl) ?_
    refine s3 _ ?_
    refine sm_iconst dX5_init_45 ?_
    refine sm_istore_n dX5_init_46 (Nat.le_of_ble_eq_true rfl) ?_
    refine s4 _ ?_
    exact sm_return rfl dX5_init_71
  · funext i
    rw [q2, if_neg (by omega), if_neg (by omega), q1, if_neg (by omega), if_neg (by omega)]
  · rw [v4 b (by omega)]
    funext i
    rw [v3, if_neg (by omega), v2, if_neg (by omega), v1, if_neg (by omega)]
  · rw [p2, if_neg (by omega), p1, if_pos (by omega)]
  · rw [q2, if_neg (by omega), if_neg (by omega), q1, if_pos ⟨rfl, rfl⟩, hsz]
  · rw [v4 _ (by omega), v3, if_neg (by omega), v2, if_neg (by omega), v1, if_pos (by omega)]
  · rw [v5 x y hx hy]
    by_cases z : x = y
    · rw [if_pos z, if_pos ⟨z, Nat.zero_le _⟩]
    · rw [if_neg z, if_neg (fun e => z e.1), v3, if_pos ⟨rfl, by omega, by omega⟩]
