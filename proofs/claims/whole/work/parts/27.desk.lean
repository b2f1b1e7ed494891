abbrev xDesk_record (G : GT) : XT := (G, yX9_record.cls, cX9_record, 3, none, decide (yX9_record.name = "<init>"), 3, 69)
def fDesk_record_j54  (s : MI) (ro : Nat → Nat) : Option (MI × (Nat → Nat)) :=
  if 0 ≤ sm_w (s 0 4) ∧ sm_w (s 0 4) < 4 then if (ro (sm_w (s 0 4)).toNat) < 4 then Option.bind (fState_copyFrom (sm_lo (188 + 61 * (ro (sm_w (s 0 4)).toNat)) s) (sm_lo 1 s)) (fun p3 => Option.bind (some (sm_gl (188 + 61 * (ro (sm_w (s 0 4)).toNat)) 61 p3 s)) (fun s6 => Option.bind (some (sm_up s6 0 4 ((s6 0 4) + 1))) (fun s8 => some (s8, ro)))) else none else none
set_option maxRecDepth 100000 in
set_option maxHeartbeats 4000000 in
theorem bDesk_record_j54 {G : GT} {E : ET} {o : Nat} {s mi : MI} {ro : Nat → Nat}  {w : MI × (Nat → Nat)} (g : gD E o)  (h : fDesk_record_j54 s ro = some w) : sM (xDesk_record G) 54 [some (.inr o), none, none] [] (eD E o ro) (sm_gl o 432 s mi) (none, eD E o w.2, sm_gl o 432 w.1 mi) := by
  have hN1 := g.1
  have hN2 := (g.e ro).2.1
  unfold fDesk_record_j54 at h
  refine sm_aload_n dX9_record_54 rfl ?_
  refine sm_getR lf_RX9_22 fR_6_3 (g.e ro).2.2.1 (by omega) (g.e ro).2.2.2.2.2.2.1.2 dX9_record_55 ?_
  refine sm_aload_n dX9_record_58 rfl ?_
  refine sl_getI (D := 0) lf_RX9_192 fI_6_4 (g.e ro).2.2.1 rfl (by omega) hN2 dX9_record_59 ?_
  obtain ⟨q1, h⟩ := sl_guard h
  have xq1 := (sl_ix (m := 4) q1).2
  obtain ⟨q2, h⟩ := sl_guard h
  refine sl_aald (k := (sm_w (s 0 4)).toNat) (Or.inr (Or.inr (Or.inr rfl))) (g.e ro).2.2.2.2.2.2.1.1 (by omega) (sl_ix (m := 4) q1) (eD_h (sm_w (s 0 4)).toNat) dX9_record_62 ?_
  refine sm_aload_n dX9_record_63 rfl ?_
  refine sm_getR lf_RX9_10 fR_6_0 (g.e ro).2.2.1 (by omega) (g.e ro).2.2.2.1.2 dX9_record_64 ?_
  obtain ⟨p3, hp4, h⟩ := sl_bind h
  have hc5 := bState_copyFrom (G := G) (E := (eD E o ro)) (o := o + (188 + 61 * (ro (sm_w (s 0 4)).toNat))) (s := (sm_lo (188 + 61 * (ro (sm_w (s 0 4)).toNat)) s)) (mi := (sm_gl o 432 s mi)) (o2 := o + 1) (s2 := (sm_lo 1 s)) ((g.e ro).2.2.2.2.2.2.2.2 (ro (sm_w (s 0 4)).toNat) q2) ((g.e ro).2.2.2.1.1) (g2_in (by omega) (by omega))  hp4
  rw [gl_in (o := o) (D := (188 + 61 * (ro (sm_w (s 0 4)).toNat))) (ha := (rfl : o + (188 + 61 * (ro (sm_w (s 0 4)).toNat)) = o + (188 + 61 * (ro (sm_w (s 0 4)).toNat)))) (hD := (by omega : (188 + 61 * (ro (sm_w (s 0 4)).toNat)) + 61 ≤ 432)), gl_out (o := o) (D := (188 + 61 * (ro (sm_w (s 0 4)).toNat))) (ha := (rfl : o + (188 + 61 * (ro (sm_w (s 0 4)).toNat)) = o + (188 + 61 * (ro (sm_w (s 0 4)).toNat)))) (hD := (by omega : (188 + 61 * (ro (sm_w (s 0 4)).toNat)) + 61 ≤ 432))] at hc5
  refine sc_callV0 (avs := [.inr (o + 1)]) (st := []) lk_RX9_180 rfl vf_X7_copyFrom hc5 ⟨(Nat.le_of_ble_eq_true rfl), (Nat.le_of_ble_eq_true rfl)⟩ ⟨rfl, (Nat.le_of_ble_eq_true rfl)⟩ ((g.e ro).2.2.2.2.2.2.2.2 (ro (sm_w (s 0 4)).toNat) q2).2.2.1 (by omega) rfl dX9_record_67 ?_
  obtain ⟨s6, hs7, h⟩ := sl_bind h
  rw [Option.some.inj hs7]
  refine sm_aload_n dX9_record_70 rfl ?_
  refine sm_dup dX9_record_71 ?_
  refine sl_getI (D := 0) lf_RX9_192 fI_6_4 (g.e ro).2.2.1 rfl (by omega) hN2 dX9_record_72 ?_
  refine sm_iconst dX9_record_75 ?_
  refine sm_iadd dX9_record_76 ?_
  refine sl_putI (D := 0) lf_RX9_192 fP_6_4 (Or.inl rfl) (g.e ro).2.2.1 rfl (by omega) ⟨hN1, hN2⟩ dX9_record_77 ?_
  obtain ⟨s8, hs9, h⟩ := sl_bind h
  rw [Option.some.inj hs9]
  cases h
  exact sm_return rfl dX9_record_80
abbrev qDesk_record_l17 (G : GT) (E : ET) (o : Nat) (mi : MI) (d1 : Nat) (s : MI) (r : RT) (t : Int × (Nat → Nat)) : Prop := sM (xDesk_record G) 17 [some (.inr o), some (.inr (o + (188 + 61 * d1))), some (.inl t.1)] [] (eD E o t.2) (sm_gl o 432 s mi) r
abbrev kDesk_record_l17 (G : GT) (E : ET) (o : Nat) (mi : MI) (d1 : Nat) (s : MI) (r : RT) (x : (Nat → Nat)) : Prop := sM (xDesk_record G) 42 [some (.inr o), some (.inr (o + (188 + 61 * d1))), none] [] (eD E o x) (sm_gl o 432 s mi) r
def fDesk_record_l17 (d1 : Nat) (z2 : Int) (s : MI) (ro : Nat → Nat) : Option ((Int × (Nat → Nat)) ⊕ ((Nat → Nat))) :=
  (if 4 ≤ sm_w z2 then some (.inr ro) else if 0 ≤ sm_w z2 ∧ sm_w z2 < 4 then if (ro (sm_w z2).toNat) < 4 then if 0 ≤ sm_w (z2 - 1) ∧ sm_w (z2 - 1) < 4 then some (.inl ((z2 + 1), (sl_upN ro (sm_w (z2 - 1)).toNat (ro (sm_w z2).toNat)))) else none else none else none)
set_option maxRecDepth 100000 in
set_option maxHeartbeats 4000000 in
theorem bDesk_record_l17 {G : GT} {E : ET} {o : Nat} {s mi : MI} {ro : Nat → Nat} {d1 : Nat} {z2 : Int} {r : RT} {w : (Int × (Nat → Nat)) ⊕ ((Nat → Nat))} (g : gD E o) (hd1 : d1 < 4) (h : fDesk_record_l17 d1 z2 s ro = some w) (hK : Sum.elim (qDesk_record_l17 G E o mi d1 s r) (kDesk_record_l17 G E o mi d1 s r) w) : qDesk_record_l17 G E o mi d1 s r (z2, ro) := by
  have hN1 := g.1
  have hN2 := (g.e ro).2.1
  unfold fDesk_record_l17 at h
  show sM (xDesk_record G) 17 [some (.inr o), some (.inr (o + (188 + 61 * d1))), some (.inl z2)] [] (eD E o ro) (sm_gl o 432 s mi) r
  refine sm_iload_n dX9_record_17 rfl ?_
  refine sm_iconst dX9_record_18 ?_
  refine sc_icmp_ge (X' := sm_w z2) (Y' := 4) 42 dX9_record_19 rfl rfl (by decide) (fun c14 => ?_) (fun c14 => ?_)
  · rw [if_pos c14] at h
    cases h
    exact sm_less (lv' := [some (.inr o), some (.inr (o + (188 + 61 * d1))), none]) ⟨rfl, rfl, trivial⟩ hK
  · rw [if_neg c14] at h
    refine sm_aload_n dX9_record_22 rfl ?_
    refine sm_getR lf_RX9_22 fR_6_3 (g.e ro).2.2.1 (by omega) (g.e ro).2.2.2.2.2.2.1.2 dX9_record_23 ?_
    refine sm_iload_n dX9_record_26 rfl ?_
    refine sm_iconst dX9_record_27 ?_
    refine sm_isub dX9_record_28 ?_
    refine sm_aload_n dX9_record_29 rfl ?_
    refine sm_getR lf_RX9_22 fR_6_3 (g.e ro).2.2.1 (by omega) (g.e ro).2.2.2.2.2.2.1.2 dX9_record_30 ?_
    refine sm_iload_n dX9_record_33 rfl ?_
    obtain ⟨q11, h⟩ := sl_guard h
    have xq11 := (sl_ix (m := 4) q11).2
    obtain ⟨q12, h⟩ := sl_guard h
    refine sl_aald (k := (sm_w z2).toNat) (Or.inr (Or.inr (Or.inr rfl))) (g.e ro).2.2.2.2.2.2.1.1 (by omega) (sl_ix (m := 4) q11) (eD_h (sm_w z2).toNat) dX9_record_34 ?_
    obtain ⟨q13, h⟩ := sl_guard h
    have xq13 := (sl_ix (m := 4) q13).2
    refine sl_aast (k := (sm_w (z2 - 1)).toNat) g (sl_ix (m := 4) q13) q12 dX9_record_35 ?_
    have hN2 := (g.e (sl_upN ro (sm_w (z2 - 1)).toNat (ro (sm_w z2).toNat))).2.1
    refine sm_iinc dX9_record_36 (Nat.le_of_ble_eq_true rfl) rfl ?_
    refine sm_goto 17 dX9_record_39 rfl ?_
    cases h
    exact sm_less (lv' := [some (.inr o), some (.inr (o + (188 + 61 * d1))), some (.inl (z2 + 1))]) ⟨rfl, rfl, rfl, trivial⟩ hK
def fDesk_record  (s : MI) (ro : Nat → Nat) : Option (MI × (Nat → Nat)) :=
  (if sm_w (s 0 4) < 4 then fDesk_record_j54 s ro else if (ro 0) < 4 then Option.bind (sl_it (fun (t : Int × (Nat → Nat)) => fDesk_record_l17 (ro 0) t.1 s t.2) sl_fu (1, ro)) (fun x17 => Option.bind (some (sm_up s 0 4 3)) (fun s18 => fDesk_record_j54 s18 (sl_upN x17 3 (ro 0)))) else none)
set_option maxRecDepth 100000 in
set_option maxHeartbeats 4000000 in
theorem bDesk_record {G : GT} {E : ET} {o : Nat} {s mi : MI} {ro : Nat → Nat}  {w : MI × (Nat → Nat)} (g : gD E o)  (h : fDesk_record s ro = some w) : cN G yX9_record cX9_record 3 none 3 69 [.inr o] (eD E o ro) (sm_gl o 432 s mi) (none, eD E o w.2, sm_gl o 432 w.1 mi) := by
  have hN1 := g.1
  have hN2 := (g.e ro).2.1
  unfold fDesk_record at h
  refine sm_meth (by decide +kernel) (Nat.le_of_ble_eq_true rfl) ?_
  show sM (xDesk_record G) 0 [some (.inr o), none, none] [] (eD E o ro) (sm_gl o 432 s mi) _
  refine sm_aload_n dX9_record_0 rfl ?_
  refine sl_getI (D := 0) lf_RX9_192 fI_6_4 (g.e ro).2.2.1 rfl (by omega) hN2 dX9_record_1 ?_
  refine sm_iconst dX9_record_4 ?_
  refine sc_icmp_lt (X' := sm_w (s 0 4)) (Y' := 4) 54 dX9_record_5 rfl rfl (by decide) (fun c20 => ?_) (fun c20 => ?_)
  · rw [if_pos c20] at h
    exact sm_less (lv' := [some (.inr o), none, none]) ⟨rfl, trivial⟩ (bDesk_record_j54 g   h)
  · rw [if_neg c20] at h
    refine sm_aload_n dX9_record_8 rfl ?_
    refine sm_getR lf_RX9_22 fR_6_3 (g.e ro).2.2.1 (by omega) (g.e ro).2.2.2.2.2.2.1.2 dX9_record_9 ?_
    refine sm_iconst dX9_record_12 ?_
    obtain ⟨q10, h⟩ := sl_guard h
    refine sl_aald (k := 0) (Or.inr (Or.inr (Or.inr rfl))) (g.e ro).2.2.2.2.2.2.1.1 (by omega) ⟨by decide, by decide⟩ (eD_h 0) dX9_record_13 ?_
    refine sm_astore_n dX9_record_14 (Nat.le_of_ble_eq_true rfl) ?_
    refine sm_iconst dX9_record_15 ?_
    refine sm_istore_n dX9_record_16 (Nat.le_of_ble_eq_true rfl) ?_
    obtain ⟨x17, hy16, h⟩ := sl_bind h
    refine sm_less (lv' := [some (.inr o), some (.inr (o + (188 + 61 * (ro 0)))), some (.inl 1)]) ⟨rfl, rfl, rfl, trivial⟩ (sl_itE (P := qDesk_record_l17 G E o mi (ro 0) s _) (K := kDesk_record_l17 G E o mi (ro 0) s _) (fun t q hq hk => bDesk_record_l17 g q10 hq hk) sl_fu _ x17 hy16 ?_)
    show sM (xDesk_record G) 42 [some (.inr o), some (.inr (o + (188 + 61 * (ro 0)))), none] [] (eD E o x17) (sm_gl o 432 s mi) _
    have hN2 := (g.e x17).2.1
    refine sm_aload_n dX9_record_42 rfl ?_
    refine sm_getR lf_RX9_22 fR_6_3 (g.e x17).2.2.1 (by omega) (g.e x17).2.2.2.2.2.2.1.2 dX9_record_43 ?_
    refine sm_iconst dX9_record_46 ?_
    refine sm_aload_n dX9_record_47 rfl ?_
    refine sl_aast (k := 3) g ⟨by decide, by decide⟩ q10 dX9_record_48 ?_
    have hN2 := (g.e (sl_upN x17 3 (ro 0))).2.1
    refine sm_aload_n dX9_record_49 rfl ?_
    refine sm_iconst dX9_record_50 ?_
    refine sl_putI (D := 0) lf_RX9_192 fP_6_4 (Or.inl rfl) (g.e (sl_upN x17 3 (ro 0))).2.2.1 rfl (by omega) ⟨hN1, hN2⟩ dX9_record_51 ?_
    obtain ⟨s18, hs19, h⟩ := sl_bind h
    rw [Option.some.inj hs19]
    exact sm_less (lv' := [some (.inr o), none, none]) ⟨rfl, trivial⟩ (bDesk_record_j54 g   h)
abbrev xDesk_addRoad (G : GT) : XT := (G, yX9_addRoad.cls, cX9_addRoad, 4, (some .int), decide (yX9_addRoad.name = "<init>"), 4, 91)
def fDesk_addRoad (z1 : Int) (z2 : Int) (z3 : Int) (s : MI) (ro : Nat → Nat) : Option (Int × MI × (Nat → Nat)) :=
  Option.bind (fDesk_isArea z1) (fun p1 => (if sm_w p1 = 0 then some ((-1), s, ro) else Option.bind (fDesk_isArea z2) (fun p4 => (if sm_w p4 = 0 then some ((-1), s, ro) else (if sm_w z3 < 1 then some ((-2), s, ro) else (if 60 < sm_w z3 then some ((-2), s, ro) else (if sm_w z1 = sm_w z2 then some ((-2), s, ro) else Option.bind (fMap_road z1 z2 (sm_lo 2 s)) (fun p7 => (if sm_w p7 ≤ 0 then (if sm_w (s 2 0) < 30 then Option.bind (fDesk_record s ro) (fun p10 => Option.bind (fMap_build z1 z2 z3 (sm_lo 2 p10.1)) (fun p13 => Option.bind (some (sm_gl 2 3 p13.2 p10.1)) (fun s16 => some (p13.1, s16, p10.2)))) else some ((-3), s, ro)) else some ((-4), s, ro))))))))))
set_option maxRecDepth 100000 in
set_option maxHeartbeats 4000000 in
theorem bDesk_addRoad {G : GT} {E : ET} {o : Nat} {s mi : MI} {ro : Nat → Nat} {z1 : Int} {z2 : Int} {z3 : Int} {w : Int × MI × (Nat → Nat)} (g : gD E o)  (h : fDesk_addRoad z1 z2 z3 s ro = some w) : cN G yX9_addRoad cX9_addRoad 4 (some .int) 4 91 [.inr o, .inl z1, .inl z2, .inl z3] (eD E o ro) (sm_gl o 432 s mi) (some (.inl w.1), eD E o w.2.2, sm_gl o 432 w.2.1 mi) := by
  have hN1 := g.1
  have hN2 := (g.e ro).2.1
  unfold fDesk_addRoad at h
  refine sm_meth (by decide +kernel) (Nat.le_of_ble_eq_true rfl) ?_
  show sM (xDesk_addRoad G) 0 [some (.inr o), some (.inl z1), some (.inl z2), some (.inl z3)] [] (eD E o ro) (sm_gl o 432 s mi) _
  refine sm_iload_n dX9_addRoad_0 rfl ?_
  obtain ⟨p1, hp2, h⟩ := sl_bind h
  have hc3 := bDesk_isArea (G := G) (E := (eD E o ro)) (mi := (sm_gl o 432 s mi))   hp2
  refine sc_callS1 (avs := [.inl z1]) (st := []) lk_RX9_33 rfl sf_X9_isArea hc3 ⟨(Nat.le_of_ble_eq_true rfl), (Nat.le_of_ble_eq_true rfl)⟩ ⟨rfl, (Nat.le_of_ble_eq_true rfl)⟩ rfl dX9_addRoad_1 ?_
  refine sm_if_eq 14 dX9_addRoad_4 rfl (fun c24 => ?_) (fun c24 => ?_)
  · rw [if_pos c24] at h
    refine sm_iconst dX9_addRoad_14 ?_
    cases h
    exact sm_ireturn dX9_addRoad_15 (Or.inl rfl)
  · rw [if_neg c24] at h
    refine sm_iload_n dX9_addRoad_7 rfl ?_
    obtain ⟨p4, hp5, h⟩ := sl_bind h
    have hc6 := bDesk_isArea (G := G) (E := (eD E o ro)) (mi := (sm_gl o 432 s mi))   hp5
    refine sc_callS1 (avs := [.inl z2]) (st := []) lk_RX9_33 rfl sf_X9_isArea hc6 ⟨(Nat.le_of_ble_eq_true rfl), (Nat.le_of_ble_eq_true rfl)⟩ ⟨rfl, (Nat.le_of_ble_eq_true rfl)⟩ rfl dX9_addRoad_8 ?_
    refine sm_if_ne 16 dX9_addRoad_11 rfl (fun c23 => ?_) (fun c23 => ?_)
    · rw [if_neg c23] at h
      refine sm_iload_n dX9_addRoad_16 rfl ?_
      refine sm_iconst dX9_addRoad_17 ?_
      refine sc_icmp_lt (X' := sm_w z3) (Y' := 1) 32 dX9_addRoad_18 rfl rfl (by decide) (fun c22 => ?_) (fun c22 => ?_)
      · rw [if_pos c22] at h
        refine sm_bipush dX9_addRoad_32 rfl ?_
        cases h
        exact sm_ireturn dX9_addRoad_34 (Or.inl rfl)
      · rw [if_neg c22] at h
        refine sm_iload_n dX9_addRoad_21 rfl ?_
        refine sm_bipush dX9_addRoad_22 rfl ?_
        refine sc_icmp_gt (X' := sm_w z3) (Y' := 60) 32 dX9_addRoad_24 rfl rfl (by decide) (fun c21 => ?_) (fun c21 => ?_)
        · rw [if_pos c21] at h
          refine sm_bipush dX9_addRoad_32 rfl ?_
          cases h
          exact sm_ireturn dX9_addRoad_34 (Or.inl rfl)
        · rw [if_neg c21] at h
          refine sm_iload_n dX9_addRoad_27 rfl ?_
          refine sm_iload_n dX9_addRoad_28 rfl ?_
          refine sc_icmp_ne (X' := sm_w z1) (Y' := sm_w z2) 35 dX9_addRoad_29 rfl rfl rfl (fun c20 => ?_) (fun c20 => ?_)
          · rw [if_neg c20] at h
            refine sm_aload_n dX9_addRoad_35 rfl ?_
            refine sm_getR lf_RX9_10 fR_6_0 (g.e ro).2.2.1 (by omega) (g.e ro).2.2.2.1.2 dX9_addRoad_36 ?_
            refine sm_getR lf_RX9_37 fR_5_0 ((g.e ro).2.2.2.1.1).2.2.1 (by omega) ((g.e ro).2.2.2.1.1).2.2.2.1.2 dX9_addRoad_39 ?_
            refine sm_iload_n dX9_addRoad_42 rfl ?_
            refine sm_iload_n dX9_addRoad_43 rfl ?_
            obtain ⟨p7, hp8, h⟩ := sl_bind h
            have hc9 := bMap_road (G := G) (E := (eD E o ro)) (o := o + 1 + 1) (s := (sm_lo 2 s)) (mi := (sm_gl o 432 s mi)) (((g.e ro).2.2.2.1.1).2.2.2.1.1)  hp8
            rw [gl_in (o := o) (D := 2) (ha := (rfl : o + 1 + 1 = o + 2)) (hD := (by omega : 2 + 3 ≤ 432))] at hc9
            refine sc_callV1 (avs := [.inl z1, .inl z2]) (st := []) lk_RX9_41 rfl vf_X5_road hc9 ⟨(Nat.le_of_ble_eq_true rfl), (Nat.le_of_ble_eq_true rfl)⟩ ⟨rfl, (Nat.le_of_ble_eq_true rfl)⟩ (((g.e ro).2.2.2.1.1).2.2.2.1.1).2.2.1 (by omega) rfl dX9_addRoad_44 ?_
            refine sm_if_le 53 dX9_addRoad_47 rfl (fun c19 => ?_) (fun c19 => ?_)
            · rw [if_pos c19] at h
              refine sm_aload_n dX9_addRoad_53 rfl ?_
              refine sm_getR lf_RX9_10 fR_6_0 (g.e ro).2.2.1 (by omega) (g.e ro).2.2.2.1.2 dX9_addRoad_54 ?_
              refine sm_getR lf_RX9_37 fR_5_0 ((g.e ro).2.2.2.1.1).2.2.1 (by omega) ((g.e ro).2.2.2.1.1).2.2.2.1.2 dX9_addRoad_57 ?_
              refine sl_getI (D := 2) lf_RX9_47 fI_4_0 (((g.e ro).2.2.2.1.1).2.2.2.1.1).2.2.1 rfl (by omega) hN2 dX9_addRoad_60 ?_
              refine sm_bipush dX9_addRoad_63 rfl ?_
              refine sc_icmp_lt (X' := sm_w (s 2 0)) (Y' := 30) 71 dX9_addRoad_65 rfl rfl (by decide) (fun c18 => ?_) (fun c18 => ?_)
              · rw [if_pos c18] at h
                refine sm_aload_n dX9_addRoad_71 rfl ?_
                obtain ⟨p10, hp11, h⟩ := sl_bind h
                have hc12 := bDesk_record (G := G) (E := E) (o := o) (s := s) (mi := mi) (ro := ro) g  hp11
                refine sc_callV0 (avs := []) (st := []) lk_RX9_51 rfl vf_X9_record hc12 ⟨(Nat.le_of_ble_eq_true rfl), (Nat.le_of_ble_eq_true rfl)⟩ ⟨rfl, (Nat.le_of_ble_eq_true rfl)⟩ (g.e p10.2).2.2.1 (by omega) rfl dX9_addRoad_72 ?_
                have hN2 := (g.e p10.2).2.1
                refine sm_aload_n dX9_addRoad_75 rfl ?_
                refine sm_getR lf_RX9_10 fR_6_0 (g.e p10.2).2.2.1 (by omega) (g.e p10.2).2.2.2.1.2 dX9_addRoad_76 ?_
                refine sm_getR lf_RX9_37 fR_5_0 ((g.e p10.2).2.2.2.1.1).2.2.1 (by omega) ((g.e p10.2).2.2.2.1.1).2.2.2.1.2 dX9_addRoad_79 ?_
                refine sm_iload_n dX9_addRoad_82 rfl ?_
                refine sm_iload_n dX9_addRoad_83 rfl ?_
                refine sm_iload_n dX9_addRoad_84 rfl ?_
                obtain ⟨p13, hp14, h⟩ := sl_bind h
                have hc15 := bMap_build (G := G) (E := (eD E o p10.2)) (o := o + 1 + 1) (s := (sm_lo 2 p10.1)) (mi := (sm_gl o 432 p10.1 mi)) (((g.e p10.2).2.2.2.1.1).2.2.2.1.1)  hp14
                rw [gl_in (o := o) (D := 2) (ha := (rfl : o + 1 + 1 = o + 2)) (hD := (by omega : 2 + 3 ≤ 432)), gl_out (o := o) (D := 2) (ha := (rfl : o + 1 + 1 = o + 2)) (hD := (by omega : 2 + 3 ≤ 432))] at hc15
                refine sc_callV1 (avs := [.inl z1, .inl z2, .inl z3]) (st := []) lk_RX9_54 rfl vf_X5_build hc15 ⟨(Nat.le_of_ble_eq_true rfl), (Nat.le_of_ble_eq_true rfl)⟩ ⟨rfl, (Nat.le_of_ble_eq_true rfl)⟩ (((g.e p10.2).2.2.2.1.1).2.2.2.1.1).2.2.1 (by omega) rfl dX9_addRoad_85 ?_
                obtain ⟨s16, hs17, h⟩ := sl_bind h
                rw [Option.some.inj hs17]
                cases h
                exact sm_ireturn dX9_addRoad_88 (Or.inl rfl)
              · rw [if_neg c18] at h
                refine sm_bipush dX9_addRoad_68 rfl ?_
                cases h
                exact sm_ireturn dX9_addRoad_70 (Or.inl rfl)
            · rw [if_neg c19] at h
              refine sm_bipush dX9_addRoad_50 rfl ?_
              cases h
              exact sm_ireturn dX9_addRoad_52 (Or.inl rfl)
          · rw [if_pos c20] at h
            refine sm_bipush dX9_addRoad_32 rfl ?_
            cases h
            exact sm_ireturn dX9_addRoad_34 (Or.inl rfl)
    · rw [if_pos c23] at h
      refine sm_iconst dX9_addRoad_14 ?_
      cases h
      exact sm_ireturn dX9_addRoad_15 (Or.inl rfl)
abbrev xDesk_addMember (G : GT) : XT := (G, yX9_addMember.cls, cX9_addMember, 2, (some .int), decide (yX9_addMember.name = "<init>"), 4, 91)
def fDesk_addMember (z1 : Int) (s : MI) (ro : Nat → Nat) : Option (Int × MI × (Nat → Nat)) :=
  Option.bind (fDesk_isTier z1) (fun p1 => (if sm_w p1 = 0 then some ((-2), s, ro) else (if sm_w (s 1 2) < 20 then Option.bind (fDesk_record s ro) (fun p4 => Option.bind (fState_enrol z1 (sm_lo 1 p4.1)) (fun p7 => Option.bind (some (sm_gl 1 61 p7.2 p4.1)) (fun s10 => some (p7.1, s10, p4.2)))) else some ((-3), s, ro))))
set_option maxRecDepth 100000 in
set_option maxHeartbeats 4000000 in
theorem bDesk_addMember {G : GT} {E : ET} {o : Nat} {s mi : MI} {ro : Nat → Nat} {z1 : Int} {w : Int × MI × (Nat → Nat)} (g : gD E o)  (h : fDesk_addMember z1 s ro = some w) : cN G yX9_addMember cX9_addMember 2 (some .int) 4 91 [.inr o, .inl z1] (eD E o ro) (sm_gl o 432 s mi) (some (.inl w.1), eD E o w.2.2, sm_gl o 432 w.2.1 mi) := by
  have hN1 := g.1
  have hN2 := (g.e ro).2.1
  unfold fDesk_addMember at h
  refine sm_meth (by decide +kernel) (Nat.le_of_ble_eq_true rfl) ?_
  show sM (xDesk_addMember G) 0 [some (.inr o), some (.inl z1)] [] (eD E o ro) (sm_gl o 432 s mi) _
  refine sm_iload_n dX9_addMember_0 rfl ?_
  obtain ⟨p1, hp2, h⟩ := sl_bind h
  have hc3 := bDesk_isTier (G := G) (E := (eD E o ro)) (mi := (sm_gl o 432 s mi))   hp2
  refine sc_callS1 (avs := [.inl z1]) (st := []) lk_RX9_58 rfl sf_X9_isTier hc3 ⟨(Nat.le_of_ble_eq_true rfl), (Nat.le_of_ble_eq_true rfl)⟩ ⟨rfl, (Nat.le_of_ble_eq_true rfl)⟩ rfl dX9_addMember_1 ?_
  refine sm_if_ne 10 dX9_addMember_4 rfl (fun c13 => ?_) (fun c13 => ?_)
  · rw [if_neg c13] at h
    refine sm_aload_n dX9_addMember_10 rfl ?_
    refine sm_getR lf_RX9_10 fR_6_0 (g.e ro).2.2.1 (by omega) (g.e ro).2.2.2.1.2 dX9_addMember_11 ?_
    refine sl_getI (D := 1) lf_RX9_61 fI_5_2 ((g.e ro).2.2.2.1.1).2.2.1 rfl (by omega) hN2 dX9_addMember_14 ?_
    refine sm_bipush dX9_addMember_17 rfl ?_
    refine sc_icmp_lt (X' := sm_w (s 1 2)) (Y' := 20) 25 dX9_addMember_19 rfl rfl (by decide) (fun c12 => ?_) (fun c12 => ?_)
    · rw [if_pos c12] at h
      refine sm_aload_n dX9_addMember_25 rfl ?_
      obtain ⟨p4, hp5, h⟩ := sl_bind h
      have hc6 := bDesk_record (G := G) (E := E) (o := o) (s := s) (mi := mi) (ro := ro) g  hp5
      refine sc_callV0 (avs := []) (st := []) lk_RX9_51 rfl vf_X9_record hc6 ⟨(Nat.le_of_ble_eq_true rfl), (Nat.le_of_ble_eq_true rfl)⟩ ⟨rfl, (Nat.le_of_ble_eq_true rfl)⟩ (g.e p4.2).2.2.1 (by omega) rfl dX9_addMember_26 ?_
      have hN2 := (g.e p4.2).2.1
      refine sm_aload_n dX9_addMember_29 rfl ?_
      refine sm_getR lf_RX9_10 fR_6_0 (g.e p4.2).2.2.1 (by omega) (g.e p4.2).2.2.2.1.2 dX9_addMember_30 ?_
      refine sm_iload_n dX9_addMember_33 rfl ?_
      obtain ⟨p7, hp8, h⟩ := sl_bind h
      have hc9 := bState_enrol (G := G) (E := (eD E o p4.2)) (o := o + 1) (s := (sm_lo 1 p4.1)) (mi := (sm_gl o 432 p4.1 mi)) ((g.e p4.2).2.2.2.1.1)  hp8
      rw [gl_in (o := o) (D := 1) (ha := (rfl : o + 1 = o + 1)) (hD := (by omega : 1 + 61 ≤ 432)), gl_out (o := o) (D := 1) (ha := (rfl : o + 1 = o + 1)) (hD := (by omega : 1 + 61 ≤ 432))] at hc9
      refine sc_callV1 (avs := [.inl z1]) (st := []) lk_RX9_64 rfl vf_X7_enrol hc9 ⟨(Nat.le_of_ble_eq_true rfl), (Nat.le_of_ble_eq_true rfl)⟩ ⟨rfl, (Nat.le_of_ble_eq_true rfl)⟩ ((g.e p4.2).2.2.2.1.1).2.2.1 (by omega) rfl dX9_addMember_34 ?_
      obtain ⟨s10, hs11, h⟩ := sl_bind h
      rw [Option.some.inj hs11]
      cases h
      exact sm_ireturn dX9_addMember_37 (Or.inl rfl)
    · rw [if_neg c12] at h
      refine sm_bipush dX9_addMember_22 rfl ?_
      cases h
      exact sm_ireturn dX9_addMember_24 (Or.inl rfl)
  · rw [if_pos c13] at h
    refine sm_bipush dX9_addMember_7 rfl ?_
    cases h
    exact sm_ireturn dX9_addMember_9 (Or.inl rfl)
abbrev xDesk_addPatrol (G : GT) : XT := (G, yX9_addPatrol.cls, cX9_addPatrol, 4, (some .int), decide (yX9_addPatrol.name = "<init>"), 4, 91)
def fDesk_addPatrol (z1 : Int) (z2 : Int) (z3 : Int) (s : MI) (ro : Nat → Nat) : Option (Int × MI × (Nat → Nat)) :=
  Option.bind (fDesk_isArea z1) (fun p1 => (if sm_w p1 = 0 then some ((-1), s, ro) else (if sm_w z2 < 1 then some ((-2), s, ro) else (if sm_w z2 ≤ 9 then (if sm_w (s 1 4) < 6 then Option.bind (fDesk_record s ro) (fun p4 => Option.bind (fState_hire z1 z2 z3 (sm_lo 1 p4.1)) (fun p7 => Option.bind (some (sm_gl 1 61 p7.2 p4.1)) (fun s10 => some (p7.1, s10, p4.2)))) else some ((-3), s, ro)) else some ((-2), s, ro)))))
set_option maxRecDepth 100000 in
set_option maxHeartbeats 4000000 in
theorem bDesk_addPatrol {G : GT} {E : ET} {o : Nat} {s mi : MI} {ro : Nat → Nat} {z1 : Int} {z2 : Int} {z3 : Int} {w : Int × MI × (Nat → Nat)} (g : gD E o)  (h : fDesk_addPatrol z1 z2 z3 s ro = some w) : cN G yX9_addPatrol cX9_addPatrol 4 (some .int) 4 91 [.inr o, .inl z1, .inl z2, .inl z3] (eD E o ro) (sm_gl o 432 s mi) (some (.inl w.1), eD E o w.2.2, sm_gl o 432 w.2.1 mi) := by
  have hN1 := g.1
  have hN2 := (g.e ro).2.1
  unfold fDesk_addPatrol at h
  refine sm_meth (by decide +kernel) (Nat.le_of_ble_eq_true rfl) ?_
  show sM (xDesk_addPatrol G) 0 [some (.inr o), some (.inl z1), some (.inl z2), some (.inl z3)] [] (eD E o ro) (sm_gl o 432 s mi) _
  refine sm_iload_n dX9_addPatrol_0 rfl ?_
  obtain ⟨p1, hp2, h⟩ := sl_bind h
  have hc3 := bDesk_isArea (G := G) (E := (eD E o ro)) (mi := (sm_gl o 432 s mi))   hp2
  refine sc_callS1 (avs := [.inl z1]) (st := []) lk_RX9_33 rfl sf_X9_isArea hc3 ⟨(Nat.le_of_ble_eq_true rfl), (Nat.le_of_ble_eq_true rfl)⟩ ⟨rfl, (Nat.le_of_ble_eq_true rfl)⟩ rfl dX9_addPatrol_1 ?_
  refine sm_if_ne 9 dX9_addPatrol_4 rfl (fun c15 => ?_) (fun c15 => ?_)
  · rw [if_neg c15] at h
    refine sm_iload_n dX9_addPatrol_9 rfl ?_
    refine sm_iconst dX9_addPatrol_10 ?_
    refine sc_icmp_lt (X' := sm_w z2) (Y' := 1) 20 dX9_addPatrol_11 rfl rfl (by decide) (fun c14 => ?_) (fun c14 => ?_)
    · rw [if_pos c14] at h
      refine sm_bipush dX9_addPatrol_20 rfl ?_
      cases h
      exact sm_ireturn dX9_addPatrol_22 (Or.inl rfl)
    · rw [if_neg c14] at h
      refine sm_iload_n dX9_addPatrol_14 rfl ?_
      refine sm_bipush dX9_addPatrol_15 rfl ?_
      refine sc_icmp_le (X' := sm_w z2) (Y' := 9) 23 dX9_addPatrol_17 rfl rfl (by decide) (fun c13 => ?_) (fun c13 => ?_)
      · rw [if_pos c13] at h
        refine sm_aload_n dX9_addPatrol_23 rfl ?_
        refine sm_getR lf_RX9_10 fR_6_0 (g.e ro).2.2.1 (by omega) (g.e ro).2.2.2.1.2 dX9_addPatrol_24 ?_
        refine sl_getI (D := 1) lf_RX9_68 fI_5_4 ((g.e ro).2.2.2.1.1).2.2.1 rfl (by omega) hN2 dX9_addPatrol_27 ?_
        refine sm_bipush dX9_addPatrol_30 rfl ?_
        refine sc_icmp_lt (X' := sm_w (s 1 4)) (Y' := 6) 38 dX9_addPatrol_32 rfl rfl (by decide) (fun c12 => ?_) (fun c12 => ?_)
        · rw [if_pos c12] at h
          refine sm_aload_n dX9_addPatrol_38 rfl ?_
          obtain ⟨p4, hp5, h⟩ := sl_bind h
          have hc6 := bDesk_record (G := G) (E := E) (o := o) (s := s) (mi := mi) (ro := ro) g  hp5
          refine sc_callV0 (avs := []) (st := []) lk_RX9_51 rfl vf_X9_record hc6 ⟨(Nat.le_of_ble_eq_true rfl), (Nat.le_of_ble_eq_true rfl)⟩ ⟨rfl, (Nat.le_of_ble_eq_true rfl)⟩ (g.e p4.2).2.2.1 (by omega) rfl dX9_addPatrol_39 ?_
          have hN2 := (g.e p4.2).2.1
          refine sm_aload_n dX9_addPatrol_42 rfl ?_
          refine sm_getR lf_RX9_10 fR_6_0 (g.e p4.2).2.2.1 (by omega) (g.e p4.2).2.2.2.1.2 dX9_addPatrol_43 ?_
          refine sm_iload_n dX9_addPatrol_46 rfl ?_
          refine sm_iload_n dX9_addPatrol_47 rfl ?_
          refine sm_iload_n dX9_addPatrol_48 rfl ?_
          obtain ⟨p7, hp8, h⟩ := sl_bind h
          have hc9 := bState_hire (G := G) (E := (eD E o p4.2)) (o := o + 1) (s := (sm_lo 1 p4.1)) (mi := (sm_gl o 432 p4.1 mi)) ((g.e p4.2).2.2.2.1.1)  hp8
          rw [gl_in (o := o) (D := 1) (ha := (rfl : o + 1 = o + 1)) (hD := (by omega : 1 + 61 ≤ 432)), gl_out (o := o) (D := 1) (ha := (rfl : o + 1 = o + 1)) (hD := (by omega : 1 + 61 ≤ 432))] at hc9
          refine sc_callV1 (avs := [.inl z1, .inl z2, .inl z3]) (st := []) lk_RX9_71 rfl vf_X7_hire hc9 ⟨(Nat.le_of_ble_eq_true rfl), (Nat.le_of_ble_eq_true rfl)⟩ ⟨rfl, (Nat.le_of_ble_eq_true rfl)⟩ ((g.e p4.2).2.2.2.1.1).2.2.1 (by omega) rfl dX9_addPatrol_49 ?_
          obtain ⟨s10, hs11, h⟩ := sl_bind h
          rw [Option.some.inj hs11]
          cases h
          exact sm_ireturn dX9_addPatrol_52 (Or.inl rfl)
        · rw [if_neg c12] at h
          refine sm_bipush dX9_addPatrol_35 rfl ?_
          cases h
          exact sm_ireturn dX9_addPatrol_37 (Or.inl rfl)
      · rw [if_neg c13] at h
        refine sm_bipush dX9_addPatrol_20 rfl ?_
        cases h
        exact sm_ireturn dX9_addPatrol_22 (Or.inl rfl)
  · rw [if_pos c15] at h
    refine sm_iconst dX9_addPatrol_7 ?_
    cases h
    exact sm_ireturn dX9_addPatrol_8 (Or.inl rfl)
abbrev xDesk_addGarage (G : GT) : XT := (G, yX9_addGarage.cls, cX9_addGarage, 3, (some .int), decide (yX9_addGarage.name = "<init>"), 4, 91)
def fDesk_addGarage (z1 : Int) (z2 : Int) (s : MI) (ro : Nat → Nat) : Option (Int × MI × (Nat → Nat)) :=
  Option.bind (fDesk_isArea z1) (fun p1 => (if sm_w p1 = 0 then some ((-1), s, ro) else (if sm_w z2 < 1 then some ((-2), s, ro) else (if sm_w z2 ≤ 9 then (if sm_w (s 1 6) < 5 then Option.bind (fDesk_record s ro) (fun p4 => Option.bind (fState_open z1 z2 (sm_lo 1 p4.1)) (fun p7 => Option.bind (some (sm_gl 1 61 p7.2 p4.1)) (fun s10 => some (p7.1, s10, p4.2)))) else some ((-3), s, ro)) else some ((-2), s, ro)))))
set_option maxRecDepth 100000 in
set_option maxHeartbeats 4000000 in
theorem bDesk_addGarage {G : GT} {E : ET} {o : Nat} {s mi : MI} {ro : Nat → Nat} {z1 : Int} {z2 : Int} {w : Int × MI × (Nat → Nat)} (g : gD E o)  (h : fDesk_addGarage z1 z2 s ro = some w) : cN G yX9_addGarage cX9_addGarage 3 (some .int) 4 91 [.inr o, .inl z1, .inl z2] (eD E o ro) (sm_gl o 432 s mi) (some (.inl w.1), eD E o w.2.2, sm_gl o 432 w.2.1 mi) := by
  have hN1 := g.1
  have hN2 := (g.e ro).2.1
  unfold fDesk_addGarage at h
  refine sm_meth (by decide +kernel) (Nat.le_of_ble_eq_true rfl) ?_
  show sM (xDesk_addGarage G) 0 [some (.inr o), some (.inl z1), some (.inl z2)] [] (eD E o ro) (sm_gl o 432 s mi) _
  refine sm_iload_n dX9_addGarage_0 rfl ?_
  obtain ⟨p1, hp2, h⟩ := sl_bind h
  have hc3 := bDesk_isArea (G := G) (E := (eD E o ro)) (mi := (sm_gl o 432 s mi))   hp2
  refine sc_callS1 (avs := [.inl z1]) (st := []) lk_RX9_33 rfl sf_X9_isArea hc3 ⟨(Nat.le_of_ble_eq_true rfl), (Nat.le_of_ble_eq_true rfl)⟩ ⟨rfl, (Nat.le_of_ble_eq_true rfl)⟩ rfl dX9_addGarage_1 ?_
  refine sm_if_ne 9 dX9_addGarage_4 rfl (fun c15 => ?_) (fun c15 => ?_)
  · rw [if_neg c15] at h
    refine sm_iload_n dX9_addGarage_9 rfl ?_
    refine sm_iconst dX9_addGarage_10 ?_
    refine sc_icmp_lt (X' := sm_w z2) (Y' := 1) 20 dX9_addGarage_11 rfl rfl (by decide) (fun c14 => ?_) (fun c14 => ?_)
    · rw [if_pos c14] at h
      refine sm_bipush dX9_addGarage_20 rfl ?_
      cases h
      exact sm_ireturn dX9_addGarage_22 (Or.inl rfl)
    · rw [if_neg c14] at h
      refine sm_iload_n dX9_addGarage_14 rfl ?_
      refine sm_bipush dX9_addGarage_15 rfl ?_
      refine sc_icmp_le (X' := sm_w z2) (Y' := 9) 23 dX9_addGarage_17 rfl rfl (by decide) (fun c13 => ?_) (fun c13 => ?_)
      · rw [if_pos c13] at h
        refine sm_aload_n dX9_addGarage_23 rfl ?_
        refine sm_getR lf_RX9_10 fR_6_0 (g.e ro).2.2.1 (by omega) (g.e ro).2.2.2.1.2 dX9_addGarage_24 ?_
        refine sl_getI (D := 1) lf_RX9_75 fI_5_6 ((g.e ro).2.2.2.1.1).2.2.1 rfl (by omega) hN2 dX9_addGarage_27 ?_
        refine sm_iconst dX9_addGarage_30 ?_
        refine sc_icmp_lt (X' := sm_w (s 1 6)) (Y' := 5) 37 dX9_addGarage_31 rfl rfl (by decide) (fun c12 => ?_) (fun c12 => ?_)
        · rw [if_pos c12] at h
          refine sm_aload_n dX9_addGarage_37 rfl ?_
          obtain ⟨p4, hp5, h⟩ := sl_bind h
          have hc6 := bDesk_record (G := G) (E := E) (o := o) (s := s) (mi := mi) (ro := ro) g  hp5
          refine sc_callV0 (avs := []) (st := []) lk_RX9_51 rfl vf_X9_record hc6 ⟨(Nat.le_of_ble_eq_true rfl), (Nat.le_of_ble_eq_true rfl)⟩ ⟨rfl, (Nat.le_of_ble_eq_true rfl)⟩ (g.e p4.2).2.2.1 (by omega) rfl dX9_addGarage_38 ?_
          have hN2 := (g.e p4.2).2.1
          refine sm_aload_n dX9_addGarage_41 rfl ?_
          refine sm_getR lf_RX9_10 fR_6_0 (g.e p4.2).2.2.1 (by omega) (g.e p4.2).2.2.2.1.2 dX9_addGarage_42 ?_
          refine sm_iload_n dX9_addGarage_45 rfl ?_
          refine sm_iload_n dX9_addGarage_46 rfl ?_
          obtain ⟨p7, hp8, h⟩ := sl_bind h
          have hc9 := bState_open (G := G) (E := (eD E o p4.2)) (o := o + 1) (s := (sm_lo 1 p4.1)) (mi := (sm_gl o 432 p4.1 mi)) ((g.e p4.2).2.2.2.1.1)  hp8
          rw [gl_in (o := o) (D := 1) (ha := (rfl : o + 1 = o + 1)) (hD := (by omega : 1 + 61 ≤ 432)), gl_out (o := o) (D := 1) (ha := (rfl : o + 1 = o + 1)) (hD := (by omega : 1 + 61 ≤ 432))] at hc9
          refine sc_callV1 (avs := [.inl z1, .inl z2]) (st := []) lk_RX9_78 rfl vf_X7_open hc9 ⟨(Nat.le_of_ble_eq_true rfl), (Nat.le_of_ble_eq_true rfl)⟩ ⟨rfl, (Nat.le_of_ble_eq_true rfl)⟩ ((g.e p4.2).2.2.2.1.1).2.2.1 (by omega) rfl dX9_addGarage_47 ?_
          obtain ⟨s10, hs11, h⟩ := sl_bind h
          rw [Option.some.inj hs11]
          cases h
          exact sm_ireturn dX9_addGarage_50 (Or.inl rfl)
        · rw [if_neg c12] at h
          refine sm_bipush dX9_addGarage_34 rfl ?_
          cases h
          exact sm_ireturn dX9_addGarage_36 (Or.inl rfl)
      · rw [if_neg c13] at h
        refine sm_bipush dX9_addGarage_20 rfl ?_
        cases h
        exact sm_ireturn dX9_addGarage_22 (Or.inl rfl)
  · rw [if_pos c15] at h
    refine sm_iconst dX9_addGarage_7 ?_
    cases h
    exact sm_ireturn dX9_addGarage_8 (Or.inl rfl)
abbrev xDesk_setPromise (G : GT) : XT := (G, yX9_setPromise.cls, cX9_setPromise, 4, (some .int), decide (yX9_setPromise.name = "<init>"), 4, 91)
def fDesk_setPromise (z1 : Int) (z2 : Int) (s : MI) (ro : Nat → Nat) : Option (Int × MI × (Nat → Nat)) :=
  Option.bind (fDesk_isTier z1) (fun p1 => (if sm_w p1 = 0 then some ((-2), s, ro) else (if sm_w z2 < 10 then some ((-2), s, ro) else (if sm_w z2 ≤ 240 then if 0 ≤ sm_w z1 ∧ sm_w z1 < 3 then (if sm_w (s 9 (sm_w z1).toNat) = sm_w z2 then some ((-5), s, ro) else Option.bind (fDesk_record s ro) (fun p5 => Option.bind (some (sm_up p5.1 9 (sm_w z1).toNat z2)) (fun s8 => some ((s 9 (sm_w z1).toNat), s8, p5.2)))) else none else some ((-2), s, ro)))))
set_option maxRecDepth 100000 in
set_option maxHeartbeats 4000000 in
theorem bDesk_setPromise {G : GT} {E : ET} {o : Nat} {s mi : MI} {ro : Nat → Nat} {z1 : Int} {z2 : Int} {w : Int × MI × (Nat → Nat)} (g : gD E o)  (h : fDesk_setPromise z1 z2 s ro = some w) : cN G yX9_setPromise cX9_setPromise 4 (some .int) 4 91 [.inr o, .inl z1, .inl z2] (eD E o ro) (sm_gl o 432 s mi) (some (.inl w.1), eD E o w.2.2, sm_gl o 432 w.2.1 mi) := by
  have hN1 := g.1
  have hN2 := (g.e ro).2.1
  unfold fDesk_setPromise at h
  refine sm_meth (by decide +kernel) (Nat.le_of_ble_eq_true rfl) ?_
  show sM (xDesk_setPromise G) 0 [some (.inr o), some (.inl z1), some (.inl z2), none] [] (eD E o ro) (sm_gl o 432 s mi) _
  refine sm_iload_n dX9_setPromise_0 rfl ?_
  obtain ⟨p1, hp2, h⟩ := sl_bind h
  have hc3 := bDesk_isTier (G := G) (E := (eD E o ro)) (mi := (sm_gl o 432 s mi))   hp2
  refine sc_callS1 (avs := [.inl z1]) (st := []) lk_RX9_58 rfl sf_X9_isTier hc3 ⟨(Nat.le_of_ble_eq_true rfl), (Nat.le_of_ble_eq_true rfl)⟩ ⟨rfl, (Nat.le_of_ble_eq_true rfl)⟩ rfl dX9_setPromise_1 ?_
  refine sm_if_eq 20 dX9_setPromise_4 rfl (fun c13 => ?_) (fun c13 => ?_)
  · rw [if_pos c13] at h
    refine sm_bipush dX9_setPromise_20 rfl ?_
    cases h
    exact sm_ireturn dX9_setPromise_22 (Or.inl rfl)
  · rw [if_neg c13] at h
    refine sm_iload_n dX9_setPromise_7 rfl ?_
    refine sm_bipush dX9_setPromise_8 rfl ?_
    refine sc_icmp_lt (X' := sm_w z2) (Y' := 10) 20 dX9_setPromise_10 rfl rfl (by decide) (fun c12 => ?_) (fun c12 => ?_)
    · rw [if_pos c12] at h
      refine sm_bipush dX9_setPromise_20 rfl ?_
      cases h
      exact sm_ireturn dX9_setPromise_22 (Or.inl rfl)
    · rw [if_neg c12] at h
      refine sm_iload_n dX9_setPromise_13 rfl ?_
      refine sm_sipush dX9_setPromise_14 rfl ?_
      refine sc_icmp_le (X' := sm_w z2) (Y' := 240) 23 dX9_setPromise_17 rfl rfl (by decide) (fun c11 => ?_) (fun c11 => ?_)
      · rw [if_pos c11] at h
        refine sm_aload_n dX9_setPromise_23 rfl ?_
        refine sm_getR lf_RX9_10 fR_6_0 (g.e ro).2.2.1 (by omega) (g.e ro).2.2.2.1.2 dX9_setPromise_24 ?_
        refine sm_getR lf_RX9_81 fR_5_9 ((g.e ro).2.2.2.1.1).2.2.1 (by omega) ((g.e ro).2.2.2.1.1).2.2.2.2.2.2.2.2.1.2 dX9_setPromise_27 ?_
        refine sm_iload_n dX9_setPromise_30 rfl ?_
        obtain ⟨q4, h⟩ := sl_guard h
        have xq4 := (sl_ix (m := 3) q4).2
        refine sl_ialdk (D := 9) (k := (sm_w z1).toNat) ((g.e ro).2.2.2.1.1).2.2.2.2.2.2.2.2.1.1 rfl (by omega) hN2 (sl_ix (m := 3) q4) dX9_setPromise_31 ?_
        refine sm_istore_n dX9_setPromise_32 (Nat.le_of_ble_eq_true rfl) ?_
        refine sm_iload_n dX9_setPromise_33 rfl ?_
        refine sm_iload_n dX9_setPromise_34 rfl ?_
        refine sc_icmp_ne (X' := sm_w (s 9 (sm_w z1).toNat)) (Y' := sm_w z2) 41 dX9_setPromise_35 rfl rfl rfl (fun c10 => ?_) (fun c10 => ?_)
        · rw [if_neg c10] at h
          refine sm_aload_n dX9_setPromise_41 rfl ?_
          obtain ⟨p5, hp6, h⟩ := sl_bind h
          have hc7 := bDesk_record (G := G) (E := E) (o := o) (s := s) (mi := mi) (ro := ro) g  hp6
          refine sc_callV0 (avs := []) (st := []) lk_RX9_51 rfl vf_X9_record hc7 ⟨(Nat.le_of_ble_eq_true rfl), (Nat.le_of_ble_eq_true rfl)⟩ ⟨rfl, (Nat.le_of_ble_eq_true rfl)⟩ (g.e p5.2).2.2.1 (by omega) rfl dX9_setPromise_42 ?_
          have hN2 := (g.e p5.2).2.1
          refine sm_aload_n dX9_setPromise_45 rfl ?_
          refine sm_getR lf_RX9_10 fR_6_0 (g.e p5.2).2.2.1 (by omega) (g.e p5.2).2.2.2.1.2 dX9_setPromise_46 ?_
          refine sm_getR lf_RX9_81 fR_5_9 ((g.e p5.2).2.2.2.1.1).2.2.1 (by omega) ((g.e p5.2).2.2.2.1.1).2.2.2.2.2.2.2.2.1.2 dX9_setPromise_49 ?_
          refine sm_iload_n dX9_setPromise_52 rfl ?_
          refine sm_iload_n dX9_setPromise_53 rfl ?_
          refine sl_iastk (D := 9) (k := (sm_w z1).toNat) ((g.e p5.2).2.2.2.1.1).2.2.2.2.2.2.2.2.1.1 rfl (by omega) ⟨hN1, hN2⟩ (sl_ix (m := 3) q4) dX9_setPromise_54 ?_
          obtain ⟨s8, hs9, h⟩ := sl_bind h
          rw [Option.some.inj hs9]
          refine sm_iload_n dX9_setPromise_55 rfl ?_
          cases h
          exact sm_ireturn dX9_setPromise_56 (Or.inl rfl)
        · rw [if_pos c10] at h
          refine sm_bipush dX9_setPromise_38 rfl ?_
          cases h
          exact sm_ireturn dX9_setPromise_40 (Or.inl rfl)
      · rw [if_neg c11] at h
        refine sm_bipush dX9_setPromise_20 rfl ?_
        cases h
        exact sm_ireturn dX9_setPromise_22 (Or.inl rfl)
abbrev xDesk_setWeather (G : GT) : XT := (G, yX9_setWeather.cls, cX9_setWeather, 3, (some .int), decide (yX9_setWeather.name = "<init>"), 4, 91)
def fDesk_setWeather (z1 : Int) (s : MI) (ro : Nat → Nat) : Option (Int × MI × (Nat → Nat)) :=
  (if sm_w z1 < 0 then some ((-2), s, ro) else (if sm_w z1 ≤ 5 then (if sm_w (s 1 10) = sm_w z1 then some ((-5), s, ro) else Option.bind (fDesk_record s ro) (fun p1 => Option.bind (some (sm_up p1.1 1 10 z1)) (fun s4 => some ((s 1 10), s4, p1.2)))) else some ((-2), s, ro)))
set_option maxRecDepth 100000 in
set_option maxHeartbeats 4000000 in
theorem bDesk_setWeather {G : GT} {E : ET} {o : Nat} {s mi : MI} {ro : Nat → Nat} {z1 : Int} {w : Int × MI × (Nat → Nat)} (g : gD E o)  (h : fDesk_setWeather z1 s ro = some w) : cN G yX9_setWeather cX9_setWeather 3 (some .int) 4 91 [.inr o, .inl z1] (eD E o ro) (sm_gl o 432 s mi) (some (.inl w.1), eD E o w.2.2, sm_gl o 432 w.2.1 mi) := by
  have hN1 := g.1
  have hN2 := (g.e ro).2.1
  unfold fDesk_setWeather at h
  refine sm_meth (by decide +kernel) (Nat.le_of_ble_eq_true rfl) ?_
  show sM (xDesk_setWeather G) 0 [some (.inr o), some (.inl z1), none] [] (eD E o ro) (sm_gl o 432 s mi) _
  refine sm_iload_n dX9_setWeather_0 rfl ?_
  refine sm_if_lt 9 dX9_setWeather_1 rfl (fun c8 => ?_) (fun c8 => ?_)
  · rw [if_pos c8] at h
    refine sm_bipush dX9_setWeather_9 rfl ?_
    cases h
    exact sm_ireturn dX9_setWeather_11 (Or.inl rfl)
  · rw [if_neg c8] at h
    refine sm_iload_n dX9_setWeather_4 rfl ?_
    refine sm_iconst dX9_setWeather_5 ?_
    refine sc_icmp_le (X' := sm_w z1) (Y' := 5) 12 dX9_setWeather_6 rfl rfl (by decide) (fun c7 => ?_) (fun c7 => ?_)
    · rw [if_pos c7] at h
      refine sm_aload_n dX9_setWeather_12 rfl ?_
      refine sm_getR lf_RX9_10 fR_6_0 (g.e ro).2.2.1 (by omega) (g.e ro).2.2.2.1.2 dX9_setWeather_13 ?_
      refine sl_getI (D := 1) lf_RX9_85 fI_5_10 ((g.e ro).2.2.2.1.1).2.2.1 rfl (by omega) hN2 dX9_setWeather_16 ?_
      refine sm_istore_n dX9_setWeather_19 (Nat.le_of_ble_eq_true rfl) ?_
      refine sm_iload_n dX9_setWeather_20 rfl ?_
      refine sm_iload_n dX9_setWeather_21 rfl ?_
      refine sc_icmp_ne (X' := sm_w (s 1 10)) (Y' := sm_w z1) 28 dX9_setWeather_22 rfl rfl rfl (fun c6 => ?_) (fun c6 => ?_)
      · rw [if_neg c6] at h
        refine sm_aload_n dX9_setWeather_28 rfl ?_
        obtain ⟨p1, hp2, h⟩ := sl_bind h
        have hc3 := bDesk_record (G := G) (E := E) (o := o) (s := s) (mi := mi) (ro := ro) g  hp2
        refine sc_callV0 (avs := []) (st := []) lk_RX9_51 rfl vf_X9_record hc3 ⟨(Nat.le_of_ble_eq_true rfl), (Nat.le_of_ble_eq_true rfl)⟩ ⟨rfl, (Nat.le_of_ble_eq_true rfl)⟩ (g.e p1.2).2.2.1 (by omega) rfl dX9_setWeather_29 ?_
        have hN2 := (g.e p1.2).2.1
        refine sm_aload_n dX9_setWeather_32 rfl ?_
        refine sm_getR lf_RX9_10 fR_6_0 (g.e p1.2).2.2.1 (by omega) (g.e p1.2).2.2.2.1.2 dX9_setWeather_33 ?_
        refine sm_iload_n dX9_setWeather_36 rfl ?_
        refine sl_putI (D := 1) lf_RX9_85 fP_5_10 (Or.inl rfl) ((g.e p1.2).2.2.2.1.1).2.2.1 rfl (by omega) ⟨hN1, hN2⟩ dX9_setWeather_37 ?_
        obtain ⟨s4, hs5, h⟩ := sl_bind h
        rw [Option.some.inj hs5]
        refine sm_iload_n dX9_setWeather_40 rfl ?_
        cases h
        exact sm_ireturn dX9_setWeather_41 (Or.inl rfl)
      · rw [if_pos c6] at h
        refine sm_bipush dX9_setWeather_25 rfl ?_
        cases h
        exact sm_ireturn dX9_setWeather_27 (Or.inl rfl)
    · rw [if_neg c7] at h
      refine sm_bipush dX9_setWeather_9 rfl ?_
      cases h
      exact sm_ireturn dX9_setWeather_11 (Or.inl rfl)
abbrev xDesk_call (G : GT) : XT := (G, yX9_call.cls, cX9_call, 5, (some .int), decide (yX9_call.name = "<init>"), 4, 91)
def fDesk_call (z1 : Int) (z2 : Int) (z3 : Int) (s : MI) (ro : Nat → Nat) : Option (Int × MI × (Nat → Nat)) :=
  Option.bind (fState_refusal z1 z2 z3 (sm_lo 1 s)) (fun p1 => (if sm_w p1 = 0 then Option.bind (fDesk_record s ro) (fun p4 => Option.bind (fState_take z1 z2 z3 (sm_lo 1 p4.1)) (fun p7 => Option.bind (some (sm_gl 1 61 p7.2 p4.1)) (fun s10 => some (p7.1, s10, p4.2)))) else some (p1, s, ro)))
set_option maxRecDepth 100000 in
set_option maxHeartbeats 4000000 in
theorem bDesk_call {G : GT} {E : ET} {o : Nat} {s mi : MI} {ro : Nat → Nat} {z1 : Int} {z2 : Int} {z3 : Int} {w : Int × MI × (Nat → Nat)} (g : gD E o)  (h : fDesk_call z1 z2 z3 s ro = some w) : cN G yX9_call cX9_call 5 (some .int) 4 91 [.inr o, .inl z1, .inl z2, .inl z3] (eD E o ro) (sm_gl o 432 s mi) (some (.inl w.1), eD E o w.2.2, sm_gl o 432 w.2.1 mi) := by
  have hN1 := g.1
  have hN2 := (g.e ro).2.1
  unfold fDesk_call at h
  refine sm_meth (by decide +kernel) (Nat.le_of_ble_eq_true rfl) ?_
  show sM (xDesk_call G) 0 [some (.inr o), some (.inl z1), some (.inl z2), some (.inl z3), none] [] (eD E o ro) (sm_gl o 432 s mi) _
  refine sm_aload_n dX9_call_0 rfl ?_
  refine sm_getR lf_RX9_10 fR_6_0 (g.e ro).2.2.1 (by omega) (g.e ro).2.2.2.1.2 dX9_call_1 ?_
  refine sm_iload_n dX9_call_4 rfl ?_
  refine sm_iload_n dX9_call_5 rfl ?_
  refine sm_iload_n dX9_call_6 rfl ?_
  obtain ⟨p1, hp2, h⟩ := sl_bind h
  have hc3 := bState_refusal (G := G) (E := (eD E o ro)) (o := o + 1) (s := (sm_lo 1 s)) (mi := (sm_gl o 432 s mi)) ((g.e ro).2.2.2.1.1)  hp2
  rw [gl_in (o := o) (D := 1) (ha := (rfl : o + 1 = o + 1)) (hD := (by omega : 1 + 61 ≤ 432))] at hc3
  refine sc_callV1 (avs := [.inl z1, .inl z2, .inl z3]) (st := []) lk_RX9_88 rfl vf_X7_refusal hc3 ⟨(Nat.le_of_ble_eq_true rfl), (Nat.le_of_ble_eq_true rfl)⟩ ⟨rfl, (Nat.le_of_ble_eq_true rfl)⟩ ((g.e ro).2.2.2.1.1).2.2.1 (by omega) rfl dX9_call_7 ?_
  refine sm_istore dX9_call_10 (Nat.le_of_ble_eq_true rfl) ?_
  refine sm_iload dX9_call_12 rfl ?_
  refine sm_if_eq 20 dX9_call_14 rfl (fun c12 => ?_) (fun c12 => ?_)
  · rw [if_pos c12] at h
    refine sm_aload_n dX9_call_20 rfl ?_
    obtain ⟨p4, hp5, h⟩ := sl_bind h
    have hc6 := bDesk_record (G := G) (E := E) (o := o) (s := s) (mi := mi) (ro := ro) g  hp5
    refine sc_callV0 (avs := []) (st := []) lk_RX9_51 rfl vf_X9_record hc6 ⟨(Nat.le_of_ble_eq_true rfl), (Nat.le_of_ble_eq_true rfl)⟩ ⟨rfl, (Nat.le_of_ble_eq_true rfl)⟩ (g.e p4.2).2.2.1 (by omega) rfl dX9_call_21 ?_
    have hN2 := (g.e p4.2).2.1
    refine sm_aload_n dX9_call_24 rfl ?_
    refine sm_getR lf_RX9_10 fR_6_0 (g.e p4.2).2.2.1 (by omega) (g.e p4.2).2.2.2.1.2 dX9_call_25 ?_
    refine sm_iload_n dX9_call_28 rfl ?_
    refine sm_iload_n dX9_call_29 rfl ?_
    refine sm_iload_n dX9_call_30 rfl ?_
    obtain ⟨p7, hp8, h⟩ := sl_bind h
    have hc9 := bState_take (G := G) (E := (eD E o p4.2)) (o := o + 1) (s := (sm_lo 1 p4.1)) (mi := (sm_gl o 432 p4.1 mi)) ((g.e p4.2).2.2.2.1.1)  hp8
    rw [gl_in (o := o) (D := 1) (ha := (rfl : o + 1 = o + 1)) (hD := (by omega : 1 + 61 ≤ 432)), gl_out (o := o) (D := 1) (ha := (rfl : o + 1 = o + 1)) (hD := (by omega : 1 + 61 ≤ 432))] at hc9
    refine sc_callV1 (avs := [.inl z1, .inl z2, .inl z3]) (st := []) lk_RX9_91 rfl vf_X7_take hc9 ⟨(Nat.le_of_ble_eq_true rfl), (Nat.le_of_ble_eq_true rfl)⟩ ⟨rfl, (Nat.le_of_ble_eq_true rfl)⟩ ((g.e p4.2).2.2.2.1.1).2.2.1 (by omega) rfl dX9_call_31 ?_
    obtain ⟨s10, hs11, h⟩ := sl_bind h
    rw [Option.some.inj hs11]
    cases h
    exact sm_ireturn dX9_call_34 (Or.inl rfl)
  · rw [if_neg c12] at h
    refine sm_iload dX9_call_17 rfl ?_
    cases h
    exact sm_ireturn dX9_call_19 (Or.inl rfl)
abbrev xDesk_cancel (G : GT) : XT := (G, yX9_cancel.cls, cX9_cancel, 4, (some .int), decide (yX9_cancel.name = "<init>"), 4, 91)
def fDesk_cancel_j69 (d2 : Nat) (s : MI) (ro : Nat → Nat) : Option (Int × MI × (Nat → Nat)) :=
  Option.bind (fBreakdown_end 7 (s 1 11) (sm_lo (1 + d2) s)) (fun p18 => Option.bind (some (sm_gl (1 + d2) 1 p18 s)) (fun s21 => Option.bind (fBreakdown_waited (s21 1 11) (sm_lo (1 + d2) s21)) (fun p23 => some (p23, s21, ro))))
set_option maxRecDepth 100000 in
set_option maxHeartbeats 4000000 in
theorem bDesk_cancel_j69 {G : GT} {E : ET} {o : Nat} {s mi : MI} {ro : Nat → Nat} {d2 : Nat} {w : Int × MI × (Nat → Nat)} (g : gD E o) (gd2 : gO 0 E (o + 1 + d2)) (hd2 : d2 + 1 ≤ 61) (h : fDesk_cancel_j69 d2 s ro = some w) : sM (xDesk_cancel G) 69 [some (.inr o), none, some (.inr (o + 1 + d2)), none] [] (eD E o ro) (sm_gl o 432 s mi) (some (.inl w.1), eD E o w.2.2, sm_gl o 432 w.2.1 mi) := by
  have hN1 := g.1
  have hN2 := (g.e ro).2.1
  unfold fDesk_cancel_j69 at h
  refine sm_aload_n dX9_cancel_69 rfl ?_
  refine sm_bipush dX9_cancel_70 rfl ?_
  refine sm_aload_n dX9_cancel_72 rfl ?_
  refine sm_getR lf_RX9_10 fR_6_0 (g.e ro).2.2.1 (by omega) (g.e ro).2.2.2.1.2 dX9_cancel_73 ?_
  refine sl_getI (D := 1) lf_RX9_122 fI_5_11 ((g.e ro).2.2.2.1.1).2.2.1 rfl (by omega) hN2 dX9_cancel_76 ?_
  obtain ⟨p18, hp19, h⟩ := sl_bind h
  have hc20 := bBreakdown_end (G := G) (E := (eD E o ro)) (o := o + 1 + d2) (s := (sm_lo (1 + d2) s)) (mi := (sm_gl o 432 s mi)) gd2  hp19
  rw [gl_in (o := o) (D := (1 + d2)) (ha := ((Nat.add_assoc _ _ _) : o + 1 + d2 = o + (1 + d2))) (hD := (by omega : (1 + d2) + 1 ≤ 432)), gl_out (o := o) (D := (1 + d2)) (ha := ((Nat.add_assoc _ _ _) : o + 1 + d2 = o + (1 + d2))) (hD := (by omega : (1 + d2) + 1 ≤ 432))] at hc20
  refine sc_callV0 (avs := [.inl 7, .inl (s 1 11)]) (st := []) lk_RX9_125 rfl vf_X1_end hc20 ⟨(Nat.le_of_ble_eq_true rfl), (Nat.le_of_ble_eq_true rfl)⟩ ⟨rfl, (Nat.le_of_ble_eq_true rfl)⟩ gd2.2.2 (by omega) rfl dX9_cancel_79 ?_
  obtain ⟨s21, hs22, h⟩ := sl_bind h
  rw [Option.some.inj hs22]
  refine sm_aload_n dX9_cancel_82 rfl ?_
  refine sm_aload_n dX9_cancel_83 rfl ?_
  refine sm_getR lf_RX9_10 fR_6_0 (g.e ro).2.2.1 (by omega) (g.e ro).2.2.2.1.2 dX9_cancel_84 ?_
  refine sl_getI (D := 1) lf_RX9_122 fI_5_11 ((g.e ro).2.2.2.1.1).2.2.1 rfl (by omega) hN2 dX9_cancel_87 ?_
  obtain ⟨p23, hp24, h⟩ := sl_bind h
  have hc25 := bBreakdown_waited (G := G) (E := (eD E o ro)) (o := o + 1 + d2) (s := (sm_lo (1 + d2) s21)) (mi := (sm_gl o 432 s21 mi)) gd2  hp24
  rw [gl_in (o := o) (D := (1 + d2)) (ha := ((Nat.add_assoc _ _ _) : o + 1 + d2 = o + (1 + d2))) (hD := (by omega : (1 + d2) + 1 ≤ 432))] at hc25
  refine sc_callV1 (avs := [.inl (s21 1 11)]) (st := []) lk_RX9_129 rfl vf_X1_waited hc25 ⟨(Nat.le_of_ble_eq_true rfl), (Nat.le_of_ble_eq_true rfl)⟩ ⟨rfl, (Nat.le_of_ble_eq_true rfl)⟩ gd2.2.2 (by omega) rfl dX9_cancel_90 ?_
  cases h
  exact sm_ireturn dX9_cancel_93 (Or.inl rfl)
def fDesk_cancel (z1 : Int) (s : MI) (ro : Nat → Nat) : Option (Int × MI × (Nat → Nat)) :=
  Option.bind (fState_isCall z1 (sm_lo 1 s)) (fun p1 => (if sm_w p1 = 0 then some ((-1), s, ro) else if 0 ≤ sm_w z1 ∧ sm_w z1 < 40 then Option.bind (fBreakdown_isUnattended (sm_lo (1 + (21 + (sm_w z1).toNat)) s)) (fun p6 => (if sm_w p6 = 0 then some ((-4), s, ro) else Option.bind (fDesk_record s ro) (fun p9 => Option.bind (fState_patrolOf z1 (sm_lo 1 p9.1)) (fun p12 => Option.bind (fState_isPatrol p12 (sm_lo 1 p9.1)) (fun p15 => (if sm_w p15 = 0 then fDesk_cancel_j69 (21 + (sm_w z1).toNat) p9.1 p9.2 else if 0 ≤ sm_w p12 ∧ sm_w p12 < 6 then Option.bind (fPatrol_becomeFree (sm_lo (1 + (10 + (sm_w p12).toNat)) p9.1)) (fun p28 => Option.bind (some (sm_gl (1 + (10 + (sm_w p12).toNat)) 1 p28 p9.1)) (fun s31 => fDesk_cancel_j69 (21 + (sm_w z1).toNat) s31 p9.2)) else none)))))) else none))
set_option maxRecDepth 100000 in
set_option maxHeartbeats 4000000 in
theorem bDesk_cancel {G : GT} {E : ET} {o : Nat} {s mi : MI} {ro : Nat → Nat} {z1 : Int} {w : Int × MI × (Nat → Nat)} (g : gD E o)  (h : fDesk_cancel z1 s ro = some w) : cN G yX9_cancel cX9_cancel 4 (some .int) 4 91 [.inr o, .inl z1] (eD E o ro) (sm_gl o 432 s mi) (some (.inl w.1), eD E o w.2.2, sm_gl o 432 w.2.1 mi) := by
  have hN1 := g.1
  have hN2 := (g.e ro).2.1
  unfold fDesk_cancel at h
  refine sm_meth (by decide +kernel) (Nat.le_of_ble_eq_true rfl) ?_
  show sM (xDesk_cancel G) 0 [some (.inr o), some (.inl z1), none, none] [] (eD E o ro) (sm_gl o 432 s mi) _
  refine sm_aload_n dX9_cancel_0 rfl ?_
  refine sm_getR lf_RX9_10 fR_6_0 (g.e ro).2.2.1 (by omega) (g.e ro).2.2.2.1.2 dX9_cancel_1 ?_
  refine sm_iload_n dX9_cancel_4 rfl ?_
  obtain ⟨p1, hp2, h⟩ := sl_bind h
  have hc3 := bState_isCall (G := G) (E := (eD E o ro)) (o := o + 1) (s := (sm_lo 1 s)) (mi := (sm_gl o 432 s mi)) ((g.e ro).2.2.2.1.1)  hp2
  rw [gl_in (o := o) (D := 1) (ha := (rfl : o + 1 = o + 1)) (hD := (by omega : 1 + 61 ≤ 432))] at hc3
  refine sc_callV1 (avs := [.inl z1]) (st := []) lk_RX9_94 rfl vf_X7_isCall hc3 ⟨(Nat.le_of_ble_eq_true rfl), (Nat.le_of_ble_eq_true rfl)⟩ ⟨rfl, (Nat.le_of_ble_eq_true rfl)⟩ ((g.e ro).2.2.2.1.1).2.2.1 (by omega) rfl dX9_cancel_5 ?_
  refine sm_if_ne 13 dX9_cancel_8 rfl (fun c35 => ?_) (fun c35 => ?_)
  · rw [if_neg c35] at h
    refine sm_aload_n dX9_cancel_13 rfl ?_
    refine sm_getR lf_RX9_10 fR_6_0 (g.e ro).2.2.1 (by omega) (g.e ro).2.2.2.1.2 dX9_cancel_14 ?_
    refine sm_getR lf_RX9_97 fR_5_7 ((g.e ro).2.2.2.1.1).2.2.1 (by omega) ((g.e ro).2.2.2.1.1).2.2.2.2.2.2.2.1.1.2 dX9_cancel_17 ?_
    refine sm_iload_n dX9_cancel_20 rfl ?_
    obtain ⟨q4, h⟩ := sl_guard h
    have xq4 := (sl_ix (m := 40) q4).2
    have e5 := ((g.e ro).2.2.2.1.1).2.2.2.2.2.2.2.1.2 (sm_w z1).toNat xq4
    refine sl_aald (k := (sm_w z1).toNat) (Or.inr (Or.inr (Or.inl rfl))) ((g.e ro).2.2.2.1.1).2.2.2.2.2.2.2.1.1.1 (by omega) (sl_ix (m := 40) q4) e5.1 dX9_cancel_21 ?_
    refine sm_astore_n dX9_cancel_22 (Nat.le_of_ble_eq_true rfl) ?_
    refine sm_aload_n dX9_cancel_23 rfl ?_
    obtain ⟨p6, hp7, h⟩ := sl_bind h
    have hc8 := bBreakdown_isUnattended (G := G) (E := (eD E o ro)) (o := o + 1 + (21 + (sm_w z1).toNat)) (s := (sm_lo (1 + (21 + (sm_w z1).toNat)) s)) (mi := (sm_gl o 432 s mi)) e5.2  hp7
    rw [gl_in (o := o) (D := (1 + (21 + (sm_w z1).toNat))) (ha := ((Nat.add_assoc _ _ _) : o + 1 + (21 + (sm_w z1).toNat) = o + (1 + (21 + (sm_w z1).toNat)))) (hD := (by omega : (1 + (21 + (sm_w z1).toNat)) + 1 ≤ 432))] at hc8
    refine sc_callV1 (avs := []) (st := []) lk_RX9_101 rfl vf_X1_isUnattended hc8 ⟨(Nat.le_of_ble_eq_true rfl), (Nat.le_of_ble_eq_true rfl)⟩ ⟨rfl, (Nat.le_of_ble_eq_true rfl)⟩ e5.2.2.2 (by omega) rfl dX9_cancel_24 ?_
    refine sm_if_ne 33 dX9_cancel_27 rfl (fun c34 => ?_) (fun c34 => ?_)
    · rw [if_neg c34] at h
      refine sm_aload_n dX9_cancel_33 rfl ?_
      obtain ⟨p9, hp10, h⟩ := sl_bind h
      have hc11 := bDesk_record (G := G) (E := E) (o := o) (s := s) (mi := mi) (ro := ro) g  hp10
      refine sc_callV0 (avs := []) (st := []) lk_RX9_51 rfl vf_X9_record hc11 ⟨(Nat.le_of_ble_eq_true rfl), (Nat.le_of_ble_eq_true rfl)⟩ ⟨rfl, (Nat.le_of_ble_eq_true rfl)⟩ (g.e p9.2).2.2.1 (by omega) rfl dX9_cancel_34 ?_
      have hN2 := (g.e p9.2).2.1
      refine sm_aload_n dX9_cancel_37 rfl ?_
      refine sm_getR lf_RX9_10 fR_6_0 (g.e p9.2).2.2.1 (by omega) (g.e p9.2).2.2.2.1.2 dX9_cancel_38 ?_
      refine sm_iload_n dX9_cancel_41 rfl ?_
      obtain ⟨p12, hp13, h⟩ := sl_bind h
      have hc14 := bState_patrolOf (G := G) (E := (eD E o p9.2)) (o := o + 1) (s := (sm_lo 1 p9.1)) (mi := (sm_gl o 432 p9.1 mi)) ((g.e p9.2).2.2.2.1.1)  hp13
      rw [gl_in (o := o) (D := 1) (ha := (rfl : o + 1 = o + 1)) (hD := (by omega : 1 + 61 ≤ 432))] at hc14
      refine sc_callV1 (avs := [.inl z1]) (st := []) lk_RX9_107 rfl vf_X7_patrolOf hc14 ⟨(Nat.le_of_ble_eq_true rfl), (Nat.le_of_ble_eq_true rfl)⟩ ⟨rfl, (Nat.le_of_ble_eq_true rfl)⟩ ((g.e p9.2).2.2.2.1.1).2.2.1 (by omega) rfl dX9_cancel_42 ?_
      refine sm_istore_n dX9_cancel_45 (Nat.le_of_ble_eq_true rfl) ?_
      refine sm_aload_n dX9_cancel_46 rfl ?_
      refine sm_getR lf_RX9_10 fR_6_0 (g.e p9.2).2.2.1 (by omega) (g.e p9.2).2.2.2.1.2 dX9_cancel_47 ?_
      refine sm_iload_n dX9_cancel_50 rfl ?_
      obtain ⟨p15, hp16, h⟩ := sl_bind h
      have hc17 := bState_isPatrol (G := G) (E := (eD E o p9.2)) (o := o + 1) (s := (sm_lo 1 p9.1)) (mi := (sm_gl o 432 p9.1 mi)) ((g.e p9.2).2.2.2.1.1)  hp16
      rw [gl_in (o := o) (D := 1) (ha := (rfl : o + 1 = o + 1)) (hD := (by omega : 1 + 61 ≤ 432))] at hc17
      refine sc_callV1 (avs := [.inl p12]) (st := []) lk_RX9_110 rfl vf_X7_isPatrol hc17 ⟨(Nat.le_of_ble_eq_true rfl), (Nat.le_of_ble_eq_true rfl)⟩ ⟨rfl, (Nat.le_of_ble_eq_true rfl)⟩ ((g.e p9.2).2.2.2.1.1).2.2.1 (by omega) rfl dX9_cancel_51 ?_
      refine sm_if_eq 69 dX9_cancel_54 rfl (fun c33 => ?_) (fun c33 => ?_)
      · rw [if_pos c33] at h
        exact sm_less (lv' := [some (.inr o), none, some (.inr (o + 1 + (21 + (sm_w z1).toNat))), none]) ⟨rfl, rfl, trivial⟩ (bDesk_cancel_j69 g e5.2 (by omega)  h)
      · rw [if_neg c33] at h
        refine sm_aload_n dX9_cancel_57 rfl ?_
        refine sm_getR lf_RX9_10 fR_6_0 (g.e p9.2).2.2.1 (by omega) (g.e p9.2).2.2.2.1.2 dX9_cancel_58 ?_
        refine sm_getR lf_RX9_113 fR_5_3 ((g.e p9.2).2.2.2.1.1).2.2.1 (by omega) ((g.e p9.2).2.2.2.1.1).2.2.2.2.2.1.1.2 dX9_cancel_61 ?_
        refine sm_iload_n dX9_cancel_64 rfl ?_
        obtain ⟨q26, h⟩ := sl_guard h
        have xq26 := (sl_ix (m := 6) q26).2
        have e27 := ((g.e p9.2).2.2.2.1.1).2.2.2.2.2.1.2 (sm_w p12).toNat xq26
        refine sl_aald (k := (sm_w p12).toNat) (Or.inl rfl) ((g.e p9.2).2.2.2.1.1).2.2.2.2.2.1.1.1 (by omega) (sl_ix (m := 6) q26) e27.1 dX9_cancel_65 ?_
        obtain ⟨p28, hp29, h⟩ := sl_bind h
        have hc30 := bPatrol_becomeFree (G := G) (E := (eD E o p9.2)) (o := o + 1 + (10 + (sm_w p12).toNat)) (s := (sm_lo (1 + (10 + (sm_w p12).toNat)) p9.1)) (mi := (sm_gl o 432 p9.1 mi)) e27.2  hp29
        rw [gl_in (o := o) (D := (1 + (10 + (sm_w p12).toNat))) (ha := ((Nat.add_assoc _ _ _) : o + 1 + (10 + (sm_w p12).toNat) = o + (1 + (10 + (sm_w p12).toNat)))) (hD := (by omega : (1 + (10 + (sm_w p12).toNat)) + 1 ≤ 432)), gl_out (o := o) (D := (1 + (10 + (sm_w p12).toNat))) (ha := ((Nat.add_assoc _ _ _) : o + 1 + (10 + (sm_w p12).toNat) = o + (1 + (10 + (sm_w p12).toNat)))) (hD := (by omega : (1 + (10 + (sm_w p12).toNat)) + 1 ≤ 432))] at hc30
        refine sc_callV0 (avs := []) (st := []) lk_RX9_117 rfl vf_X4_becomeFree hc30 ⟨(Nat.le_of_ble_eq_true rfl), (Nat.le_of_ble_eq_true rfl)⟩ ⟨rfl, (Nat.le_of_ble_eq_true rfl)⟩ e27.2.2.2 (by omega) rfl dX9_cancel_66 ?_
        obtain ⟨s31, hs32, h⟩ := sl_bind h
        rw [Option.some.inj hs32]
        exact sm_less (lv' := [some (.inr o), none, some (.inr (o + 1 + (21 + (sm_w z1).toNat))), none]) ⟨rfl, rfl, trivial⟩ (bDesk_cancel_j69 g e5.2 (by omega)  h)
    · rw [if_pos c34] at h
      refine sm_bipush dX9_cancel_30 rfl ?_
      cases h
      exact sm_ireturn dX9_cancel_32 (Or.inl rfl)
  · rw [if_pos c35] at h
    refine sm_iconst dX9_cancel_11 ?_
    cases h
    exact sm_ireturn dX9_cancel_12 (Or.inl rfl)
abbrev xDesk_duty (G : GT) : XT := (G, yX9_duty.cls, cX9_duty, 4, (some .int), decide (yX9_duty.name = "<init>"), 4, 91)
def fDesk_duty_j71 (e0 : Nat) (y1 : Int) (s : MI) (ro : Nat → Nat) : Option (Int × MI × (Nat → Nat)) :=
  Option.bind (some (sm_up s (1 + e0) 3 y1)) (fun s9 => Option.bind (fState_patrolsOnDuty (sm_lo 1 s9)) (fun p11 => some (p11, s9, ro)))
set_option maxRecDepth 100000 in
set_option maxHeartbeats 4000000 in
theorem bDesk_duty_j71 {G : GT} {E : ET} {o : Nat} {s mi : MI} {ro : Nat → Nat} {e0 : Nat} {y1 : Int} {w : Int × MI × (Nat → Nat)} (g : gD E o) (ge0 : gO 3 E (o + 1 + e0)) (he0 : e0 + 1 ≤ 61) (h : fDesk_duty_j71 e0 y1 s ro = some w) : sM (xDesk_duty G) 71 [some (.inr o), none, none, none] [.inl y1, .inr (o + 1 + e0)] (eD E o ro) (sm_gl o 432 s mi) (some (.inl w.1), eD E o w.2.2, sm_gl o 432 w.2.1 mi) := by
  have hN1 := g.1
  have hN2 := (g.e ro).2.1
  unfold fDesk_duty_j71 at h
  refine sl_putI (D := (1 + e0)) lf_RX9_135 fP_3_3 (Or.inl rfl) ge0.2.2 (Nat.add_assoc _ _ _) (by omega) ⟨hN1, hN2⟩ dX9_duty_71 ?_
  obtain ⟨s9, hs10, h⟩ := sl_bind h
  rw [Option.some.inj hs10]
  refine sm_aload_n dX9_duty_74 rfl ?_
  refine sm_getR lf_RX9_10 fR_6_0 (g.e ro).2.2.1 (by omega) (g.e ro).2.2.2.1.2 dX9_duty_75 ?_
  obtain ⟨p11, hp12, h⟩ := sl_bind h
  have hc13 := bState_patrolsOnDuty (G := G) (E := (eD E o ro)) (o := o + 1) (s := (sm_lo 1 s9)) (mi := (sm_gl o 432 s9 mi)) ((g.e ro).2.2.2.1.1)  hp12
  rw [gl_in (o := o) (D := 1) (ha := (rfl : o + 1 = o + 1)) (hD := (by omega : 1 + 61 ≤ 432))] at hc13
  refine sc_callV1 (avs := []) (st := []) lk_RX9_138 rfl vf_X7_patrolsOnDuty hc13 ⟨(Nat.le_of_ble_eq_true rfl), (Nat.le_of_ble_eq_true rfl)⟩ ⟨rfl, (Nat.le_of_ble_eq_true rfl)⟩ ((g.e ro).2.2.2.1.1).2.2.1 (by omega) rfl dX9_duty_78 ?_
  cases h
  exact sm_ireturn dX9_duty_81 (Or.inl rfl)
def fDesk_duty_j51 (z2 : Int) (d3 : Nat) (y0 : Int) (y1 : Int) (s : MI) (ro : Nat → Nat) : Option (Int × MI × (Nat → Nat)) :=
  (if sm_w y0 = sm_w y1 then some ((-5), s, ro) else Option.bind (fDesk_record s ro) (fun p6 => (if sm_w z2 = 0 then fDesk_duty_j71 d3 4 p6.1 p6.2 else fDesk_duty_j71 d3 0 p6.1 p6.2)))
set_option maxRecDepth 100000 in
set_option maxHeartbeats 4000000 in
theorem bDesk_duty_j51 {G : GT} {E : ET} {o : Nat} {s mi : MI} {ro : Nat → Nat} {z2 : Int} {d3 : Nat} {y0 : Int} {y1 : Int} {w : Int × MI × (Nat → Nat)} (g : gD E o) (gd3 : gO 3 E (o + 1 + d3)) (hd3 : d3 + 1 ≤ 61) (h : fDesk_duty_j51 z2 d3 y0 y1 s ro = some w) : sM (xDesk_duty G) 51 [some (.inr o), none, some (.inl z2), some (.inr (o + 1 + d3))] [.inl y1, .inl y0] (eD E o ro) (sm_gl o 432 s mi) (some (.inl w.1), eD E o w.2.2, sm_gl o 432 w.2.1 mi) := by
  have hN1 := g.1
  have hN2 := (g.e ro).2.1
  unfold fDesk_duty_j51 at h
  refine sc_icmp_ne (X' := sm_w y0) (Y' := sm_w y1) 57 dX9_duty_51 rfl rfl rfl (fun c15 => ?_) (fun c15 => ?_)
  · rw [if_neg c15] at h
    refine sm_aload_n dX9_duty_57 rfl ?_
    obtain ⟨p6, hp7, h⟩ := sl_bind h
    have hc8 := bDesk_record (G := G) (E := E) (o := o) (s := s) (mi := mi) (ro := ro) g  hp7
    refine sc_callV0 (avs := []) (st := []) lk_RX9_51 rfl vf_X9_record hc8 ⟨(Nat.le_of_ble_eq_true rfl), (Nat.le_of_ble_eq_true rfl)⟩ ⟨rfl, (Nat.le_of_ble_eq_true rfl)⟩ (g.e p6.2).2.2.1 (by omega) rfl dX9_duty_58 ?_
    have hN2 := (g.e p6.2).2.1
    refine sm_aload_n dX9_duty_61 rfl ?_
    refine sm_iload_n dX9_duty_62 rfl ?_
    refine sm_if_eq 70 dX9_duty_63 rfl (fun c14 => ?_) (fun c14 => ?_)
    · rw [if_pos c14] at h
      refine sm_iconst dX9_duty_70 ?_
      exact sm_less (lv' := [some (.inr o), none, none, none]) ⟨rfl, trivial⟩ (bDesk_duty_j71 g gd3 (by omega)  h)
    · rw [if_neg c14] at h
      refine sm_iconst dX9_duty_66 ?_
      refine sm_goto 71 dX9_duty_67 rfl ?_
      exact sm_less (lv' := [some (.inr o), none, none, none]) ⟨rfl, trivial⟩ (bDesk_duty_j71 g gd3 (by omega)  h)
  · rw [if_pos c15] at h
    refine sm_bipush dX9_duty_54 rfl ?_
    cases h
    exact sm_ireturn dX9_duty_56 (Or.inl rfl)
def fDesk_duty_j37 (z2 : Int) (d3 : Nat) (s : MI) (ro : Nat → Nat) : Option (Int × MI × (Nat → Nat)) :=
  (if sm_w (s (1 + d3) 3) = 4 then fDesk_duty_j51 z2 d3 z2 0 s ro else fDesk_duty_j51 z2 d3 z2 1 s ro)
set_option maxRecDepth 100000 in
set_option maxHeartbeats 4000000 in
theorem bDesk_duty_j37 {G : GT} {E : ET} {o : Nat} {s mi : MI} {ro : Nat → Nat} {z2 : Int} {d3 : Nat} {w : Int × MI × (Nat → Nat)} (g : gD E o) (gd3 : gO 3 E (o + 1 + d3)) (hd3 : d3 + 1 ≤ 61) (h : fDesk_duty_j37 z2 d3 s ro = some w) : sM (xDesk_duty G) 37 [some (.inr o), none, some (.inl z2), some (.inr (o + 1 + d3))] [] (eD E o ro) (sm_gl o 432 s mi) (some (.inl w.1), eD E o w.2.2, sm_gl o 432 w.2.1 mi) := by
  have hN1 := g.1
  have hN2 := (g.e ro).2.1
  unfold fDesk_duty_j37 at h
  refine sm_iload_n dX9_duty_37 rfl ?_
  refine sm_aload_n dX9_duty_38 rfl ?_
  refine sl_getI (D := (1 + d3)) lf_RX9_135 fI_3_3 gd3.2.2 (Nat.add_assoc _ _ _) (by omega) hN2 dX9_duty_39 ?_
  refine sm_iconst dX9_duty_42 ?_
  refine sc_icmp_eq (X' := sm_w (s (1 + d3) 3)) (Y' := 4) 50 dX9_duty_43 rfl rfl (by decide) (fun c16 => ?_) (fun c16 => ?_)
  · rw [if_pos c16] at h
    refine sm_iconst dX9_duty_50 ?_
    exact sm_less (lv' := [some (.inr o), none, some (.inl z2), some (.inr (o + 1 + d3))]) ⟨rfl, rfl, rfl, trivial⟩ (bDesk_duty_j51 g gd3 (by omega)  h)
  · rw [if_neg c16] at h
    refine sm_iconst dX9_duty_46 ?_
    refine sm_goto 51 dX9_duty_47 rfl ?_
    exact sm_less (lv' := [some (.inr o), none, some (.inl z2), some (.inr (o + 1 + d3))]) ⟨rfl, rfl, rfl, trivial⟩ (bDesk_duty_j51 g gd3 (by omega)  h)
def fDesk_duty (z1 : Int) (z2 : Int) (s : MI) (ro : Nat → Nat) : Option (Int × MI × (Nat → Nat)) :=
  Option.bind (fState_isPatrol z1 (sm_lo 1 s)) (fun p1 => (if sm_w p1 = 0 then some ((-1), s, ro) else if 0 ≤ sm_w z1 ∧ sm_w z1 < 6 then (if sm_w z2 = 0 then Option.bind (fPatrol_isBusy (sm_lo (1 + (10 + (sm_w z1).toNat)) s)) (fun p17 => (if sm_w p17 = 0 then fDesk_duty_j37 z2 (10 + (sm_w z1).toNat) s ro else some ((-4), s, ro))) else fDesk_duty_j37 z2 (10 + (sm_w z1).toNat) s ro) else none))
set_option maxRecDepth 100000 in
set_option maxHeartbeats 4000000 in
theorem bDesk_duty {G : GT} {E : ET} {o : Nat} {s mi : MI} {ro : Nat → Nat} {z1 : Int} {z2 : Int} {w : Int × MI × (Nat → Nat)} (g : gD E o)  (h : fDesk_duty z1 z2 s ro = some w) : cN G yX9_duty cX9_duty 4 (some .int) 4 91 [.inr o, .inl z1, .inl z2] (eD E o ro) (sm_gl o 432 s mi) (some (.inl w.1), eD E o w.2.2, sm_gl o 432 w.2.1 mi) := by
  have hN1 := g.1
  have hN2 := (g.e ro).2.1
  unfold fDesk_duty at h
  refine sm_meth (by decide +kernel) (Nat.le_of_ble_eq_true rfl) ?_
  show sM (xDesk_duty G) 0 [some (.inr o), some (.inl z1), some (.inl z2), none] [] (eD E o ro) (sm_gl o 432 s mi) _
  refine sm_aload_n dX9_duty_0 rfl ?_
  refine sm_getR lf_RX9_10 fR_6_0 (g.e ro).2.2.1 (by omega) (g.e ro).2.2.2.1.2 dX9_duty_1 ?_
  refine sm_iload_n dX9_duty_4 rfl ?_
  obtain ⟨p1, hp2, h⟩ := sl_bind h
  have hc3 := bState_isPatrol (G := G) (E := (eD E o ro)) (o := o + 1) (s := (sm_lo 1 s)) (mi := (sm_gl o 432 s mi)) ((g.e ro).2.2.2.1.1)  hp2
  rw [gl_in (o := o) (D := 1) (ha := (rfl : o + 1 = o + 1)) (hD := (by omega : 1 + 61 ≤ 432))] at hc3
  refine sc_callV1 (avs := [.inl z1]) (st := []) lk_RX9_110 rfl vf_X7_isPatrol hc3 ⟨(Nat.le_of_ble_eq_true rfl), (Nat.le_of_ble_eq_true rfl)⟩ ⟨rfl, (Nat.le_of_ble_eq_true rfl)⟩ ((g.e ro).2.2.2.1.1).2.2.1 (by omega) rfl dX9_duty_5 ?_
  refine sm_if_ne 13 dX9_duty_8 rfl (fun c22 => ?_) (fun c22 => ?_)
  · rw [if_neg c22] at h
    refine sm_aload_n dX9_duty_13 rfl ?_
    refine sm_getR lf_RX9_10 fR_6_0 (g.e ro).2.2.1 (by omega) (g.e ro).2.2.2.1.2 dX9_duty_14 ?_
    refine sm_getR lf_RX9_113 fR_5_3 ((g.e ro).2.2.2.1.1).2.2.1 (by omega) ((g.e ro).2.2.2.1.1).2.2.2.2.2.1.1.2 dX9_duty_17 ?_
    refine sm_iload_n dX9_duty_20 rfl ?_
    obtain ⟨q4, h⟩ := sl_guard h
    have xq4 := (sl_ix (m := 6) q4).2
    have e5 := ((g.e ro).2.2.2.1.1).2.2.2.2.2.1.2 (sm_w z1).toNat xq4
    refine sl_aald (k := (sm_w z1).toNat) (Or.inl rfl) ((g.e ro).2.2.2.1.1).2.2.2.2.2.1.1.1 (by omega) (sl_ix (m := 6) q4) e5.1 dX9_duty_21 ?_
    refine sm_astore_n dX9_duty_22 (Nat.le_of_ble_eq_true rfl) ?_
    refine sm_iload_n dX9_duty_23 rfl ?_
    refine sm_if_ne 37 dX9_duty_24 rfl (fun c21 => ?_) (fun c21 => ?_)
    · rw [if_neg c21] at h
      exact sm_less (lv' := [some (.inr o), none, some (.inl z2), some (.inr (o + 1 + (10 + (sm_w z1).toNat)))]) ⟨rfl, rfl, rfl, trivial⟩ (bDesk_duty_j37 g e5.2 (by omega)  h)
    · rw [if_pos c21] at h
      refine sm_aload_n dX9_duty_27 rfl ?_
      obtain ⟨p17, hp18, h⟩ := sl_bind h
      have hc19 := bPatrol_isBusy (G := G) (E := (eD E o ro)) (o := o + 1 + (10 + (sm_w z1).toNat)) (s := (sm_lo (1 + (10 + (sm_w z1).toNat)) s)) (mi := (sm_gl o 432 s mi)) e5.2  hp18
      rw [gl_in (o := o) (D := (1 + (10 + (sm_w z1).toNat))) (ha := ((Nat.add_assoc _ _ _) : o + 1 + (10 + (sm_w z1).toNat) = o + (1 + (10 + (sm_w z1).toNat)))) (hD := (by omega : (1 + (10 + (sm_w z1).toNat)) + 1 ≤ 432))] at hc19
      refine sc_callV1 (avs := []) (st := []) lk_RX9_132 rfl vf_X4_isBusy hc19 ⟨(Nat.le_of_ble_eq_true rfl), (Nat.le_of_ble_eq_true rfl)⟩ ⟨rfl, (Nat.le_of_ble_eq_true rfl)⟩ e5.2.2.2 (by omega) rfl dX9_duty_28 ?_
      refine sm_if_eq 37 dX9_duty_31 rfl (fun c20 => ?_) (fun c20 => ?_)
      · rw [if_pos c20] at h
        exact sm_less (lv' := [some (.inr o), none, some (.inl z2), some (.inr (o + 1 + (10 + (sm_w z1).toNat)))]) ⟨rfl, rfl, rfl, trivial⟩ (bDesk_duty_j37 g e5.2 (by omega)  h)
      · rw [if_neg c20] at h
        refine sm_bipush dX9_duty_34 rfl ?_
        cases h
        exact sm_ireturn dX9_duty_36 (Or.inl rfl)
  · rw [if_pos c22] at h
    refine sm_iconst dX9_duty_11 ?_
    cases h
    exact sm_ireturn dX9_duty_12 (Or.inl rfl)
abbrev xDesk_goHome (G : GT) : XT := (G, yX9_goHome.cls, cX9_goHome, 4, (some .int), decide (yX9_goHome.name = "<init>"), 4, 91)
def fDesk_goHome (z1 : Int) (s : MI) (ro : Nat → Nat) : Option (Int × MI × (Nat → Nat)) :=
  Option.bind (fState_isPatrol z1 (sm_lo 1 s)) (fun p1 => (if sm_w p1 = 0 then some ((-1), s, ro) else if 0 ≤ sm_w z1 ∧ sm_w z1 < 6 then Option.bind (fMap_between (s (1 + (10 + (sm_w z1).toNat)) 4) (s (1 + (10 + (sm_w z1).toNat)) 0) (sm_lo 2 s)) (fun p6 => (if sm_w (s (1 + (10 + (sm_w z1).toNat)) 3) = 0 then (if sm_w p6 < 1000000 then (if sm_w (s (1 + (10 + (sm_w z1).toNat)) 4) = sm_w (s (1 + (10 + (sm_w z1).toNat)) 0) then some ((-5), s, ro) else Option.bind (fDesk_record s ro) (fun p9 => Option.bind (some (sm_up p9.1 (1 + (10 + (sm_w z1).toNat)) 4 (p9.1 (1 + (10 + (sm_w z1).toNat)) 0))) (fun s12 => some (p6, s12, p9.2)))) else some ((-4), s, ro)) else some ((-4), s, ro))) else none))
set_option maxRecDepth 100000 in
set_option maxHeartbeats 4000000 in
theorem bDesk_goHome {G : GT} {E : ET} {o : Nat} {s mi : MI} {ro : Nat → Nat} {z1 : Int} {w : Int × MI × (Nat → Nat)} (g : gD E o)  (h : fDesk_goHome z1 s ro = some w) : cN G yX9_goHome cX9_goHome 4 (some .int) 4 91 [.inr o, .inl z1] (eD E o ro) (sm_gl o 432 s mi) (some (.inl w.1), eD E o w.2.2, sm_gl o 432 w.2.1 mi) := by
  have hN1 := g.1
  have hN2 := (g.e ro).2.1
  unfold fDesk_goHome at h
  refine sm_meth (by decide +kernel) (Nat.le_of_ble_eq_true rfl) ?_
  show sM (xDesk_goHome G) 0 [some (.inr o), some (.inl z1), none, none] [] (eD E o ro) (sm_gl o 432 s mi) _
  refine sm_aload_n dX9_goHome_0 rfl ?_
  refine sm_getR lf_RX9_10 fR_6_0 (g.e ro).2.2.1 (by omega) (g.e ro).2.2.2.1.2 dX9_goHome_1 ?_
  refine sm_iload_n dX9_goHome_4 rfl ?_
  obtain ⟨p1, hp2, h⟩ := sl_bind h
  have hc3 := bState_isPatrol (G := G) (E := (eD E o ro)) (o := o + 1) (s := (sm_lo 1 s)) (mi := (sm_gl o 432 s mi)) ((g.e ro).2.2.2.1.1)  hp2
  rw [gl_in (o := o) (D := 1) (ha := (rfl : o + 1 = o + 1)) (hD := (by omega : 1 + 61 ≤ 432))] at hc3
  refine sc_callV1 (avs := [.inl z1]) (st := []) lk_RX9_110 rfl vf_X7_isPatrol hc3 ⟨(Nat.le_of_ble_eq_true rfl), (Nat.le_of_ble_eq_true rfl)⟩ ⟨rfl, (Nat.le_of_ble_eq_true rfl)⟩ ((g.e ro).2.2.2.1.1).2.2.1 (by omega) rfl dX9_goHome_5 ?_
  refine sm_if_ne 13 dX9_goHome_8 rfl (fun c17 => ?_) (fun c17 => ?_)
  · rw [if_neg c17] at h
    refine sm_aload_n dX9_goHome_13 rfl ?_
    refine sm_getR lf_RX9_10 fR_6_0 (g.e ro).2.2.1 (by omega) (g.e ro).2.2.2.1.2 dX9_goHome_14 ?_
    refine sm_getR lf_RX9_113 fR_5_3 ((g.e ro).2.2.2.1.1).2.2.1 (by omega) ((g.e ro).2.2.2.1.1).2.2.2.2.2.1.1.2 dX9_goHome_17 ?_
    refine sm_iload_n dX9_goHome_20 rfl ?_
    obtain ⟨q4, h⟩ := sl_guard h
    have xq4 := (sl_ix (m := 6) q4).2
    have e5 := ((g.e ro).2.2.2.1.1).2.2.2.2.2.1.2 (sm_w z1).toNat xq4
    refine sl_aald (k := (sm_w z1).toNat) (Or.inl rfl) ((g.e ro).2.2.2.1.1).2.2.2.2.2.1.1.1 (by omega) (sl_ix (m := 6) q4) e5.1 dX9_goHome_21 ?_
    refine sm_astore_n dX9_goHome_22 (Nat.le_of_ble_eq_true rfl) ?_
    refine sm_aload_n dX9_goHome_23 rfl ?_
    refine sm_getR lf_RX9_10 fR_6_0 (g.e ro).2.2.1 (by omega) (g.e ro).2.2.2.1.2 dX9_goHome_24 ?_
    refine sm_getR lf_RX9_37 fR_5_0 ((g.e ro).2.2.2.1.1).2.2.1 (by omega) ((g.e ro).2.2.2.1.1).2.2.2.1.2 dX9_goHome_27 ?_
    refine sm_aload_n dX9_goHome_30 rfl ?_
    refine sl_getI (D := (1 + (10 + (sm_w z1).toNat))) lf_RX9_142 fI_3_4 e5.2.2.2 (Nat.add_assoc _ _ _) (by omega) hN2 dX9_goHome_31 ?_
    refine sm_aload_n dX9_goHome_34 rfl ?_
    refine sl_getI (D := (1 + (10 + (sm_w z1).toNat))) lf_RX9_145 fI_3_0 e5.2.2.2 (Nat.add_assoc _ _ _) (by omega) hN2 dX9_goHome_35 ?_
    obtain ⟨p6, hp7, h⟩ := sl_bind h
    have hc8 := bMap_between (G := G) (E := (eD E o ro)) (o := o + 1 + 1) (s := (sm_lo 2 s)) (mi := (sm_gl o 432 s mi)) (((g.e ro).2.2.2.1.1).2.2.2.1.1)  hp7
    rw [gl_in (o := o) (D := 2) (ha := (rfl : o + 1 + 1 = o + 2)) (hD := (by omega : 2 + 3 ≤ 432))] at hc8
    refine sc_callV1 (avs := [.inl (s (1 + (10 + (sm_w z1).toNat)) 4), .inl (s (1 + (10 + (sm_w z1).toNat)) 0)]) (st := []) lk_RX9_148 rfl vf_X5_between hc8 ⟨(Nat.le_of_ble_eq_true rfl), (Nat.le_of_ble_eq_true rfl)⟩ ⟨rfl, (Nat.le_of_ble_eq_true rfl)⟩ (((g.e ro).2.2.2.1.1).2.2.2.1.1).2.2.1 (by omega) rfl dX9_goHome_38 ?_
    refine sm_istore_n dX9_goHome_41 (Nat.le_of_ble_eq_true rfl) ?_
    refine sm_aload_n dX9_goHome_42 rfl ?_
    refine sl_getI (D := (1 + (10 + (sm_w z1).toNat))) lf_RX9_135 fI_3_3 e5.2.2.2 (Nat.add_assoc _ _ _) (by omega) hN2 dX9_goHome_43 ?_
    refine sm_if_ne 55 dX9_goHome_46 rfl (fun c16 => ?_) (fun c16 => ?_)
    · rw [if_neg c16] at h
      refine sm_bipush dX9_goHome_55 rfl ?_
      cases h
      exact sm_ireturn dX9_goHome_57 (Or.inl rfl)
    · rw [if_pos c16] at h
      refine sm_iload_n dX9_goHome_49 rfl ?_
      refine sm_ldc (v := 1000000) rfl lc_RX9_151 dX9_goHome_50 ?_
      refine sc_icmp_lt (X' := sm_w p6) (Y' := 1000000) 58 dX9_goHome_52 rfl rfl (by decide) (fun c15 => ?_) (fun c15 => ?_)
      · rw [if_pos c15] at h
        refine sm_aload_n dX9_goHome_58 rfl ?_
        refine sl_getI (D := (1 + (10 + (sm_w z1).toNat))) lf_RX9_142 fI_3_4 e5.2.2.2 (Nat.add_assoc _ _ _) (by omega) hN2 dX9_goHome_59 ?_
        refine sm_aload_n dX9_goHome_62 rfl ?_
        refine sl_getI (D := (1 + (10 + (sm_w z1).toNat))) lf_RX9_145 fI_3_0 e5.2.2.2 (Nat.add_assoc _ _ _) (by omega) hN2 dX9_goHome_63 ?_
        refine sc_icmp_ne (X' := sm_w (s (1 + (10 + (sm_w z1).toNat)) 4)) (Y' := sm_w (s (1 + (10 + (sm_w z1).toNat)) 0)) 72 dX9_goHome_66 rfl rfl rfl (fun c14 => ?_) (fun c14 => ?_)
        · rw [if_neg c14] at h
          refine sm_aload_n dX9_goHome_72 rfl ?_
          obtain ⟨p9, hp10, h⟩ := sl_bind h
          have hc11 := bDesk_record (G := G) (E := E) (o := o) (s := s) (mi := mi) (ro := ro) g  hp10
          refine sc_callV0 (avs := []) (st := []) lk_RX9_51 rfl vf_X9_record hc11 ⟨(Nat.le_of_ble_eq_true rfl), (Nat.le_of_ble_eq_true rfl)⟩ ⟨rfl, (Nat.le_of_ble_eq_true rfl)⟩ (g.e p9.2).2.2.1 (by omega) rfl dX9_goHome_73 ?_
          have hN2 := (g.e p9.2).2.1
          refine sm_aload_n dX9_goHome_76 rfl ?_
          refine sm_aload_n dX9_goHome_77 rfl ?_
          refine sl_getI (D := (1 + (10 + (sm_w z1).toNat))) lf_RX9_145 fI_3_0 e5.2.2.2 (Nat.add_assoc _ _ _) (by omega) hN2 dX9_goHome_78 ?_
          refine sl_putI (D := (1 + (10 + (sm_w z1).toNat))) lf_RX9_142 fP_3_4 (Or.inl rfl) e5.2.2.2 (Nat.add_assoc _ _ _) (by omega) ⟨hN1, hN2⟩ dX9_goHome_81 ?_
          obtain ⟨s12, hs13, h⟩ := sl_bind h
          rw [Option.some.inj hs13]
          refine sm_iload_n dX9_goHome_84 rfl ?_
          cases h
          exact sm_ireturn dX9_goHome_85 (Or.inl rfl)
        · rw [if_pos c14] at h
          refine sm_bipush dX9_goHome_69 rfl ?_
          cases h
          exact sm_ireturn dX9_goHome_71 (Or.inl rfl)
      · rw [if_neg c15] at h
        refine sm_bipush dX9_goHome_55 rfl ?_
        cases h
        exact sm_ireturn dX9_goHome_57 (Or.inl rfl)
  · rw [if_pos c17] at h
    refine sm_iconst dX9_goHome_11 ?_
    cases h
    exact sm_ireturn dX9_goHome_12 (Or.inl rfl)
abbrev xDesk_fetch (G : GT) : XT := (G, yX9_fetch.cls, cX9_fetch, 4, (some .int), decide (yX9_fetch.name = "<init>"), 4, 91)
def fDesk_fetch (z1 : Int) (z2 : Int) (s : MI) (ro : Nat → Nat) : Option (Int × MI × (Nat → Nat)) :=
  Option.bind (fState_isGarage z1 (sm_lo 1 s)) (fun p1 => (if sm_w p1 = 0 then some ((-1), s, ro) else (if sm_w z2 < 1 then some ((-2), s, ro) else (if sm_w z2 ≤ 9 then if 0 ≤ sm_w z1 ∧ sm_w z1 < 5 then (if sm_w z2 ≤ sm_w (s (1 + (16 + (sm_w z1).toNat)) 2) then Option.bind (fDesk_record s ro) (fun p6 => Option.bind (some (sm_up p6.1 (1 + (16 + (sm_w z1).toNat)) 2 ((p6.1 (1 + (16 + (sm_w z1).toNat)) 2) - z2))) (fun s9 => some ((s9 (1 + (16 + (sm_w z1).toNat)) 2), s9, p6.2))) else some ((-4), s, ro)) else none else some ((-2), s, ro)))))
set_option maxRecDepth 100000 in
set_option maxHeartbeats 4000000 in
theorem bDesk_fetch {G : GT} {E : ET} {o : Nat} {s mi : MI} {ro : Nat → Nat} {z1 : Int} {z2 : Int} {w : Int × MI × (Nat → Nat)} (g : gD E o)  (h : fDesk_fetch z1 z2 s ro = some w) : cN G yX9_fetch cX9_fetch 4 (some .int) 4 91 [.inr o, .inl z1, .inl z2] (eD E o ro) (sm_gl o 432 s mi) (some (.inl w.1), eD E o w.2.2, sm_gl o 432 w.2.1 mi) := by
  have hN1 := g.1
  have hN2 := (g.e ro).2.1
  unfold fDesk_fetch at h
  refine sm_meth (by decide +kernel) (Nat.le_of_ble_eq_true rfl) ?_
  show sM (xDesk_fetch G) 0 [some (.inr o), some (.inl z1), some (.inl z2), none] [] (eD E o ro) (sm_gl o 432 s mi) _
  refine sm_aload_n dX9_fetch_0 rfl ?_
  refine sm_getR lf_RX9_10 fR_6_0 (g.e ro).2.2.1 (by omega) (g.e ro).2.2.2.1.2 dX9_fetch_1 ?_
  refine sm_iload_n dX9_fetch_4 rfl ?_
  obtain ⟨p1, hp2, h⟩ := sl_bind h
  have hc3 := bState_isGarage (G := G) (E := (eD E o ro)) (o := o + 1) (s := (sm_lo 1 s)) (mi := (sm_gl o 432 s mi)) ((g.e ro).2.2.2.1.1)  hp2
  rw [gl_in (o := o) (D := 1) (ha := (rfl : o + 1 = o + 1)) (hD := (by omega : 1 + 61 ≤ 432))] at hc3
  refine sc_callV1 (avs := [.inl z1]) (st := []) lk_RX9_152 rfl vf_X7_isGarage hc3 ⟨(Nat.le_of_ble_eq_true rfl), (Nat.le_of_ble_eq_true rfl)⟩ ⟨rfl, (Nat.le_of_ble_eq_true rfl)⟩ ((g.e ro).2.2.2.1.1).2.2.1 (by omega) rfl dX9_fetch_5 ?_
  refine sm_if_ne 13 dX9_fetch_8 rfl (fun c14 => ?_) (fun c14 => ?_)
  · rw [if_neg c14] at h
    refine sm_iload_n dX9_fetch_13 rfl ?_
    refine sm_iconst dX9_fetch_14 ?_
    refine sc_icmp_lt (X' := sm_w z2) (Y' := 1) 24 dX9_fetch_15 rfl rfl (by decide) (fun c13 => ?_) (fun c13 => ?_)
    · rw [if_pos c13] at h
      refine sm_bipush dX9_fetch_24 rfl ?_
      cases h
      exact sm_ireturn dX9_fetch_26 (Or.inl rfl)
    · rw [if_neg c13] at h
      refine sm_iload_n dX9_fetch_18 rfl ?_
      refine sm_bipush dX9_fetch_19 rfl ?_
      refine sc_icmp_le (X' := sm_w z2) (Y' := 9) 27 dX9_fetch_21 rfl rfl (by decide) (fun c12 => ?_) (fun c12 => ?_)
      · rw [if_pos c12] at h
        refine sm_aload_n dX9_fetch_27 rfl ?_
        refine sm_getR lf_RX9_10 fR_6_0 (g.e ro).2.2.1 (by omega) (g.e ro).2.2.2.1.2 dX9_fetch_28 ?_
        refine sm_getR lf_RX9_155 fR_5_5 ((g.e ro).2.2.2.1.1).2.2.1 (by omega) ((g.e ro).2.2.2.1.1).2.2.2.2.2.2.1.1.2 dX9_fetch_31 ?_
        refine sm_iload_n dX9_fetch_34 rfl ?_
        obtain ⟨q4, h⟩ := sl_guard h
        have xq4 := (sl_ix (m := 5) q4).2
        have e5 := ((g.e ro).2.2.2.1.1).2.2.2.2.2.2.1.2 (sm_w z1).toNat xq4
        refine sl_aald (k := (sm_w z1).toNat) (Or.inr (Or.inl rfl)) ((g.e ro).2.2.2.1.1).2.2.2.2.2.2.1.1.1 (by omega) (sl_ix (m := 5) q4) e5.1 dX9_fetch_35 ?_
        refine sm_astore_n dX9_fetch_36 (Nat.le_of_ble_eq_true rfl) ?_
        refine sm_iload_n dX9_fetch_37 rfl ?_
        refine sm_aload_n dX9_fetch_38 rfl ?_
        refine sl_getI (D := (1 + (16 + (sm_w z1).toNat))) lf_RX9_159 fI_2_2 e5.2.2.2 (Nat.add_assoc _ _ _) (by omega) hN2 dX9_fetch_39 ?_
        refine sc_icmp_le (X' := sm_w z2) (Y' := sm_w (s (1 + (16 + (sm_w z1).toNat)) 2)) 48 dX9_fetch_42 rfl rfl rfl (fun c11 => ?_) (fun c11 => ?_)
        · rw [if_pos c11] at h
          refine sm_aload_n dX9_fetch_48 rfl ?_
          obtain ⟨p6, hp7, h⟩ := sl_bind h
          have hc8 := bDesk_record (G := G) (E := E) (o := o) (s := s) (mi := mi) (ro := ro) g  hp7
          refine sc_callV0 (avs := []) (st := []) lk_RX9_51 rfl vf_X9_record hc8 ⟨(Nat.le_of_ble_eq_true rfl), (Nat.le_of_ble_eq_true rfl)⟩ ⟨rfl, (Nat.le_of_ble_eq_true rfl)⟩ (g.e p6.2).2.2.1 (by omega) rfl dX9_fetch_49 ?_
          have hN2 := (g.e p6.2).2.1
          refine sm_aload_n dX9_fetch_52 rfl ?_
          refine sm_dup dX9_fetch_53 ?_
          refine sl_getI (D := (1 + (16 + (sm_w z1).toNat))) lf_RX9_159 fI_2_2 e5.2.2.2 (Nat.add_assoc _ _ _) (by omega) hN2 dX9_fetch_54 ?_
          refine sm_iload_n dX9_fetch_57 rfl ?_
          refine sm_isub dX9_fetch_58 ?_
          refine sl_putI (D := (1 + (16 + (sm_w z1).toNat))) lf_RX9_159 fP_2_2 (Or.inl rfl) e5.2.2.2 (Nat.add_assoc _ _ _) (by omega) ⟨hN1, hN2⟩ dX9_fetch_59 ?_
          obtain ⟨s9, hs10, h⟩ := sl_bind h
          rw [Option.some.inj hs10]
          refine sm_aload_n dX9_fetch_62 rfl ?_
          refine sl_getI (D := (1 + (16 + (sm_w z1).toNat))) lf_RX9_159 fI_2_2 e5.2.2.2 (Nat.add_assoc _ _ _) (by omega) hN2 dX9_fetch_63 ?_
          cases h
          exact sm_ireturn dX9_fetch_66 (Or.inl rfl)
        · rw [if_neg c11] at h
          refine sm_bipush dX9_fetch_45 rfl ?_
          cases h
          exact sm_ireturn dX9_fetch_47 (Or.inl rfl)
      · rw [if_neg c12] at h
        refine sm_bipush dX9_fetch_24 rfl ?_
        cases h
        exact sm_ireturn dX9_fetch_26 (Or.inl rfl)
  · rw [if_pos c14] at h
    refine sm_iconst dX9_fetch_11 ?_
    cases h
    exact sm_ireturn dX9_fetch_12 (Or.inl rfl)
abbrev xDesk_pass (G : GT) : XT := (G, yX9_pass.cls, cX9_pass, 4, (some .int), decide (yX9_pass.name = "<init>"), 6, 145)
abbrev qDesk_pass_l40 (G : GT) (E : ET) (o : Nat) (mi : MI) (z1 : Int) (ro : Nat → Nat) (r : RT) (t : Int × Int × MI) : Prop := sM (xDesk_pass G) 40 [some (.inr o), some (.inl z1), some (.inl t.1), some (.inl t.2.1)] [] (eD E o ro) (sm_gl o 432 t.2.2 mi) r
abbrev kDesk_pass_l40 (G : GT) (E : ET) (o : Nat) (mi : MI) (z1 : Int) (ro : Nat → Nat) (r : RT) (x : Int × MI) : Prop := sM (xDesk_pass G) 61 [none, none, some (.inl x.1), none] [] (eD E o ro) (sm_gl o 432 x.2 mi) r
def fDesk_pass_l40 (z1 : Int) (z2 : Int) (z3 : Int) (s : MI) (ro : Nat → Nat) : Option ((Int × Int × MI) ⊕ (Int × MI)) :=
  (if sm_w z1 ≤ sm_w z3 then some (.inr (z2, s)) else Option.bind (fWork_passMinute (sm_lo 1 s)) (fun p4 => Option.bind (some (sm_gl 1 61 p4.2 s)) (fun s7 => some (.inl ((z2 + p4.1), (z3 + 1), s7)))))
set_option maxRecDepth 100000 in
set_option maxHeartbeats 4000000 in
theorem bDesk_pass_l40 {G : GT} {E : ET} {o : Nat} {s mi : MI} {ro : Nat → Nat} {z1 : Int} {z2 : Int} {z3 : Int} {r : RT} {w : (Int × Int × MI) ⊕ (Int × MI)} (g : gD E o)  (h : fDesk_pass_l40 z1 z2 z3 s ro = some w) (hK : Sum.elim (qDesk_pass_l40 G E o mi z1 ro r) (kDesk_pass_l40 G E o mi z1 ro r) w) : qDesk_pass_l40 G E o mi z1 ro r (z2, z3, s) := by
  have hN1 := g.1
  have hN2 := (g.e ro).2.1
  unfold fDesk_pass_l40 at h
  show sM (xDesk_pass G) 40 [some (.inr o), some (.inl z1), some (.inl z2), some (.inl z3)] [] (eD E o ro) (sm_gl o 432 s mi) r
  refine sm_iload_n dX9_pass_40 rfl ?_
  refine sm_iload_n dX9_pass_41 rfl ?_
  refine sc_icmp_ge (X' := sm_w z3) (Y' := sm_w z1) 61 dX9_pass_42 rfl rfl rfl (fun c9 => ?_) (fun c9 => ?_)
  · rw [if_pos c9] at h
    cases h
    exact sm_less (lv' := [none, none, some (.inl z2), none]) ⟨rfl, trivial⟩ hK
  · rw [if_neg c9] at h
    refine sm_iload_n dX9_pass_45 rfl ?_
    refine sm_aload_n dX9_pass_46 rfl ?_
    refine sm_getR lf_RX9_10 fR_6_0 (g.e ro).2.2.1 (by omega) (g.e ro).2.2.2.1.2 dX9_pass_47 ?_
    obtain ⟨p4, hp5, h⟩ := sl_bind h
    have hc6 := bWork_passMinute (G := G) (E := (eD E o ro)) (o := o + 1) (s := (sm_lo 1 s)) (mi := (sm_gl o 432 s mi)) ((g.e ro).2.2.2.1.1)  hp5
    rw [gl_in (o := o) (D := 1) (ha := (rfl : o + 1 = o + 1)) (hD := (by omega : 1 + 61 ≤ 432)), gl_out (o := o) (D := 1) (ha := (rfl : o + 1 = o + 1)) (hD := (by omega : 1 + 61 ≤ 432))] at hc6
    refine sc_callS1 (avs := [.inr (o + 1)]) (st := [.inl z2]) lk_RX9_164 rfl sf_X8_passMinute hc6 ⟨(Nat.le_of_ble_eq_true rfl), (Nat.le_of_ble_eq_true rfl)⟩ ⟨rfl, (Nat.le_of_ble_eq_true rfl)⟩ rfl dX9_pass_50 ?_
    obtain ⟨s7, hs8, h⟩ := sl_bind h
    rw [Option.some.inj hs8]
    refine sm_iadd dX9_pass_53 ?_
    refine sm_istore_n dX9_pass_54 (Nat.le_of_ble_eq_true rfl) ?_
    refine sm_iinc dX9_pass_55 (Nat.le_of_ble_eq_true rfl) rfl ?_
    refine sm_goto 40 dX9_pass_58 rfl ?_
    cases h
    exact sm_less (lv' := [some (.inr o), some (.inl z1), some (.inl (z2 + p4.1)), some (.inl (z3 + 1))]) ⟨rfl, rfl, rfl, rfl, trivial⟩ hK
def fDesk_pass (z1 : Int) (s : MI) (ro : Nat → Nat) : Option (Int × MI × (Nat → Nat)) :=
  (if sm_w z1 < 1 then some ((-2), s, ro) else (if sm_w z1 ≤ 120 then (if sm_w ((s 1 11) + z1) ≤ 2880 then Option.bind (fDesk_record s ro) (fun p1 => Option.bind (sl_it (fun (t : Int × Int × MI) => fDesk_pass_l40 z1 t.1 t.2.1 t.2.2 p1.2) sl_fu (0, 0, p1.1)) (fun x12 => some (x12.1, x12.2, p1.2))) else some ((-4), s, ro)) else some ((-2), s, ro)))
set_option maxRecDepth 100000 in
set_option maxHeartbeats 4000000 in
theorem bDesk_pass {G : GT} {E : ET} {o : Nat} {s mi : MI} {ro : Nat → Nat} {z1 : Int} {w : Int × MI × (Nat → Nat)} (g : gD E o)  (h : fDesk_pass z1 s ro = some w) : cN G yX9_pass cX9_pass 4 (some .int) 6 145 [.inr o, .inl z1] (eD E o ro) (sm_gl o 432 s mi) (some (.inl w.1), eD E o w.2.2, sm_gl o 432 w.2.1 mi) := by
  have hN1 := g.1
  have hN2 := (g.e ro).2.1
  unfold fDesk_pass at h
  refine sm_meth (by decide +kernel) (Nat.le_of_ble_eq_true rfl) ?_
  show sM (xDesk_pass G) 0 [some (.inr o), some (.inl z1), none, none] [] (eD E o ro) (sm_gl o 432 s mi) _
  refine sm_iload_n dX9_pass_0 rfl ?_
  refine sm_iconst dX9_pass_1 ?_
  refine sc_icmp_lt (X' := sm_w z1) (Y' := 1) 11 dX9_pass_2 rfl rfl (by decide) (fun c15 => ?_) (fun c15 => ?_)
  · rw [if_pos c15] at h
    refine sm_bipush dX9_pass_11 rfl ?_
    cases h
    exact sm_ireturn dX9_pass_13 (Or.inl rfl)
  · rw [if_neg c15] at h
    refine sm_iload_n dX9_pass_5 rfl ?_
    refine sm_bipush dX9_pass_6 rfl ?_
    refine sc_icmp_le (X' := sm_w z1) (Y' := 120) 14 dX9_pass_8 rfl rfl (by decide) (fun c14 => ?_) (fun c14 => ?_)
    · rw [if_pos c14] at h
      refine sm_aload_n dX9_pass_14 rfl ?_
      refine sm_getR lf_RX9_10 fR_6_0 (g.e ro).2.2.1 (by omega) (g.e ro).2.2.2.1.2 dX9_pass_15 ?_
      refine sl_getI (D := 1) lf_RX9_122 fI_5_11 ((g.e ro).2.2.2.1.1).2.2.1 rfl (by omega) hN2 dX9_pass_18 ?_
      refine sm_iload_n dX9_pass_21 rfl ?_
      refine sm_iadd dX9_pass_22 ?_
      refine sm_sipush dX9_pass_23 rfl ?_
      refine sc_icmp_le (X' := sm_w ((s 1 11) + z1)) (Y' := 2880) 32 dX9_pass_26 rfl rfl (by decide) (fun c13 => ?_) (fun c13 => ?_)
      · rw [if_pos c13] at h
        refine sm_aload_n dX9_pass_32 rfl ?_
        obtain ⟨p1, hp2, h⟩ := sl_bind h
        have hc3 := bDesk_record (G := G) (E := E) (o := o) (s := s) (mi := mi) (ro := ro) g  hp2
        refine sc_callV0 (avs := []) (st := []) lk_RX9_51 rfl vf_X9_record hc3 ⟨(Nat.le_of_ble_eq_true rfl), (Nat.le_of_ble_eq_true rfl)⟩ ⟨rfl, (Nat.le_of_ble_eq_true rfl)⟩ (g.e p1.2).2.2.1 (by omega) rfl dX9_pass_33 ?_
        have hN2 := (g.e p1.2).2.1
        refine sm_iconst dX9_pass_36 ?_
        refine sm_istore_n dX9_pass_37 (Nat.le_of_ble_eq_true rfl) ?_
        refine sm_iconst dX9_pass_38 ?_
        refine sm_istore_n dX9_pass_39 (Nat.le_of_ble_eq_true rfl) ?_
        obtain ⟨x12, hy11, h⟩ := sl_bind h
        refine sm_less (lv' := [some (.inr o), some (.inl z1), some (.inl 0), some (.inl 0)]) ⟨rfl, rfl, rfl, rfl, trivial⟩ (sl_itE (P := qDesk_pass_l40 G E o mi z1 p1.2 _) (K := kDesk_pass_l40 G E o mi z1 p1.2 _) (fun t q hq hk => bDesk_pass_l40 g  hq hk) sl_fu _ x12 hy11 ?_)
        show sM (xDesk_pass G) 61 [none, none, some (.inl x12.1), none] [] (eD E o p1.2) (sm_gl o 432 x12.2 mi) _
        refine sm_iload_n dX9_pass_61 rfl ?_
        cases h
        exact sm_ireturn dX9_pass_62 (Or.inl rfl)
      · rw [if_neg c13] at h
        refine sm_bipush dX9_pass_29 rfl ?_
        cases h
        exact sm_ireturn dX9_pass_31 (Or.inl rfl)
    · rw [if_neg c14] at h
      refine sm_bipush dX9_pass_11 rfl ?_
      cases h
      exact sm_ireturn dX9_pass_13 (Or.inl rfl)
abbrev xDesk_type (G : GT) : XT := (G, yX9_type.cls, cX9_type, 2, (some .int), decide (yX9_type.name = "<init>"), 1, 21)
def fDesk_type (z1 : Int) (s : MI) : Option (Int × MI) :=
  Option.bind (fText_append z1 (sm_lo 185 s)) (fun p1 => Option.bind (some (sm_gl 185 3 p1.2 s)) (fun s4 => (if sm_w p1.1 = 0 then some ((-3), s4) else some ((s4 185 1), s4))))
set_option maxRecDepth 100000 in
set_option maxHeartbeats 4000000 in
theorem bDesk_type {G : GT} {E : ET} {o : Nat} {s mi : MI} {z1 : Int} {w : Int × MI} (g : gD E o)  (h : fDesk_type z1 s = some w) : cN G yX9_type cX9_type 2 (some .int) 1 21 [.inr o, .inl z1] E (sm_gl o 432 s mi) (some (.inl w.1), E, sm_gl o 432 w.2 mi) := by
  have hN1 := g.1
  have hN2 := g.2.1
  unfold fDesk_type at h
  refine sm_meth (by decide +kernel) (Nat.le_of_ble_eq_true rfl) ?_
  show sM (xDesk_type G) 0 [some (.inr o), some (.inl z1)] [] E (sm_gl o 432 s mi) _
  refine sm_aload_n dX9_type_0 rfl ?_
  refine sm_getR lf_RX9_29 fR_6_6 g.2.2.1 (by omega) g.2.2.2.2.2.2.2.1.2 dX9_type_1 ?_
  refine sm_iload_n dX9_type_4 rfl ?_
  obtain ⟨p1, hp2, h⟩ := sl_bind h
  have hc3 := bText_append (G := G) (E := E) (o := o + 185) (s := (sm_lo 185 s)) (mi := (sm_gl o 432 s mi)) g.2.2.2.2.2.2.2.1.1  hp2
  rw [gl_in (o := o) (D := 185) (ha := (rfl : o + 185 = o + 185)) (hD := (by omega : 185 + 3 ≤ 432)), gl_out (o := o) (D := 185) (ha := (rfl : o + 185 = o + 185)) (hD := (by omega : 185 + 3 ≤ 432))] at hc3
  refine sc_callV1 (avs := [.inl z1]) (st := []) lk_RX9_170 rfl vf_X2_append hc3 ⟨(Nat.le_of_ble_eq_true rfl), (Nat.le_of_ble_eq_true rfl)⟩ ⟨rfl, (Nat.le_of_ble_eq_true rfl)⟩ g.2.2.2.2.2.2.2.1.1.2.2.1 (by omega) rfl dX9_type_5 ?_
  obtain ⟨s4, hs5, h⟩ := sl_bind h
  rw [Option.some.inj hs5]
  refine sm_if_eq 21 dX9_type_8 rfl (fun c6 => ?_) (fun c6 => ?_)
  · rw [if_pos c6] at h
    refine sm_bipush dX9_type_21 rfl ?_
    cases h
    exact sm_ireturn dX9_type_23 (Or.inl rfl)
  · rw [if_neg c6] at h
    refine sm_aload_n dX9_type_11 rfl ?_
    refine sm_getR lf_RX9_29 fR_6_6 g.2.2.1 (by omega) g.2.2.2.2.2.2.2.1.2 dX9_type_12 ?_
    refine sl_getI (D := 185) lf_RX9_174 fI_1_1 g.2.2.2.2.2.2.2.1.1.2.2.1 rfl (by omega) hN2 dX9_type_15 ?_
    refine sm_goto 23 dX9_type_18 rfl ?_
    cases h
    exact sm_ireturn dX9_type_23 (Or.inl rfl)
abbrev xDesk_clearText (G : GT) : XT := (G, yX9_clearText.cls, cX9_clearText, 2, (some .int), decide (yX9_clearText.name = "<init>"), 0, 0)
def fDesk_clearText  (s : MI) : Option (Int × MI) :=
  Option.bind (some (sm_up s 185 1 0)) (fun s1 => some ((s 185 1), s1))
set_option maxRecDepth 100000 in
set_option maxHeartbeats 4000000 in
theorem bDesk_clearText {G : GT} {E : ET} {o : Nat} {s mi : MI}  {w : Int × MI} (g : gD E o)  (h : fDesk_clearText s = some w) : cN G yX9_clearText cX9_clearText 2 (some .int) 0 0 [.inr o] E (sm_gl o 432 s mi) (some (.inl w.1), E, sm_gl o 432 w.2 mi) := by
  have hN1 := g.1
  have hN2 := g.2.1
  unfold fDesk_clearText at h
  refine sm_meth (by decide +kernel) (Nat.le_of_ble_eq_true rfl) ?_
  show sM (xDesk_clearText G) 0 [some (.inr o), none] [] E (sm_gl o 432 s mi) _
  refine sm_aload_n dX9_clearText_0 rfl ?_
  refine sm_getR lf_RX9_29 fR_6_6 g.2.2.1 (by omega) g.2.2.2.2.2.2.2.1.2 dX9_clearText_1 ?_
  refine sl_getI (D := 185) lf_RX9_174 fI_1_1 g.2.2.2.2.2.2.2.1.1.2.2.1 rfl (by omega) hN2 dX9_clearText_4 ?_
  refine sm_istore_n dX9_clearText_7 (Nat.le_of_ble_eq_true rfl) ?_
  refine sm_aload_n dX9_clearText_8 rfl ?_
  refine sm_getR lf_RX9_29 fR_6_6 g.2.2.1 (by omega) g.2.2.2.2.2.2.2.1.2 dX9_clearText_9 ?_
  refine sm_iconst dX9_clearText_12 ?_
  refine sl_putI (D := 185) lf_RX9_174 fP_1_1 (Or.inl rfl) g.2.2.2.2.2.2.2.1.1.2.2.1 rfl (by omega) ⟨hN1, hN2⟩ dX9_clearText_13 ?_
  obtain ⟨s1, hs2, h⟩ := sl_bind h
  rw [Option.some.inj hs2]
  refine sm_iload_n dX9_clearText_16 rfl ?_
  cases h
  exact sm_ireturn dX9_clearText_17 (Or.inl rfl)
abbrev xDesk_takeAll (G : GT) : XT := (G, yX9_takeAll.cls, cX9_takeAll, 7, (some .int), decide (yX9_takeAll.name = "<init>"), 4, 91)
abbrev qDesk_takeAll_l2 (G : GT) (E : ET) (o : Nat) (mi : MI)  (r : RT) (t : Int × MI) : Prop := sM (xDesk_takeAll G) 2 [some (.inr o), some (.inr (o + 123)), some (.inl t.1), none, none, none, none] [] E (sm_gl o 432 t.2 mi) r
abbrev kDesk_takeAll_l2 (G : GT) (E : ET) (o : Nat) (mi : MI)  (r : RT) : (MI) ⊕ (Int × MI) → Prop := Sum.elim (fun x => sM (xDesk_takeAll G) 80 [none, none, none, none, none, none, none] [] E (sm_gl o 432 x mi) r) (fun v => (some (.inl v.1), E, sm_gl o 432 v.2 mi) = r)
def fDesk_takeAll_l2 (z2 : Int) (s : MI) : Option ((Int × MI) ⊕ ((MI) ⊕ (Int × MI))) :=
  Option.bind (fText_calls (sm_lo 185 s)) (fun p21 => (if sm_w p21 ≤ sm_w z2 then some (.inr (.inl s)) else Option.bind (fText_number z2 0 (sm_lo 185 s)) (fun p24 => Option.bind (fText_number z2 1 (sm_lo 185 s)) (fun p27 => Option.bind (fText_number z2 2 (sm_lo 185 s)) (fun p30 => Option.bind (fState_refusal p24 p27 p30 (sm_lo 123 s)) (fun p33 => (if sm_w p33 = 0 then Option.bind (fState_take p24 p27 p30 (sm_lo 123 s)) (fun p36 => Option.bind (some (sm_gl 123 61 p36.2 s)) (fun s39 => some (.inl ((z2 + 1), s39)))) else some (.inr (.inr (p33, s))))))))))
set_option maxRecDepth 100000 in
set_option maxHeartbeats 4000000 in
theorem bDesk_takeAll_l2 {G : GT} {E : ET} {o : Nat} {s mi : MI} {z2 : Int} {r : RT} {w : (Int × MI) ⊕ ((MI) ⊕ (Int × MI))} (g : gD E o)  (h : fDesk_takeAll_l2 z2 s = some w) (hK : Sum.elim (qDesk_takeAll_l2 G E o mi r) (kDesk_takeAll_l2 G E o mi r) w) : qDesk_takeAll_l2 G E o mi r (z2, s) := by
  have hN1 := g.1
  have hN2 := g.2.1
  unfold fDesk_takeAll_l2 at h
  show sM (xDesk_takeAll G) 2 [some (.inr o), some (.inr (o + 123)), some (.inl z2), none, none, none, none] [] E (sm_gl o 432 s mi) r
  refine sm_iload_n dX9_takeAll_2 rfl ?_
  refine sm_aload_n dX9_takeAll_3 rfl ?_
  refine sm_getR lf_RX9_29 fR_6_6 g.2.2.1 (by omega) g.2.2.2.2.2.2.2.1.2 dX9_takeAll_4 ?_
  obtain ⟨p21, hp22, h⟩ := sl_bind h
  have hc23 := bText_calls (G := G) (E := E) (o := o + 185) (s := (sm_lo 185 s)) (mi := (sm_gl o 432 s mi)) g.2.2.2.2.2.2.2.1.1  hp22
  rw [gl_in (o := o) (D := 185) (ha := (rfl : o + 185 = o + 185)) (hD := (by omega : 185 + 3 ≤ 432))] at hc23
  refine sc_callV1 (avs := []) (st := [.inl z2]) lk_RX9_187 rfl vf_X2_calls hc23 ⟨(Nat.le_of_ble_eq_true rfl), (Nat.le_of_ble_eq_true rfl)⟩ ⟨rfl, (Nat.le_of_ble_eq_true rfl)⟩ g.2.2.2.2.2.2.2.1.1.2.2.1 (by omega) rfl dX9_takeAll_7 ?_
  refine sc_icmp_ge (X' := sm_w z2) (Y' := sm_w p21) 80 dX9_takeAll_10 rfl rfl rfl (fun c42 => ?_) (fun c42 => ?_)
  · rw [if_pos c42] at h
    cases h
    exact sm_less (lv' := [none, none, none, none, none, none, none]) trivial hK
  · rw [if_neg c42] at h
    refine sm_aload_n dX9_takeAll_13 rfl ?_
    refine sm_getR lf_RX9_29 fR_6_6 g.2.2.1 (by omega) g.2.2.2.2.2.2.2.1.2 dX9_takeAll_14 ?_
    refine sm_iload_n dX9_takeAll_17 rfl ?_
    refine sm_iconst dX9_takeAll_18 ?_
    obtain ⟨p24, hp25, h⟩ := sl_bind h
    have hc26 := bText_number (G := G) (E := E) (o := o + 185) (s := (sm_lo 185 s)) (mi := (sm_gl o 432 s mi)) g.2.2.2.2.2.2.2.1.1  hp25
    rw [gl_in (o := o) (D := 185) (ha := (rfl : o + 185 = o + 185)) (hD := (by omega : 185 + 3 ≤ 432))] at hc26
    refine sc_callV1 (avs := [.inl z2, .inl 0]) (st := []) lk_RX9_189 rfl vf_X2_number hc26 ⟨(Nat.le_of_ble_eq_true rfl), (Nat.le_of_ble_eq_true rfl)⟩ ⟨rfl, (Nat.le_of_ble_eq_true rfl)⟩ g.2.2.2.2.2.2.2.1.1.2.2.1 (by omega) rfl dX9_takeAll_19 ?_
    refine sm_istore_n dX9_takeAll_22 (Nat.le_of_ble_eq_true rfl) ?_
    refine sm_aload_n dX9_takeAll_23 rfl ?_
    refine sm_getR lf_RX9_29 fR_6_6 g.2.2.1 (by omega) g.2.2.2.2.2.2.2.1.2 dX9_takeAll_24 ?_
    refine sm_iload_n dX9_takeAll_27 rfl ?_
    refine sm_iconst dX9_takeAll_28 ?_
    obtain ⟨p27, hp28, h⟩ := sl_bind h
    have hc29 := bText_number (G := G) (E := E) (o := o + 185) (s := (sm_lo 185 s)) (mi := (sm_gl o 432 s mi)) g.2.2.2.2.2.2.2.1.1  hp28
    rw [gl_in (o := o) (D := 185) (ha := (rfl : o + 185 = o + 185)) (hD := (by omega : 185 + 3 ≤ 432))] at hc29
    refine sc_callV1 (avs := [.inl z2, .inl 1]) (st := []) lk_RX9_189 rfl vf_X2_number hc29 ⟨(Nat.le_of_ble_eq_true rfl), (Nat.le_of_ble_eq_true rfl)⟩ ⟨rfl, (Nat.le_of_ble_eq_true rfl)⟩ g.2.2.2.2.2.2.2.1.1.2.2.1 (by omega) rfl dX9_takeAll_29 ?_
    refine sm_istore dX9_takeAll_32 (Nat.le_of_ble_eq_true rfl) ?_
    refine sm_aload_n dX9_takeAll_34 rfl ?_
    refine sm_getR lf_RX9_29 fR_6_6 g.2.2.1 (by omega) g.2.2.2.2.2.2.2.1.2 dX9_takeAll_35 ?_
    refine sm_iload_n dX9_takeAll_38 rfl ?_
    refine sm_iconst dX9_takeAll_39 ?_
    obtain ⟨p30, hp31, h⟩ := sl_bind h
    have hc32 := bText_number (G := G) (E := E) (o := o + 185) (s := (sm_lo 185 s)) (mi := (sm_gl o 432 s mi)) g.2.2.2.2.2.2.2.1.1  hp31
    rw [gl_in (o := o) (D := 185) (ha := (rfl : o + 185 = o + 185)) (hD := (by omega : 185 + 3 ≤ 432))] at hc32
    refine sc_callV1 (avs := [.inl z2, .inl 2]) (st := []) lk_RX9_189 rfl vf_X2_number hc32 ⟨(Nat.le_of_ble_eq_true rfl), (Nat.le_of_ble_eq_true rfl)⟩ ⟨rfl, (Nat.le_of_ble_eq_true rfl)⟩ g.2.2.2.2.2.2.2.1.1.2.2.1 (by omega) rfl dX9_takeAll_40 ?_
    refine sm_istore dX9_takeAll_43 (Nat.le_of_ble_eq_true rfl) ?_
    refine sm_aload_n dX9_takeAll_45 rfl ?_
    refine sm_iload_n dX9_takeAll_46 rfl ?_
    refine sm_iload dX9_takeAll_47 rfl ?_
    refine sm_iload dX9_takeAll_49 rfl ?_
    obtain ⟨p33, hp34, h⟩ := sl_bind h
    have hc35 := bState_refusal (G := G) (E := E) (o := o + 123) (s := (sm_lo 123 s)) (mi := (sm_gl o 432 s mi)) g.2.2.2.2.2.1.1  hp34
    rw [gl_in (o := o) (D := 123) (ha := (rfl : o + 123 = o + 123)) (hD := (by omega : 123 + 61 ≤ 432))] at hc35
    refine sc_callV1 (avs := [.inl p24, .inl p27, .inl p30]) (st := []) lk_RX9_88 rfl vf_X7_refusal hc35 ⟨(Nat.le_of_ble_eq_true rfl), (Nat.le_of_ble_eq_true rfl)⟩ ⟨rfl, (Nat.le_of_ble_eq_true rfl)⟩ g.2.2.2.2.2.1.1.2.2.1 (by omega) rfl dX9_takeAll_51 ?_
    refine sm_istore dX9_takeAll_54 (Nat.le_of_ble_eq_true rfl) ?_
    refine sm_iload dX9_takeAll_56 rfl ?_
    refine sm_if_eq 64 dX9_takeAll_58 rfl (fun c41 => ?_) (fun c41 => ?_)
    · rw [if_pos c41] at h
      refine sm_aload_n dX9_takeAll_64 rfl ?_
      refine sm_iload_n dX9_takeAll_65 rfl ?_
      refine sm_iload dX9_takeAll_66 rfl ?_
      refine sm_iload dX9_takeAll_68 rfl ?_
      obtain ⟨p36, hp37, h⟩ := sl_bind h
      have hc38 := bState_take (G := G) (E := E) (o := o + 123) (s := (sm_lo 123 s)) (mi := (sm_gl o 432 s mi)) g.2.2.2.2.2.1.1  hp37
      rw [gl_in (o := o) (D := 123) (ha := (rfl : o + 123 = o + 123)) (hD := (by omega : 123 + 61 ≤ 432)), gl_out (o := o) (D := 123) (ha := (rfl : o + 123 = o + 123)) (hD := (by omega : 123 + 61 ≤ 432))] at hc38
      refine sc_callV1 (avs := [.inl p24, .inl p27, .inl p30]) (st := []) lk_RX9_91 rfl vf_X7_take hc38 ⟨(Nat.le_of_ble_eq_true rfl), (Nat.le_of_ble_eq_true rfl)⟩ ⟨rfl, (Nat.le_of_ble_eq_true rfl)⟩ g.2.2.2.2.2.1.1.2.2.1 (by omega) rfl dX9_takeAll_70 ?_
      obtain ⟨s39, hs40, h⟩ := sl_bind h
      rw [Option.some.inj hs40]
      refine sm_pop dX9_takeAll_73 ?_
      refine sm_iinc dX9_takeAll_74 (Nat.le_of_ble_eq_true rfl) rfl ?_
      refine sm_goto 2 dX9_takeAll_77 rfl ?_
      cases h
      exact sm_less (lv' := [some (.inr o), some (.inr (o + 123)), some (.inl (z2 + 1)), none, none, none, none]) ⟨rfl, rfl, rfl, trivial⟩ hK
    · rw [if_neg c41] at h
      refine sm_iload dX9_takeAll_61 rfl ?_
      cases h
      have hK : (some (.inl (p33, s).1), E, sm_gl o 432 (p33, s).2 mi) = r := hK
      subst hK
      exact sm_ireturn dX9_takeAll_63 (Or.inl rfl)
def fDesk_takeAll  (s : MI) : Option (Int × MI) :=
  Option.bind (sl_it (fun (t : Int × MI) => fDesk_takeAll_l2 t.1 t.2) sl_fu (0, s)) (fun y43 => Sum.elim (fun x45 => some (0, x45)) (fun v46 => some v46) y43)
set_option maxRecDepth 100000 in
set_option maxHeartbeats 4000000 in
theorem bDesk_takeAll {G : GT} {E : ET} {o : Nat} {s mi : MI}  {w : Int × MI} (g : gD E o)  (h : fDesk_takeAll s = some w) : cN G yX9_takeAll cX9_takeAll 7 (some .int) 4 91 [.inr o, .inr (o + 123)] E (sm_gl o 432 s mi) (some (.inl w.1), E, sm_gl o 432 w.2 mi) := by
  have hN1 := g.1
  have hN2 := g.2.1
  unfold fDesk_takeAll at h
  refine sm_meth (by decide +kernel) (Nat.le_of_ble_eq_true rfl) ?_
  show sM (xDesk_takeAll G) 0 [some (.inr o), some (.inr (o + 123)), none, none, none, none, none] [] E (sm_gl o 432 s mi) _
  refine sm_iconst dX9_takeAll_0 ?_
  refine sm_istore_n dX9_takeAll_1 (Nat.le_of_ble_eq_true rfl) ?_
  obtain ⟨y43, hy44, h⟩ := sl_bind h
  refine sm_less (lv' := [some (.inr o), some (.inr (o + 123)), some (.inl 0), none, none, none, none]) ⟨rfl, rfl, rfl, trivial⟩ (sl_itE (P := qDesk_takeAll_l2 G E o mi _) (K := kDesk_takeAll_l2 G E o mi _) (fun t q hq hk => bDesk_takeAll_l2 g  hq hk) sl_fu _ y43 hy44 ?_)
  rcases y43 with x45 | v46
  · show sM (xDesk_takeAll G) 80 [none, none, none, none, none, none, none] [] E (sm_gl o 432 x45 mi) _
    dsimp only [Sum.elim_inl] at h
    refine sm_iconst dX9_takeAll_80 ?_
    cases h
    exact sm_ireturn dX9_takeAll_81 (Or.inl rfl)
  · dsimp only [Sum.elim_inr] at h
    cases h
    exact rfl
abbrev xDesk_readCalls (G : GT) : XT := (G, yX9_readCalls.cls, cX9_readCalls, 3, (some .int), decide (yX9_readCalls.name = "<init>"), 5, 117)
def fDesk_readCalls  (s : MI) (ro : Nat → Nat) : Option (Int × MI × (Nat → Nat)) :=
  Option.bind (fText_read (sm_lo 185 s)) (fun p1 => Option.bind (some (sm_gl 185 3 p1.2 s)) (fun s4 => (if sm_w p1.1 = (-1) then Option.bind (fState_copyFrom (sm_lo 123 s4) (sm_lo 1 s4)) (fun p6 => Option.bind (some (sm_gl 123 61 p6 s4)) (fun s9 => Option.bind (fDesk_takeAll s9) (fun p11 => (if sm_w p11.1 = 0 then Option.bind (fDesk_record p11.2 ro) (fun p14 => Option.bind (fState_copyFrom (sm_lo 1 p14.1) (sm_lo 123 p14.1)) (fun p17 => Option.bind (some (sm_gl 1 61 p17 p14.1)) (fun s20 => Option.bind (fText_calls (sm_lo 185 s20)) (fun p22 => some (p22, s20, p14.2))))) else some (p11.1, p11.2, ro))))) else some (((-100) - p1.1), s4, ro))))
set_option maxRecDepth 100000 in
set_option maxHeartbeats 4000000 in
theorem bDesk_readCalls {G : GT} {E : ET} {o : Nat} {s mi : MI} {ro : Nat → Nat}  {w : Int × MI × (Nat → Nat)} (g : gD E o) (gk : gK E mi)  (h : fDesk_readCalls s ro = some w) : cN G yX9_readCalls cX9_readCalls 3 (some .int) 5 117 [.inr o] (eD E o ro) (sm_gl o 432 s mi) (some (.inl w.1), eD E o w.2.2, sm_gl o 432 w.2.1 mi) := by
  have hN1 := g.1
  have hN2 := (g.e ro).2.1
  unfold fDesk_readCalls at h
  refine sm_meth (by decide +kernel) (Nat.le_of_ble_eq_true rfl) ?_
  show sM (xDesk_readCalls G) 0 [some (.inr o), none, none] [] (eD E o ro) (sm_gl o 432 s mi) _
  refine sm_aload_n dX9_readCalls_0 rfl ?_
  refine sm_getR lf_RX9_29 fR_6_6 (g.e ro).2.2.1 (by omega) (g.e ro).2.2.2.2.2.2.2.1.2 dX9_readCalls_1 ?_
  obtain ⟨p1, hp2, h⟩ := sl_bind h
  have hc3 := bText_read (G := G) (E := (eD E o ro)) (o := o + 185) (s := (sm_lo 185 s)) (mi := (sm_gl o 432 s mi)) ((g.e ro).2.2.2.2.2.2.2.1.1) (gk.gl hN1)  hp2
  rw [gl_in (o := o) (D := 185) (ha := (rfl : o + 185 = o + 185)) (hD := (by omega : 185 + 3 ≤ 432)), gl_out (o := o) (D := 185) (ha := (rfl : o + 185 = o + 185)) (hD := (by omega : 185 + 3 ≤ 432))] at hc3
  refine sc_callV1 (avs := []) (st := []) lk_RX9_177 rfl vf_X2_read hc3 ⟨(Nat.le_of_ble_eq_true rfl), (Nat.le_of_ble_eq_true rfl)⟩ ⟨rfl, (Nat.le_of_ble_eq_true rfl)⟩ ((g.e ro).2.2.2.2.2.2.2.1.1).2.2.1 (by omega) rfl dX9_readCalls_4 ?_
  obtain ⟨s4, hs5, h⟩ := sl_bind h
  rw [Option.some.inj hs5]
  refine sm_istore_n dX9_readCalls_7 (Nat.le_of_ble_eq_true rfl) ?_
  refine sm_iload_n dX9_readCalls_8 rfl ?_
  refine sm_iconst dX9_readCalls_9 ?_
  refine sc_icmp_eq (X' := sm_w p1.1) (Y' := (-1)) 18 dX9_readCalls_10 rfl rfl (by decide) (fun c26 => ?_) (fun c26 => ?_)
  · rw [if_pos c26] at h
    refine sm_aload_n dX9_readCalls_18 rfl ?_
    refine sm_getR lf_RX9_19 fR_6_2 (g.e ro).2.2.1 (by omega) (g.e ro).2.2.2.2.2.1.2 dX9_readCalls_19 ?_
    refine sm_aload_n dX9_readCalls_22 rfl ?_
    refine sm_getR lf_RX9_10 fR_6_0 (g.e ro).2.2.1 (by omega) (g.e ro).2.2.2.1.2 dX9_readCalls_23 ?_
    obtain ⟨p6, hp7, h⟩ := sl_bind h
    have hc8 := bState_copyFrom (G := G) (E := (eD E o ro)) (o := o + 123) (s := (sm_lo 123 s4)) (mi := (sm_gl o 432 s4 mi)) (o2 := o + 1) (s2 := (sm_lo 1 s4)) ((g.e ro).2.2.2.2.2.1.1) ((g.e ro).2.2.2.1.1) (g2_in (by omega) (by omega))  hp7
    rw [gl_in (o := o) (D := 123) (ha := (rfl : o + 123 = o + 123)) (hD := (by omega : 123 + 61 ≤ 432)), gl_out (o := o) (D := 123) (ha := (rfl : o + 123 = o + 123)) (hD := (by omega : 123 + 61 ≤ 432))] at hc8
    refine sc_callV0 (avs := [.inr (o + 1)]) (st := []) lk_RX9_180 rfl vf_X7_copyFrom hc8 ⟨(Nat.le_of_ble_eq_true rfl), (Nat.le_of_ble_eq_true rfl)⟩ ⟨rfl, (Nat.le_of_ble_eq_true rfl)⟩ ((g.e ro).2.2.2.2.2.1.1).2.2.1 (by omega) rfl dX9_readCalls_26 ?_
    obtain ⟨s9, hs10, h⟩ := sl_bind h
    rw [Option.some.inj hs10]
    refine sm_aload_n dX9_readCalls_29 rfl ?_
    refine sm_aload_n dX9_readCalls_30 rfl ?_
    refine sm_getR lf_RX9_19 fR_6_2 (g.e ro).2.2.1 (by omega) (g.e ro).2.2.2.2.2.1.2 dX9_readCalls_31 ?_
    obtain ⟨p11, hp12, h⟩ := sl_bind h
    have hc13 := bDesk_takeAll (G := G) (E := (eD E o ro)) (o := o) (s := s9) (mi := mi) (g.e ro)  hp12
    refine sc_callV1 (avs := [.inr (o + 123)]) (st := []) lk_RX9_184 rfl vf_X9_takeAll hc13 ⟨(Nat.le_of_ble_eq_true rfl), (Nat.le_of_ble_eq_true rfl)⟩ ⟨rfl, (Nat.le_of_ble_eq_true rfl)⟩ (g.e ro).2.2.1 (by omega) rfl dX9_readCalls_34 ?_
    refine sm_istore_n dX9_readCalls_37 (Nat.le_of_ble_eq_true rfl) ?_
    refine sm_iload_n dX9_readCalls_38 rfl ?_
    refine sm_if_eq 44 dX9_readCalls_39 rfl (fun c25 => ?_) (fun c25 => ?_)
    · rw [if_pos c25] at h
      refine sm_aload_n dX9_readCalls_44 rfl ?_
      obtain ⟨p14, hp15, h⟩ := sl_bind h
      have hc16 := bDesk_record (G := G) (E := E) (o := o) (s := p11.2) (mi := mi) (ro := ro) g  hp15
      refine sc_callV0 (avs := []) (st := []) lk_RX9_51 rfl vf_X9_record hc16 ⟨(Nat.le_of_ble_eq_true rfl), (Nat.le_of_ble_eq_true rfl)⟩ ⟨rfl, (Nat.le_of_ble_eq_true rfl)⟩ (g.e p14.2).2.2.1 (by omega) rfl dX9_readCalls_45 ?_
      have hN2 := (g.e p14.2).2.1
      refine sm_aload_n dX9_readCalls_48 rfl ?_
      refine sm_getR lf_RX9_10 fR_6_0 (g.e p14.2).2.2.1 (by omega) (g.e p14.2).2.2.2.1.2 dX9_readCalls_49 ?_
      refine sm_aload_n dX9_readCalls_52 rfl ?_
      refine sm_getR lf_RX9_19 fR_6_2 (g.e p14.2).2.2.1 (by omega) (g.e p14.2).2.2.2.2.2.1.2 dX9_readCalls_53 ?_
      obtain ⟨p17, hp18, h⟩ := sl_bind h
      have hc19 := bState_copyFrom (G := G) (E := (eD E o p14.2)) (o := o + 1) (s := (sm_lo 1 p14.1)) (mi := (sm_gl o 432 p14.1 mi)) (o2 := o + 123) (s2 := (sm_lo 123 p14.1)) ((g.e p14.2).2.2.2.1.1) ((g.e p14.2).2.2.2.2.2.1.1) (g2_in (by omega) (by omega))  hp18
      rw [gl_in (o := o) (D := 1) (ha := (rfl : o + 1 = o + 1)) (hD := (by omega : 1 + 61 ≤ 432)), gl_out (o := o) (D := 1) (ha := (rfl : o + 1 = o + 1)) (hD := (by omega : 1 + 61 ≤ 432))] at hc19
      refine sc_callV0 (avs := [.inr (o + 123)]) (st := []) lk_RX9_180 rfl vf_X7_copyFrom hc19 ⟨(Nat.le_of_ble_eq_true rfl), (Nat.le_of_ble_eq_true rfl)⟩ ⟨rfl, (Nat.le_of_ble_eq_true rfl)⟩ ((g.e p14.2).2.2.2.1.1).2.2.1 (by omega) rfl dX9_readCalls_56 ?_
      obtain ⟨s20, hs21, h⟩ := sl_bind h
      rw [Option.some.inj hs21]
      refine sm_aload_n dX9_readCalls_59 rfl ?_
      refine sm_getR lf_RX9_29 fR_6_6 (g.e p14.2).2.2.1 (by omega) (g.e p14.2).2.2.2.2.2.2.2.1.2 dX9_readCalls_60 ?_
      obtain ⟨p22, hp23, h⟩ := sl_bind h
      have hc24 := bText_calls (G := G) (E := (eD E o p14.2)) (o := o + 185) (s := (sm_lo 185 s20)) (mi := (sm_gl o 432 s20 mi)) ((g.e p14.2).2.2.2.2.2.2.2.1.1)  hp23
      rw [gl_in (o := o) (D := 185) (ha := (rfl : o + 185 = o + 185)) (hD := (by omega : 185 + 3 ≤ 432))] at hc24
      refine sc_callV1 (avs := []) (st := []) lk_RX9_187 rfl vf_X2_calls hc24 ⟨(Nat.le_of_ble_eq_true rfl), (Nat.le_of_ble_eq_true rfl)⟩ ⟨rfl, (Nat.le_of_ble_eq_true rfl)⟩ ((g.e p14.2).2.2.2.2.2.2.2.1.1).2.2.1 (by omega) rfl dX9_readCalls_63 ?_
      cases h
      exact sm_ireturn dX9_readCalls_66 (Or.inl rfl)
    · rw [if_neg c25] at h
      refine sm_iload_n dX9_readCalls_42 rfl ?_
      cases h
      exact sm_ireturn dX9_readCalls_43 (Or.inl rfl)
  · rw [if_neg c26] at h
    refine sm_bipush dX9_readCalls_13 rfl ?_
    refine sm_iload_n dX9_readCalls_15 rfl ?_
    refine sm_isub dX9_readCalls_16 ?_
    cases h
    exact sm_ireturn dX9_readCalls_17 (Or.inl rfl)
abbrev xDesk_undo (G : GT) : XT := (G, yX9_undo.cls, cX9_undo, 1, (some .int), decide (yX9_undo.name = "<init>"), 3, 69)
def fDesk_undo  (s : MI) (ro : Nat → Nat) : Option (Int × MI × (Nat → Nat)) :=
  (if sm_w (s 0 4) < 1 then some ((-5), s, ro) else (if sm_w (s 0 4) ≤ 4 then Option.bind (some (sm_up s 0 4 ((s 0 4) - 1))) (fun s1 => if 0 ≤ sm_w (s1 0 4) ∧ sm_w (s1 0 4) < 4 then if (ro (sm_w (s1 0 4)).toNat) < 4 then Option.bind (fState_copyFrom (sm_lo 1 s1) (sm_lo (188 + 61 * (ro (sm_w (s1 0 4)).toNat)) s1)) (fun p5 => Option.bind (some (sm_gl 1 61 p5 s1)) (fun s8 => some ((s8 0 4), s8, ro))) else none else none) else some ((-5), s, ro)))
set_option maxRecDepth 100000 in
set_option maxHeartbeats 4000000 in
theorem bDesk_undo {G : GT} {E : ET} {o : Nat} {s mi : MI} {ro : Nat → Nat}  {w : Int × MI × (Nat → Nat)} (g : gD E o)  (h : fDesk_undo s ro = some w) : cN G yX9_undo cX9_undo 1 (some .int) 3 69 [.inr o] (eD E o ro) (sm_gl o 432 s mi) (some (.inl w.1), eD E o w.2.2, sm_gl o 432 w.2.1 mi) := by
  have hN1 := g.1
  have hN2 := (g.e ro).2.1
  unfold fDesk_undo at h
  refine sm_meth (by decide +kernel) (Nat.le_of_ble_eq_true rfl) ?_
  show sM (xDesk_undo G) 0 [some (.inr o)] [] (eD E o ro) (sm_gl o 432 s mi) _
  refine sm_aload_n dX9_undo_0 rfl ?_
  refine sl_getI (D := 0) lf_RX9_192 fI_6_4 (g.e ro).2.2.1 rfl (by omega) hN2 dX9_undo_1 ?_
  refine sm_iconst dX9_undo_4 ?_
  refine sc_icmp_lt (X' := sm_w (s 0 4)) (Y' := 1) 16 dX9_undo_5 rfl rfl (by decide) (fun c11 => ?_) (fun c11 => ?_)
  · rw [if_pos c11] at h
    refine sm_bipush dX9_undo_16 rfl ?_
    cases h
    exact sm_ireturn dX9_undo_18 (Or.inl rfl)
  · rw [if_neg c11] at h
    refine sm_aload_n dX9_undo_8 rfl ?_
    refine sl_getI (D := 0) lf_RX9_192 fI_6_4 (g.e ro).2.2.1 rfl (by omega) hN2 dX9_undo_9 ?_
    refine sm_iconst dX9_undo_12 ?_
    refine sc_icmp_le (X' := sm_w (s 0 4)) (Y' := 4) 19 dX9_undo_13 rfl rfl (by decide) (fun c10 => ?_) (fun c10 => ?_)
    · rw [if_pos c10] at h
      refine sm_aload_n dX9_undo_19 rfl ?_
      refine sm_dup dX9_undo_20 ?_
      refine sl_getI (D := 0) lf_RX9_192 fI_6_4 (g.e ro).2.2.1 rfl (by omega) hN2 dX9_undo_21 ?_
      refine sm_iconst dX9_undo_24 ?_
      refine sm_isub dX9_undo_25 ?_
      refine sl_putI (D := 0) lf_RX9_192 fP_6_4 (Or.inl rfl) (g.e ro).2.2.1 rfl (by omega) ⟨hN1, hN2⟩ dX9_undo_26 ?_
      obtain ⟨s1, hs2, h⟩ := sl_bind h
      rw [Option.some.inj hs2]
      refine sm_aload_n dX9_undo_29 rfl ?_
      refine sm_getR lf_RX9_10 fR_6_0 (g.e ro).2.2.1 (by omega) (g.e ro).2.2.2.1.2 dX9_undo_30 ?_
      refine sm_aload_n dX9_undo_33 rfl ?_
      refine sm_getR lf_RX9_22 fR_6_3 (g.e ro).2.2.1 (by omega) (g.e ro).2.2.2.2.2.2.1.2 dX9_undo_34 ?_
      refine sm_aload_n dX9_undo_37 rfl ?_
      refine sl_getI (D := 0) lf_RX9_192 fI_6_4 (g.e ro).2.2.1 rfl (by omega) hN2 dX9_undo_38 ?_
      obtain ⟨q3, h⟩ := sl_guard h
      have xq3 := (sl_ix (m := 4) q3).2
      obtain ⟨q4, h⟩ := sl_guard h
      refine sl_aald (k := (sm_w (s1 0 4)).toNat) (Or.inr (Or.inr (Or.inr rfl))) (g.e ro).2.2.2.2.2.2.1.1 (by omega) (sl_ix (m := 4) q3) (eD_h (sm_w (s1 0 4)).toNat) dX9_undo_41 ?_
      obtain ⟨p5, hp6, h⟩ := sl_bind h
      have hc7 := bState_copyFrom (G := G) (E := (eD E o ro)) (o := o + 1) (s := (sm_lo 1 s1)) (mi := (sm_gl o 432 s1 mi)) (o2 := o + (188 + 61 * (ro (sm_w (s1 0 4)).toNat))) (s2 := (sm_lo (188 + 61 * (ro (sm_w (s1 0 4)).toNat)) s1)) ((g.e ro).2.2.2.1.1) ((g.e ro).2.2.2.2.2.2.2.2 (ro (sm_w (s1 0 4)).toNat) q4) (g2_in (by omega) (by omega))  hp6
      rw [gl_in (o := o) (D := 1) (ha := (rfl : o + 1 = o + 1)) (hD := (by omega : 1 + 61 ≤ 432)), gl_out (o := o) (D := 1) (ha := (rfl : o + 1 = o + 1)) (hD := (by omega : 1 + 61 ≤ 432))] at hc7
      refine sc_callV0 (avs := [.inr (o + (188 + 61 * (ro (sm_w (s1 0 4)).toNat)))]) (st := []) lk_RX9_180 rfl vf_X7_copyFrom hc7 ⟨(Nat.le_of_ble_eq_true rfl), (Nat.le_of_ble_eq_true rfl)⟩ ⟨rfl, (Nat.le_of_ble_eq_true rfl)⟩ ((g.e ro).2.2.2.1.1).2.2.1 (by omega) rfl dX9_undo_42 ?_
      obtain ⟨s8, hs9, h⟩ := sl_bind h
      rw [Option.some.inj hs9]
      refine sm_aload_n dX9_undo_45 rfl ?_
      refine sl_getI (D := 0) lf_RX9_192 fI_6_4 (g.e ro).2.2.1 rfl (by omega) hN2 dX9_undo_46 ?_
      cases h
      exact sm_ireturn dX9_undo_49 (Or.inl rfl)
    · rw [if_neg c10] at h
      refine sm_bipush dX9_undo_16 rfl ?_
      cases h
      exact sm_ireturn dX9_undo_18 (Or.inl rfl)
abbrev xDesk_keep (G : GT) : XT := (G, yX9_keep.cls, cX9_keep, 1, (some .int), decide (yX9_keep.name = "<init>"), 3, 69)
def fDesk_keep  (s : MI) : Option (Int × MI) :=
  Option.bind (fState_copyFrom (sm_lo 62 s) (sm_lo 1 s)) (fun p1 => Option.bind (some (sm_gl 62 61 p1 s)) (fun s4 => Option.bind (some (sm_up s4 0 5 1)) (fun s6 => some ((s6 1 11), s6))))
set_option maxRecDepth 100000 in
set_option maxHeartbeats 4000000 in
theorem bDesk_keep {G : GT} {E : ET} {o : Nat} {s mi : MI}  {w : Int × MI} (g : gD E o)  (h : fDesk_keep s = some w) : cN G yX9_keep cX9_keep 1 (some .int) 3 69 [.inr o] E (sm_gl o 432 s mi) (some (.inl w.1), E, sm_gl o 432 w.2 mi) := by
  have hN1 := g.1
  have hN2 := g.2.1
  unfold fDesk_keep at h
  refine sm_meth (by decide +kernel) (Nat.le_of_ble_eq_true rfl) ?_
  show sM (xDesk_keep G) 0 [some (.inr o)] [] E (sm_gl o 432 s mi) _
  refine sm_aload_n dX9_keep_0 rfl ?_
  refine sm_getR lf_RX9_16 fR_6_1 g.2.2.1 (by omega) g.2.2.2.2.1.2 dX9_keep_1 ?_
  refine sm_aload_n dX9_keep_4 rfl ?_
  refine sm_getR lf_RX9_10 fR_6_0 g.2.2.1 (by omega) g.2.2.2.1.2 dX9_keep_5 ?_
  obtain ⟨p1, hp2, h⟩ := sl_bind h
  have hc3 := bState_copyFrom (G := G) (E := E) (o := o + 62) (s := (sm_lo 62 s)) (mi := (sm_gl o 432 s mi)) (o2 := o + 1) (s2 := (sm_lo 1 s)) g.2.2.2.2.1.1 g.2.2.2.1.1 (g2_in (by omega) (by omega))  hp2
  rw [gl_in (o := o) (D := 62) (ha := (rfl : o + 62 = o + 62)) (hD := (by omega : 62 + 61 ≤ 432)), gl_out (o := o) (D := 62) (ha := (rfl : o + 62 = o + 62)) (hD := (by omega : 62 + 61 ≤ 432))] at hc3
  refine sc_callV0 (avs := [.inr (o + 1)]) (st := []) lk_RX9_180 rfl vf_X7_copyFrom hc3 ⟨(Nat.le_of_ble_eq_true rfl), (Nat.le_of_ble_eq_true rfl)⟩ ⟨rfl, (Nat.le_of_ble_eq_true rfl)⟩ g.2.2.2.2.1.1.2.2.1 (by omega) rfl dX9_keep_8 ?_
  obtain ⟨s4, hs5, h⟩ := sl_bind h
  rw [Option.some.inj hs5]
  refine sm_aload_n dX9_keep_11 rfl ?_
  refine sm_iconst dX9_keep_12 ?_
  refine sl_putI (D := 0) lf_RX9_195 fP_6_5 (Or.inr ⟨rfl, Or.inr rfl⟩) g.2.2.1 rfl (by omega) ⟨hN1, hN2⟩ dX9_keep_13 ?_
  obtain ⟨s6, hs7, h⟩ := sl_bind h
  rw [Option.some.inj hs7]
  refine sm_aload_n dX9_keep_16 rfl ?_
  refine sm_getR lf_RX9_10 fR_6_0 g.2.2.1 (by omega) g.2.2.2.1.2 dX9_keep_17 ?_
  refine sl_getI (D := 1) lf_RX9_122 fI_5_11 g.2.2.2.1.1.2.2.1 rfl (by omega) hN2 dX9_keep_20 ?_
  cases h
  exact sm_ireturn dX9_keep_23 (Or.inl rfl)
abbrev xDesk_restore (G : GT) : XT := (G, yX9_restore.cls, cX9_restore, 1, (some .int), decide (yX9_restore.name = "<init>"), 4, 91)
def fDesk_restore  (s : MI) (ro : Nat → Nat) : Option (Int × MI × (Nat → Nat)) :=
  (if sm_w (s 0 5) = 0 then some ((-5), s, ro) else Option.bind (fDesk_record s ro) (fun p1 => Option.bind (fState_copyFrom (sm_lo 1 p1.1) (sm_lo 62 p1.1)) (fun p4 => Option.bind (some (sm_gl 1 61 p4 p1.1)) (fun s7 => some ((s7 1 11), s7, p1.2)))))
set_option maxRecDepth 100000 in
set_option maxHeartbeats 4000000 in
theorem bDesk_restore {G : GT} {E : ET} {o : Nat} {s mi : MI} {ro : Nat → Nat}  {w : Int × MI × (Nat → Nat)} (g : gD E o)  (h : fDesk_restore s ro = some w) : cN G yX9_restore cX9_restore 1 (some .int) 4 91 [.inr o] (eD E o ro) (sm_gl o 432 s mi) (some (.inl w.1), eD E o w.2.2, sm_gl o 432 w.2.1 mi) := by
  have hN1 := g.1
  have hN2 := (g.e ro).2.1
  unfold fDesk_restore at h
  refine sm_meth (by decide +kernel) (Nat.le_of_ble_eq_true rfl) ?_
  show sM (xDesk_restore G) 0 [some (.inr o)] [] (eD E o ro) (sm_gl o 432 s mi) _
  refine sm_aload_n dX9_restore_0 rfl ?_
  refine sl_getI (D := 0) lf_RX9_195 fI_6_5 (g.e ro).2.2.1 rfl (by omega) hN2 dX9_restore_1 ?_
  refine sm_if_ne 10 dX9_restore_4 rfl (fun c9 => ?_) (fun c9 => ?_)
  · rw [if_neg c9] at h
    refine sm_aload_n dX9_restore_10 rfl ?_
    obtain ⟨p1, hp2, h⟩ := sl_bind h
    have hc3 := bDesk_record (G := G) (E := E) (o := o) (s := s) (mi := mi) (ro := ro) g  hp2
    refine sc_callV0 (avs := []) (st := []) lk_RX9_51 rfl vf_X9_record hc3 ⟨(Nat.le_of_ble_eq_true rfl), (Nat.le_of_ble_eq_true rfl)⟩ ⟨rfl, (Nat.le_of_ble_eq_true rfl)⟩ (g.e p1.2).2.2.1 (by omega) rfl dX9_restore_11 ?_
    have hN2 := (g.e p1.2).2.1
    refine sm_aload_n dX9_restore_14 rfl ?_
    refine sm_getR lf_RX9_10 fR_6_0 (g.e p1.2).2.2.1 (by omega) (g.e p1.2).2.2.2.1.2 dX9_restore_15 ?_
    refine sm_aload_n dX9_restore_18 rfl ?_
    refine sm_getR lf_RX9_16 fR_6_1 (g.e p1.2).2.2.1 (by omega) (g.e p1.2).2.2.2.2.1.2 dX9_restore_19 ?_
    obtain ⟨p4, hp5, h⟩ := sl_bind h
    have hc6 := bState_copyFrom (G := G) (E := (eD E o p1.2)) (o := o + 1) (s := (sm_lo 1 p1.1)) (mi := (sm_gl o 432 p1.1 mi)) (o2 := o + 62) (s2 := (sm_lo 62 p1.1)) ((g.e p1.2).2.2.2.1.1) ((g.e p1.2).2.2.2.2.1.1) (g2_in (by omega) (by omega))  hp5
    rw [gl_in (o := o) (D := 1) (ha := (rfl : o + 1 = o + 1)) (hD := (by omega : 1 + 61 ≤ 432)), gl_out (o := o) (D := 1) (ha := (rfl : o + 1 = o + 1)) (hD := (by omega : 1 + 61 ≤ 432))] at hc6
    refine sc_callV0 (avs := [.inr (o + 62)]) (st := []) lk_RX9_180 rfl vf_X7_copyFrom hc6 ⟨(Nat.le_of_ble_eq_true rfl), (Nat.le_of_ble_eq_true rfl)⟩ ⟨rfl, (Nat.le_of_ble_eq_true rfl)⟩ ((g.e p1.2).2.2.2.1.1).2.2.1 (by omega) rfl dX9_restore_22 ?_
    obtain ⟨s7, hs8, h⟩ := sl_bind h
    rw [Option.some.inj hs8]
    refine sm_aload_n dX9_restore_25 rfl ?_
    refine sm_getR lf_RX9_10 fR_6_0 (g.e p1.2).2.2.1 (by omega) (g.e p1.2).2.2.2.1.2 dX9_restore_26 ?_
    refine sl_getI (D := 1) lf_RX9_122 fI_5_11 ((g.e p1.2).2.2.2.1.1).2.2.1 rfl (by omega) hN2 dX9_restore_29 ?_
    cases h
    exact sm_ireturn dX9_restore_32 (Or.inl rfl)
  · rw [if_pos c9] at h
    refine sm_bipush dX9_restore_7 rfl ?_
    cases h
    exact sm_ireturn dX9_restore_9 (Or.inl rfl)
abbrev xDesk_distance (G : GT) : XT := (G, yX9_distance.cls, cX9_distance, 4, (some .int), decide (yX9_distance.name = "<init>"), 1, 22)
def fDesk_distance (z1 : Int) (z2 : Int) (s : MI) : Option (Int) :=
  Option.bind (fDesk_isArea z1) (fun p1 => (if sm_w p1 = 0 then some (-1) else Option.bind (fDesk_isArea z2) (fun p4 => (if sm_w p4 = 0 then some (-1) else Option.bind (fMap_between z1 z2 (sm_lo 2 s)) (fun p7 => (if 1000000 ≤ sm_w p7 then some (-5) else some p7))))))
set_option maxRecDepth 100000 in
set_option maxHeartbeats 4000000 in
theorem bDesk_distance {G : GT} {E : ET} {o : Nat} {s mi : MI} {z1 : Int} {z2 : Int} {w : Int} (g : gD E o)  (h : fDesk_distance z1 z2 s = some w) : cN G yX9_distance cX9_distance 4 (some .int) 1 22 [.inr o, .inl z1, .inl z2] E (sm_gl o 432 s mi) (some (.inl w), E, (sm_gl o 432 s mi)) := by
  have hN1 := g.1
  have hN2 := g.2.1
  unfold fDesk_distance at h
  refine sm_meth (by decide +kernel) (Nat.le_of_ble_eq_true rfl) ?_
  show sM (xDesk_distance G) 0 [some (.inr o), some (.inl z1), some (.inl z2), none] [] E (sm_gl o 432 s mi) _
  refine sm_iload_n dX9_distance_0 rfl ?_
  obtain ⟨p1, hp2, h⟩ := sl_bind h
  have hc3 := bDesk_isArea (G := G) (E := E) (mi := (sm_gl o 432 s mi))   hp2
  refine sc_callS1 (avs := [.inl z1]) (st := []) lk_RX9_33 rfl sf_X9_isArea hc3 ⟨(Nat.le_of_ble_eq_true rfl), (Nat.le_of_ble_eq_true rfl)⟩ ⟨rfl, (Nat.le_of_ble_eq_true rfl)⟩ rfl dX9_distance_1 ?_
  refine sm_if_eq 14 dX9_distance_4 rfl (fun c12 => ?_) (fun c12 => ?_)
  · rw [if_pos c12] at h
    refine sm_iconst dX9_distance_14 ?_
    cases h
    exact sm_ireturn dX9_distance_15 (Or.inl rfl)
  · rw [if_neg c12] at h
    refine sm_iload_n dX9_distance_7 rfl ?_
    obtain ⟨p4, hp5, h⟩ := sl_bind h
    have hc6 := bDesk_isArea (G := G) (E := E) (mi := (sm_gl o 432 s mi))   hp5
    refine sc_callS1 (avs := [.inl z2]) (st := []) lk_RX9_33 rfl sf_X9_isArea hc6 ⟨(Nat.le_of_ble_eq_true rfl), (Nat.le_of_ble_eq_true rfl)⟩ ⟨rfl, (Nat.le_of_ble_eq_true rfl)⟩ rfl dX9_distance_8 ?_
    refine sm_if_ne 16 dX9_distance_11 rfl (fun c11 => ?_) (fun c11 => ?_)
    · rw [if_neg c11] at h
      refine sm_aload_n dX9_distance_16 rfl ?_
      refine sm_getR lf_RX9_10 fR_6_0 g.2.2.1 (by omega) g.2.2.2.1.2 dX9_distance_17 ?_
      refine sm_getR lf_RX9_37 fR_5_0 g.2.2.2.1.1.2.2.1 (by omega) g.2.2.2.1.1.2.2.2.1.2 dX9_distance_20 ?_
      refine sm_iload_n dX9_distance_23 rfl ?_
      refine sm_iload_n dX9_distance_24 rfl ?_
      obtain ⟨p7, hp8, h⟩ := sl_bind h
      have hc9 := bMap_between (G := G) (E := E) (o := o + 1 + 1) (s := (sm_lo 2 s)) (mi := (sm_gl o 432 s mi)) g.2.2.2.1.1.2.2.2.1.1  hp8
      rw [gl_in (o := o) (D := 2) (ha := (rfl : o + 1 + 1 = o + 2)) (hD := (by omega : 2 + 3 ≤ 432))] at hc9
      refine sc_callV1 (avs := [.inl z1, .inl z2]) (st := []) lk_RX9_148 rfl vf_X5_between hc9 ⟨(Nat.le_of_ble_eq_true rfl), (Nat.le_of_ble_eq_true rfl)⟩ ⟨rfl, (Nat.le_of_ble_eq_true rfl)⟩ g.2.2.2.1.1.2.2.2.1.1.2.2.1 (by omega) rfl dX9_distance_25 ?_
      refine sm_istore_n dX9_distance_28 (Nat.le_of_ble_eq_true rfl) ?_
      refine sm_iload_n dX9_distance_29 rfl ?_
      refine sm_ldc (v := 1000000) rfl lc_RX9_151 dX9_distance_30 ?_
      refine sc_icmp_ge (X' := sm_w p7) (Y' := 1000000) 39 dX9_distance_32 rfl rfl (by decide) (fun c10 => ?_) (fun c10 => ?_)
      · rw [if_pos c10] at h
        refine sm_bipush dX9_distance_39 rfl ?_
        cases h
        exact sm_ireturn dX9_distance_41 (Or.inl rfl)
      · rw [if_neg c10] at h
        refine sm_iload_n dX9_distance_35 rfl ?_
        refine sm_goto 41 dX9_distance_36 rfl ?_
        cases h
        exact sm_ireturn dX9_distance_41 (Or.inl rfl)
    · rw [if_pos c11] at h
      refine sm_iconst dX9_distance_14 ?_
      cases h
      exact sm_ireturn dX9_distance_15 (Or.inl rfl)
abbrev xDesk_wayAt (G : GT) : XT := (G, yX9_wayAt.cls, cX9_wayAt, 6, (some .int), decide (yX9_wayAt.name = "<init>"), 1, 25)
abbrev qDesk_wayAt_l55 (G : GT) (E : ET) (o : Nat) (mi : MI) (z2 : Int) (z3 : Int) (s : MI) (r : RT) (t : Int × Int) : Prop := sM (xDesk_wayAt G) 55 [some (.inr o), none, some (.inl z2), some (.inl z3), some (.inl t.1), some (.inl t.2)] [] E (sm_gl o 432 s mi) r
abbrev kDesk_wayAt_l55 (G : GT) (E : ET) (o : Nat) (mi : MI) (z2 : Int) (z3 : Int) (s : MI) (r : RT) (x : Int) : Prop := sM (xDesk_wayAt G) 89 [none, none, none, none, some (.inl x), none] [] E (sm_gl o 432 s mi) r
def fDesk_wayAt_l55 (z2 : Int) (z3 : Int) (z4 : Int) (z5 : Int) (s : MI) : Option ((Int × Int) ⊕ (Int)) :=
  (if sm_w z3 ≤ sm_w z5 then some (.inr z4) else (if sm_w z4 = (-5) then some (.inr z4) else Option.bind (fMap_nextOnWay z4 z2 (sm_lo 2 s)) (fun p10 => some (.inl (p10, (z5 + 1))))))
set_option maxRecDepth 100000 in
set_option maxHeartbeats 4000000 in
theorem bDesk_wayAt_l55 {G : GT} {E : ET} {o : Nat} {s mi : MI} {z2 : Int} {z3 : Int} {z4 : Int} {z5 : Int} {r : RT} {w : (Int × Int) ⊕ (Int)} (g : gD E o)  (h : fDesk_wayAt_l55 z2 z3 z4 z5 s = some w) (hK : Sum.elim (qDesk_wayAt_l55 G E o mi z2 z3 s r) (kDesk_wayAt_l55 G E o mi z2 z3 s r) w) : qDesk_wayAt_l55 G E o mi z2 z3 s r (z4, z5) := by
  have hN1 := g.1
  have hN2 := g.2.1
  unfold fDesk_wayAt_l55 at h
  show sM (xDesk_wayAt G) 55 [some (.inr o), none, some (.inl z2), some (.inl z3), some (.inl z4), some (.inl z5)] [] E (sm_gl o 432 s mi) r
  refine sm_iload dX9_wayAt_55 rfl ?_
  refine sm_iload_n dX9_wayAt_57 rfl ?_
  refine sc_icmp_ge (X' := sm_w z5) (Y' := sm_w z3) 89 dX9_wayAt_58 rfl rfl rfl (fun c14 => ?_) (fun c14 => ?_)
  · rw [if_pos c14] at h
    cases h
    exact sm_less (lv' := [none, none, none, none, some (.inl z4), none]) ⟨rfl, trivial⟩ hK
  · rw [if_neg c14] at h
    refine sm_iload dX9_wayAt_61 rfl ?_
    refine sm_bipush dX9_wayAt_63 rfl ?_
    refine sc_icmp_eq (X' := sm_w z4) (Y' := (-5)) 89 dX9_wayAt_65 rfl rfl (by decide) (fun c13 => ?_) (fun c13 => ?_)
    · rw [if_pos c13] at h
      cases h
      exact sm_less (lv' := [none, none, none, none, some (.inl z4), none]) ⟨rfl, trivial⟩ hK
    · rw [if_neg c13] at h
      refine sm_aload_n dX9_wayAt_68 rfl ?_
      refine sm_getR lf_RX9_10 fR_6_0 g.2.2.1 (by omega) g.2.2.2.1.2 dX9_wayAt_69 ?_
      refine sm_getR lf_RX9_37 fR_5_0 g.2.2.2.1.1.2.2.1 (by omega) g.2.2.2.1.1.2.2.2.1.2 dX9_wayAt_72 ?_
      refine sm_iload dX9_wayAt_75 rfl ?_
      refine sm_iload_n dX9_wayAt_77 rfl ?_
      obtain ⟨p10, hp11, h⟩ := sl_bind h
      have hc12 := bMap_nextOnWay (G := G) (E := E) (o := o + 1 + 1) (s := (sm_lo 2 s)) (mi := (sm_gl o 432 s mi)) g.2.2.2.1.1.2.2.2.1.1  hp11
      rw [gl_in (o := o) (D := 2) (ha := (rfl : o + 1 + 1 = o + 2)) (hD := (by omega : 2 + 3 ≤ 432))] at hc12
      refine sc_callV1 (avs := [.inl z4, .inl z2]) (st := []) lk_RX9_199 rfl vf_X5_nextOnWay hc12 ⟨(Nat.le_of_ble_eq_true rfl), (Nat.le_of_ble_eq_true rfl)⟩ ⟨rfl, (Nat.le_of_ble_eq_true rfl)⟩ g.2.2.2.1.1.2.2.2.1.1.2.2.1 (by omega) rfl dX9_wayAt_78 ?_
      refine sm_istore dX9_wayAt_81 (Nat.le_of_ble_eq_true rfl) ?_
      refine sm_iinc dX9_wayAt_83 (Nat.le_of_ble_eq_true rfl) rfl ?_
      refine sm_goto 55 dX9_wayAt_86 rfl ?_
      cases h
      exact sm_less (lv' := [some (.inr o), none, some (.inl z2), some (.inl z3), some (.inl p10), some (.inl (z5 + 1))]) ⟨rfl, rfl, rfl, rfl, rfl, trivial⟩ hK
def fDesk_wayAt (z1 : Int) (z2 : Int) (z3 : Int) (s : MI) : Option (Int) :=
  Option.bind (fDesk_isArea z1) (fun p1 => (if sm_w p1 = 0 then some (-1) else Option.bind (fDesk_isArea z2) (fun p4 => (if sm_w p4 = 0 then some (-1) else (if 0 ≤ sm_w z3 then (if 12 ≤ sm_w z3 then some (-5) else Option.bind (fMap_between z1 z2 (sm_lo 2 s)) (fun p7 => (if sm_w p7 < 1000000 then Option.bind (sl_it (fun (t : Int × Int) => fDesk_wayAt_l55 z2 z3 t.1 t.2 s) sl_fu (z1, 0)) (fun x17 => some x17) else some (-5)))) else some (-2))))))
set_option maxRecDepth 100000 in
set_option maxHeartbeats 4000000 in
theorem bDesk_wayAt {G : GT} {E : ET} {o : Nat} {s mi : MI} {z1 : Int} {z2 : Int} {z3 : Int} {w : Int} (g : gD E o)  (h : fDesk_wayAt z1 z2 z3 s = some w) : cN G yX9_wayAt cX9_wayAt 6 (some .int) 1 25 [.inr o, .inl z1, .inl z2, .inl z3] E (sm_gl o 432 s mi) (some (.inl w), E, (sm_gl o 432 s mi)) := by
  have hN1 := g.1
  have hN2 := g.2.1
  unfold fDesk_wayAt at h
  refine sm_meth (by decide +kernel) (Nat.le_of_ble_eq_true rfl) ?_
  show sM (xDesk_wayAt G) 0 [some (.inr o), some (.inl z1), some (.inl z2), some (.inl z3), none, none] [] E (sm_gl o 432 s mi) _
  refine sm_iload_n dX9_wayAt_0 rfl ?_
  obtain ⟨p1, hp2, h⟩ := sl_bind h
  have hc3 := bDesk_isArea (G := G) (E := E) (mi := (sm_gl o 432 s mi))   hp2
  refine sc_callS1 (avs := [.inl z1]) (st := []) lk_RX9_33 rfl sf_X9_isArea hc3 ⟨(Nat.le_of_ble_eq_true rfl), (Nat.le_of_ble_eq_true rfl)⟩ ⟨rfl, (Nat.le_of_ble_eq_true rfl)⟩ rfl dX9_wayAt_1 ?_
  refine sm_if_eq 14 dX9_wayAt_4 rfl (fun c22 => ?_) (fun c22 => ?_)
  · rw [if_pos c22] at h
    refine sm_iconst dX9_wayAt_14 ?_
    cases h
    exact sm_ireturn dX9_wayAt_15 (Or.inl rfl)
  · rw [if_neg c22] at h
    refine sm_iload_n dX9_wayAt_7 rfl ?_
    obtain ⟨p4, hp5, h⟩ := sl_bind h
    have hc6 := bDesk_isArea (G := G) (E := E) (mi := (sm_gl o 432 s mi))   hp5
    refine sc_callS1 (avs := [.inl z2]) (st := []) lk_RX9_33 rfl sf_X9_isArea hc6 ⟨(Nat.le_of_ble_eq_true rfl), (Nat.le_of_ble_eq_true rfl)⟩ ⟨rfl, (Nat.le_of_ble_eq_true rfl)⟩ rfl dX9_wayAt_8 ?_
    refine sm_if_ne 16 dX9_wayAt_11 rfl (fun c21 => ?_) (fun c21 => ?_)
    · rw [if_neg c21] at h
      refine sm_iload_n dX9_wayAt_16 rfl ?_
      refine sm_if_ge 23 dX9_wayAt_17 rfl (fun c20 => ?_) (fun c20 => ?_)
      · rw [if_pos c20] at h
        refine sm_iload_n dX9_wayAt_23 rfl ?_
        refine sm_bipush dX9_wayAt_24 rfl ?_
        refine sc_icmp_ge (X' := sm_w z3) (Y' := 12) 46 dX9_wayAt_26 rfl rfl (by decide) (fun c19 => ?_) (fun c19 => ?_)
        · rw [if_pos c19] at h
          refine sm_bipush dX9_wayAt_46 rfl ?_
          cases h
          exact sm_ireturn dX9_wayAt_48 (Or.inl rfl)
        · rw [if_neg c19] at h
          refine sm_aload_n dX9_wayAt_29 rfl ?_
          refine sm_getR lf_RX9_10 fR_6_0 g.2.2.1 (by omega) g.2.2.2.1.2 dX9_wayAt_30 ?_
          refine sm_getR lf_RX9_37 fR_5_0 g.2.2.2.1.1.2.2.1 (by omega) g.2.2.2.1.1.2.2.2.1.2 dX9_wayAt_33 ?_
          refine sm_iload_n dX9_wayAt_36 rfl ?_
          refine sm_iload_n dX9_wayAt_37 rfl ?_
          obtain ⟨p7, hp8, h⟩ := sl_bind h
          have hc9 := bMap_between (G := G) (E := E) (o := o + 1 + 1) (s := (sm_lo 2 s)) (mi := (sm_gl o 432 s mi)) g.2.2.2.1.1.2.2.2.1.1  hp8
          rw [gl_in (o := o) (D := 2) (ha := (rfl : o + 1 + 1 = o + 2)) (hD := (by omega : 2 + 3 ≤ 432))] at hc9
          refine sc_callV1 (avs := [.inl z1, .inl z2]) (st := []) lk_RX9_148 rfl vf_X5_between hc9 ⟨(Nat.le_of_ble_eq_true rfl), (Nat.le_of_ble_eq_true rfl)⟩ ⟨rfl, (Nat.le_of_ble_eq_true rfl)⟩ g.2.2.2.1.1.2.2.2.1.1.2.2.1 (by omega) rfl dX9_wayAt_38 ?_
          refine sm_ldc (v := 1000000) rfl lc_RX9_151 dX9_wayAt_41 ?_
          refine sc_icmp_lt (X' := sm_w p7) (Y' := 1000000) 49 dX9_wayAt_43 rfl rfl (by decide) (fun c18 => ?_) (fun c18 => ?_)
          · rw [if_pos c18] at h
            refine sm_iload_n dX9_wayAt_49 rfl ?_
            refine sm_istore dX9_wayAt_50 (Nat.le_of_ble_eq_true rfl) ?_
            refine sm_iconst dX9_wayAt_52 ?_
            refine sm_istore dX9_wayAt_53 (Nat.le_of_ble_eq_true rfl) ?_
            obtain ⟨x17, hy16, h⟩ := sl_bind h
            refine sm_less (lv' := [some (.inr o), none, some (.inl z2), some (.inl z3), some (.inl z1), some (.inl 0)]) ⟨rfl, rfl, rfl, rfl, rfl, trivial⟩ (sl_itE (P := qDesk_wayAt_l55 G E o mi z2 z3 s _) (K := kDesk_wayAt_l55 G E o mi z2 z3 s _) (fun t q hq hk => bDesk_wayAt_l55 g  hq hk) sl_fu _ x17 hy16 ?_)
            show sM (xDesk_wayAt G) 89 [none, none, none, none, some (.inl x17), none] [] E (sm_gl o 432 s mi) _
            refine sm_iload dX9_wayAt_89 rfl ?_
            cases h
            exact sm_ireturn dX9_wayAt_91 (Or.inl rfl)
          · rw [if_neg c18] at h
            refine sm_bipush dX9_wayAt_46 rfl ?_
            cases h
            exact sm_ireturn dX9_wayAt_48 (Or.inl rfl)
      · rw [if_neg c20] at h
        refine sm_bipush dX9_wayAt_20 rfl ?_
        cases h
        exact sm_ireturn dX9_wayAt_22 (Or.inl rfl)
    · rw [if_pos c21] at h
      refine sm_iconst dX9_wayAt_14 ?_
      cases h
      exact sm_ireturn dX9_wayAt_15 (Or.inl rfl)
abbrev xDesk_member (G : GT) : XT := (G, yX9_member.cls, cX9_member, 3, (some .int), decide (yX9_member.name = "<init>"), 5, 110)
def fDesk_member (z1 : Int) (z2 : Int) (s : MI) : Option (Int) :=
  Option.bind (fState_isMember z1 (sm_lo 1 s)) (fun p1 => (if sm_w p1 = 0 then some (-1) else (if 0 ≤ sm_w z2 ∧ sm_w z2 ≤ 6 then (if sm_w z2 = 0 then if 0 ≤ sm_w z1 ∧ sm_w z1 < 20 then some (s 5 (sm_w z1).toNat) else none else (if sm_w z2 = 1 then Option.bind (fBooks_ofMember 0 z1 (sm_lo 1 s)) (fun p8 => some p8) else (if sm_w z2 = 2 then Option.bind (fState_openCallOf z1 (sm_lo 1 s)) (fun p13 => some p13) else (if sm_w z2 = 3 then Option.bind (fBooks_ofMember 1 z1 (sm_lo 1 s)) (fun p18 => some p18) else (if sm_w z2 = 4 then Option.bind (fBooks_ofMember 2 z1 (sm_lo 1 s)) (fun p23 => Option.bind (fBooks_ofMember 3 z1 (sm_lo 1 s)) (fun p26 => some ((1000 + p23) - p26))) else (if sm_w z2 = 5 then Option.bind (fBooks_ofMember 4 z1 (sm_lo 1 s)) (fun p31 => some p31) else Option.bind (fBooks_ofMember 5 z1 (sm_lo 1 s)) (fun p36 => some p36))))))) else some (-2))))
set_option maxRecDepth 100000 in
set_option maxHeartbeats 4000000 in
theorem bDesk_member {G : GT} {E : ET} {o : Nat} {s mi : MI} {z1 : Int} {z2 : Int} {w : Int} (g : gD E o) (gk : gK E mi)  (h : fDesk_member z1 z2 s = some w) : cN G yX9_member cX9_member 3 (some .int) 5 110 [.inr o, .inl z1, .inl z2] E (sm_gl o 432 s mi) (some (.inl w), E, (sm_gl o 432 s mi)) := by
  have hN1 := g.1
  have hN2 := g.2.1
  unfold fDesk_member at h
  refine sm_meth (by decide +kernel) (Nat.le_of_ble_eq_true rfl) ?_
  show sM (xDesk_member G) 0 [some (.inr o), some (.inl z1), some (.inl z2)] [] E (sm_gl o 432 s mi) _
  refine sm_aload_n dX9_member_0 rfl ?_
  refine sm_getR lf_RX9_10 fR_6_0 g.2.2.1 (by omega) g.2.2.2.1.2 dX9_member_1 ?_
  refine sm_iload_n dX9_member_4 rfl ?_
  obtain ⟨p1, hp2, h⟩ := sl_bind h
  have hc3 := bState_isMember (G := G) (E := E) (o := o + 1) (s := (sm_lo 1 s)) (mi := (sm_gl o 432 s mi)) g.2.2.2.1.1  hp2
  rw [gl_in (o := o) (D := 1) (ha := (rfl : o + 1 = o + 1)) (hD := (by omega : 1 + 61 ≤ 432))] at hc3
  refine sc_callV1 (avs := [.inl z1]) (st := []) lk_RX9_202 rfl vf_X7_isMember hc3 ⟨(Nat.le_of_ble_eq_true rfl), (Nat.le_of_ble_eq_true rfl)⟩ ⟨rfl, (Nat.le_of_ble_eq_true rfl)⟩ g.2.2.2.1.1.2.2.1 (by omega) rfl dX9_member_5 ?_
  refine sm_if_ne 13 dX9_member_8 rfl (fun c40 => ?_) (fun c40 => ?_)
  · rw [if_neg c40] at h
    refine sm_iload_n dX9_member_13 rfl ?_
    by_cases c4 : 0 ≤ sm_w z2 ∧ sm_w z2 ≤ 6
    · rw [if_pos c4] at h
      by_cases c6 : sm_w z2 = 0
      · rw [if_pos c6] at h
        refine sm_table dX9_member_14 56 (Or.inr ⟨⟨by omega, by omega⟩, _, (by rw [c6]; rfl), rfl⟩) ?_
        refine sm_aload_n dX9_member_56 rfl ?_
        refine sm_getR lf_RX9_10 fR_6_0 g.2.2.1 (by omega) g.2.2.2.1.2 dX9_member_57 ?_
        refine sm_getR lf_RX9_205 fR_5_1 g.2.2.2.1.1.2.2.1 (by omega) g.2.2.2.1.1.2.2.2.2.1.2 dX9_member_60 ?_
        refine sm_iload_n dX9_member_63 rfl ?_
        obtain ⟨q5, h⟩ := sl_guard h
        have xq5 := (sl_ix (m := 20) q5).2
        refine sl_ialdk (D := 5) (k := (sm_w z1).toNat) g.2.2.2.1.1.2.2.2.2.1.1 rfl (by omega) hN2 (sl_ix (m := 20) q5) dX9_member_64 ?_
        cases h
        exact sm_ireturn dX9_member_65 (Or.inl rfl)
      · rw [if_neg c6] at h
        have l7 := sl_nx c4.1 c6 (b := 1) rfl
        by_cases c11 : sm_w z2 = 1
        · rw [if_pos c11] at h
          refine sm_table dX9_member_14 66 (Or.inr ⟨⟨by omega, by omega⟩, _, (by rw [c11]; rfl), rfl⟩) ?_
          refine sm_aload_n dX9_member_66 rfl ?_
          refine sm_getR lf_RX9_10 fR_6_0 g.2.2.1 (by omega) g.2.2.2.1.2 dX9_member_67 ?_
          refine sm_iconst dX9_member_70 ?_
          refine sm_iload_n dX9_member_71 rfl ?_
          obtain ⟨p8, hp9, h⟩ := sl_bind h
          have hc10 := bBooks_ofMember (G := G) (E := E) (o := o + 1) (s := (sm_lo 1 s)) (mi := (sm_gl o 432 s mi)) g.2.2.2.1.1 (gk.gl hN1)  hp9
          rw [gl_in (o := o) (D := 1) (ha := (rfl : o + 1 = o + 1)) (hD := (by omega : 1 + 61 ≤ 432))] at hc10
          refine sc_callS1 (avs := [.inr (o + 1), .inl 0, .inl z1]) (st := []) lk_RX9_208 rfl sf_X0_ofMember hc10 ⟨(Nat.le_of_ble_eq_true rfl), (Nat.le_of_ble_eq_true rfl)⟩ ⟨rfl, (Nat.le_of_ble_eq_true rfl)⟩ rfl dX9_member_72 ?_
          cases h
          exact sm_ireturn dX9_member_75 (Or.inl rfl)
        · rw [if_neg c11] at h
          have l12 := sl_nx l7 c11 (b := 2) rfl
          by_cases c16 : sm_w z2 = 2
          · rw [if_pos c16] at h
            refine sm_table dX9_member_14 76 (Or.inr ⟨⟨by omega, by omega⟩, _, (by rw [c16]; rfl), rfl⟩) ?_
            refine sm_aload_n dX9_member_76 rfl ?_
            refine sm_getR lf_RX9_10 fR_6_0 g.2.2.1 (by omega) g.2.2.2.1.2 dX9_member_77 ?_
            refine sm_iload_n dX9_member_80 rfl ?_
            obtain ⟨p13, hp14, h⟩ := sl_bind h
            have hc15 := bState_openCallOf (G := G) (E := E) (o := o + 1) (s := (sm_lo 1 s)) (mi := (sm_gl o 432 s mi)) g.2.2.2.1.1  hp14
            rw [gl_in (o := o) (D := 1) (ha := (rfl : o + 1 = o + 1)) (hD := (by omega : 1 + 61 ≤ 432))] at hc15
            refine sc_callV1 (avs := [.inl z1]) (st := []) lk_RX9_214 rfl vf_X7_openCallOf hc15 ⟨(Nat.le_of_ble_eq_true rfl), (Nat.le_of_ble_eq_true rfl)⟩ ⟨rfl, (Nat.le_of_ble_eq_true rfl)⟩ g.2.2.2.1.1.2.2.1 (by omega) rfl dX9_member_81 ?_
            cases h
            exact sm_ireturn dX9_member_84 (Or.inl rfl)
          · rw [if_neg c16] at h
            have l17 := sl_nx l12 c16 (b := 3) rfl
            by_cases c21 : sm_w z2 = 3
            · rw [if_pos c21] at h
              refine sm_table dX9_member_14 85 (Or.inr ⟨⟨by omega, by omega⟩, _, (by rw [c21]; rfl), rfl⟩) ?_
              refine sm_aload_n dX9_member_85 rfl ?_
              refine sm_getR lf_RX9_10 fR_6_0 g.2.2.1 (by omega) g.2.2.2.1.2 dX9_member_86 ?_
              refine sm_iconst dX9_member_89 ?_
              refine sm_iload_n dX9_member_90 rfl ?_
              obtain ⟨p18, hp19, h⟩ := sl_bind h
              have hc20 := bBooks_ofMember (G := G) (E := E) (o := o + 1) (s := (sm_lo 1 s)) (mi := (sm_gl o 432 s mi)) g.2.2.2.1.1 (gk.gl hN1)  hp19
              rw [gl_in (o := o) (D := 1) (ha := (rfl : o + 1 = o + 1)) (hD := (by omega : 1 + 61 ≤ 432))] at hc20
              refine sc_callS1 (avs := [.inr (o + 1), .inl 1, .inl z1]) (st := []) lk_RX9_208 rfl sf_X0_ofMember hc20 ⟨(Nat.le_of_ble_eq_true rfl), (Nat.le_of_ble_eq_true rfl)⟩ ⟨rfl, (Nat.le_of_ble_eq_true rfl)⟩ rfl dX9_member_91 ?_
              cases h
              exact sm_ireturn dX9_member_94 (Or.inl rfl)
            · rw [if_neg c21] at h
              have l22 := sl_nx l17 c21 (b := 4) rfl
              by_cases c29 : sm_w z2 = 4
              · rw [if_pos c29] at h
                refine sm_table dX9_member_14 95 (Or.inr ⟨⟨by omega, by omega⟩, _, (by rw [c29]; rfl), rfl⟩) ?_
                refine sm_sipush dX9_member_95 rfl ?_
                refine sm_aload_n dX9_member_98 rfl ?_
                refine sm_getR lf_RX9_10 fR_6_0 g.2.2.1 (by omega) g.2.2.2.1.2 dX9_member_99 ?_
                refine sm_iconst dX9_member_102 ?_
                refine sm_iload_n dX9_member_103 rfl ?_
                obtain ⟨p23, hp24, h⟩ := sl_bind h
                have hc25 := bBooks_ofMember (G := G) (E := E) (o := o + 1) (s := (sm_lo 1 s)) (mi := (sm_gl o 432 s mi)) g.2.2.2.1.1 (gk.gl hN1)  hp24
                rw [gl_in (o := o) (D := 1) (ha := (rfl : o + 1 = o + 1)) (hD := (by omega : 1 + 61 ≤ 432))] at hc25
                refine sc_callS1 (avs := [.inr (o + 1), .inl 2, .inl z1]) (st := [.inl 1000]) lk_RX9_208 rfl sf_X0_ofMember hc25 ⟨(Nat.le_of_ble_eq_true rfl), (Nat.le_of_ble_eq_true rfl)⟩ ⟨rfl, (Nat.le_of_ble_eq_true rfl)⟩ rfl dX9_member_104 ?_
                refine sm_iadd dX9_member_107 ?_
                refine sm_aload_n dX9_member_108 rfl ?_
                refine sm_getR lf_RX9_10 fR_6_0 g.2.2.1 (by omega) g.2.2.2.1.2 dX9_member_109 ?_
                refine sm_iconst dX9_member_112 ?_
                refine sm_iload_n dX9_member_113 rfl ?_
                obtain ⟨p26, hp27, h⟩ := sl_bind h
                have hc28 := bBooks_ofMember (G := G) (E := E) (o := o + 1) (s := (sm_lo 1 s)) (mi := (sm_gl o 432 s mi)) g.2.2.2.1.1 (gk.gl hN1)  hp27
                rw [gl_in (o := o) (D := 1) (ha := (rfl : o + 1 = o + 1)) (hD := (by omega : 1 + 61 ≤ 432))] at hc28
                refine sc_callS1 (avs := [.inr (o + 1), .inl 3, .inl z1]) (st := [.inl (1000 + p23)]) lk_RX9_208 rfl sf_X0_ofMember hc28 ⟨(Nat.le_of_ble_eq_true rfl), (Nat.le_of_ble_eq_true rfl)⟩ ⟨rfl, (Nat.le_of_ble_eq_true rfl)⟩ rfl dX9_member_114 ?_
                refine sm_isub dX9_member_117 ?_
                cases h
                exact sm_ireturn dX9_member_118 (Or.inl rfl)
              · rw [if_neg c29] at h
                have l30 := sl_nx l22 c29 (b := 5) rfl
                by_cases c34 : sm_w z2 = 5
                · rw [if_pos c34] at h
                  refine sm_table dX9_member_14 119 (Or.inr ⟨⟨by omega, by omega⟩, _, (by rw [c34]; rfl), rfl⟩) ?_
                  refine sm_aload_n dX9_member_119 rfl ?_
                  refine sm_getR lf_RX9_10 fR_6_0 g.2.2.1 (by omega) g.2.2.2.1.2 dX9_member_120 ?_
                  refine sm_iconst dX9_member_123 ?_
                  refine sm_iload_n dX9_member_124 rfl ?_
                  obtain ⟨p31, hp32, h⟩ := sl_bind h
                  have hc33 := bBooks_ofMember (G := G) (E := E) (o := o + 1) (s := (sm_lo 1 s)) (mi := (sm_gl o 432 s mi)) g.2.2.2.1.1 (gk.gl hN1)  hp32
                  rw [gl_in (o := o) (D := 1) (ha := (rfl : o + 1 = o + 1)) (hD := (by omega : 1 + 61 ≤ 432))] at hc33
                  refine sc_callS1 (avs := [.inr (o + 1), .inl 4, .inl z1]) (st := []) lk_RX9_208 rfl sf_X0_ofMember hc33 ⟨(Nat.le_of_ble_eq_true rfl), (Nat.le_of_ble_eq_true rfl)⟩ ⟨rfl, (Nat.le_of_ble_eq_true rfl)⟩ rfl dX9_member_125 ?_
                  cases h
                  exact sm_ireturn dX9_member_128 (Or.inl rfl)
                · rw [if_neg c34] at h
                  have l35 := sl_nx l30 c34 (b := 6) rfl
                  have c39 : sm_w z2 = 6 := by omega
                  refine sm_table dX9_member_14 129 (Or.inr ⟨⟨by omega, by omega⟩, _, (by rw [c39]; rfl), rfl⟩) ?_
                  refine sm_aload_n dX9_member_129 rfl ?_
                  refine sm_getR lf_RX9_10 fR_6_0 g.2.2.1 (by omega) g.2.2.2.1.2 dX9_member_130 ?_
                  refine sm_iconst dX9_member_133 ?_
                  refine sm_iload_n dX9_member_134 rfl ?_
                  obtain ⟨p36, hp37, h⟩ := sl_bind h
                  have hc38 := bBooks_ofMember (G := G) (E := E) (o := o + 1) (s := (sm_lo 1 s)) (mi := (sm_gl o 432 s mi)) g.2.2.2.1.1 (gk.gl hN1)  hp37
                  rw [gl_in (o := o) (D := 1) (ha := (rfl : o + 1 = o + 1)) (hD := (by omega : 1 + 61 ≤ 432))] at hc38
                  refine sc_callS1 (avs := [.inr (o + 1), .inl 5, .inl z1]) (st := []) lk_RX9_208 rfl sf_X0_ofMember hc38 ⟨(Nat.le_of_ble_eq_true rfl), (Nat.le_of_ble_eq_true rfl)⟩ ⟨rfl, (Nat.le_of_ble_eq_true rfl)⟩ rfl dX9_member_135 ?_
                  cases h
                  exact sm_ireturn dX9_member_138 (Or.inl rfl)
    · rw [if_neg c4] at h
      refine sm_table dX9_member_14 139 (Or.inl ⟨by omega, rfl⟩) ?_
      refine sm_bipush dX9_member_139 rfl ?_
      cases h
      exact sm_ireturn dX9_member_141 (Or.inl rfl)
  · rw [if_pos c40] at h
    refine sm_iconst dX9_member_11 ?_
    cases h
    exact sm_ireturn dX9_member_12 (Or.inl rfl)
abbrev xDesk_patrol (G : GT) : XT := (G, yX9_patrol.cls, cX9_patrol, 4, (some .int), decide (yX9_patrol.name = "<init>"), 1, 21)
def fDesk_patrol (z1 : Int) (z2 : Int) (s : MI) : Option (Int) :=
  Option.bind (fState_isPatrol z1 (sm_lo 1 s)) (fun p1 => (if sm_w p1 = 0 then some (-1) else if 0 ≤ sm_w z1 ∧ sm_w z1 < 6 then (if 0 ≤ sm_w z2 ∧ sm_w z2 ≤ 11 then (if sm_w z2 = 0 then some (s (1 + (10 + (sm_w z1).toNat)) 0) else (if sm_w z2 = 1 then some (s (1 + (10 + (sm_w z1).toNat)) 1) else (if sm_w z2 = 2 then (if sm_w (s (1 + (10 + (sm_w z1).toNat)) 2) = 0 then some 0 else some 1) else (if sm_w z2 = 3 then some (s (1 + (10 + (sm_w z1).toNat)) 3) else (if sm_w z2 = 4 then some (s (1 + (10 + (sm_w z1).toNat)) 4) else (if sm_w z2 = 5 then some (s (1 + (10 + (sm_w z1).toNat)) 5) else (if sm_w z2 = 6 then some (s (1 + (10 + (sm_w z1).toNat)) 6) else (if sm_w z2 = 7 then some (s (1 + (10 + (sm_w z1).toNat)) 9) else (if sm_w z2 = 8 then some (s (1 + (10 + (sm_w z1).toNat)) 10) else (if sm_w z2 = 9 then some (s (1 + (10 + (sm_w z1).toNat)) 11) else (if sm_w z2 = 10 then some (s (1 + (10 + (sm_w z1).toNat)) 12) else some (s (1 + (10 + (sm_w z1).toNat)) 13)))))))))))) else some (-2)) else none))
set_option maxRecDepth 100000 in
set_option maxHeartbeats 4000000 in
theorem bDesk_patrol {G : GT} {E : ET} {o : Nat} {s mi : MI} {z1 : Int} {z2 : Int} {w : Int} (g : gD E o)  (h : fDesk_patrol z1 z2 s = some w) : cN G yX9_patrol cX9_patrol 4 (some .int) 1 21 [.inr o, .inl z1, .inl z2] E (sm_gl o 432 s mi) (some (.inl w), E, (sm_gl o 432 s mi)) := by
  have hN1 := g.1
  have hN2 := g.2.1
  unfold fDesk_patrol at h
  refine sm_meth (by decide +kernel) (Nat.le_of_ble_eq_true rfl) ?_
  show sM (xDesk_patrol G) 0 [some (.inr o), some (.inl z1), some (.inl z2), none] [] E (sm_gl o 432 s mi) _
  refine sm_aload_n dX9_patrol_0 rfl ?_
  refine sm_getR lf_RX9_10 fR_6_0 g.2.2.1 (by omega) g.2.2.2.1.2 dX9_patrol_1 ?_
  refine sm_iload_n dX9_patrol_4 rfl ?_
  obtain ⟨p1, hp2, h⟩ := sl_bind h
  have hc3 := bState_isPatrol (G := G) (E := E) (o := o + 1) (s := (sm_lo 1 s)) (mi := (sm_gl o 432 s mi)) g.2.2.2.1.1  hp2
  rw [gl_in (o := o) (D := 1) (ha := (rfl : o + 1 = o + 1)) (hD := (by omega : 1 + 61 ≤ 432))] at hc3
  refine sc_callV1 (avs := [.inl z1]) (st := []) lk_RX9_110 rfl vf_X7_isPatrol hc3 ⟨(Nat.le_of_ble_eq_true rfl), (Nat.le_of_ble_eq_true rfl)⟩ ⟨rfl, (Nat.le_of_ble_eq_true rfl)⟩ g.2.2.2.1.1.2.2.1 (by omega) rfl dX9_patrol_5 ?_
  refine sm_if_ne 13 dX9_patrol_8 rfl (fun c31 => ?_) (fun c31 => ?_)
  · rw [if_neg c31] at h
    refine sm_aload_n dX9_patrol_13 rfl ?_
    refine sm_getR lf_RX9_10 fR_6_0 g.2.2.1 (by omega) g.2.2.2.1.2 dX9_patrol_14 ?_
    refine sm_getR lf_RX9_113 fR_5_3 g.2.2.2.1.1.2.2.1 (by omega) g.2.2.2.1.1.2.2.2.2.2.1.1.2 dX9_patrol_17 ?_
    refine sm_iload_n dX9_patrol_20 rfl ?_
    obtain ⟨q4, h⟩ := sl_guard h
    have xq4 := (sl_ix (m := 6) q4).2
    have e5 := g.2.2.2.1.1.2.2.2.2.2.1.2 (sm_w z1).toNat xq4
    refine sl_aald (k := (sm_w z1).toNat) (Or.inl rfl) g.2.2.2.1.1.2.2.2.2.2.1.1.1 (by omega) (sl_ix (m := 6) q4) e5.1 dX9_patrol_21 ?_
    refine sm_astore_n dX9_patrol_22 (Nat.le_of_ble_eq_true rfl) ?_
    refine sm_iload_n dX9_patrol_23 rfl ?_
    by_cases c6 : 0 ≤ sm_w z2 ∧ sm_w z2 ≤ 11
    · rw [if_pos c6] at h
      by_cases c7 : sm_w z2 = 0
      · rw [if_pos c7] at h
        refine sm_table dX9_patrol_24 88 (Or.inr ⟨⟨by omega, by omega⟩, _, (by rw [c7]; rfl), rfl⟩) ?_
        refine sm_aload_n dX9_patrol_88 rfl ?_
        refine sl_getI (D := (1 + (10 + (sm_w z1).toNat))) lf_RX9_145 fI_3_0 e5.2.2.2 (Nat.add_assoc _ _ _) (by omega) hN2 dX9_patrol_89 ?_
        cases h
        exact sm_ireturn dX9_patrol_92 (Or.inl rfl)
      · rw [if_neg c7] at h
        have l8 := sl_nx c6.1 c7 (b := 1) rfl
        by_cases c9 : sm_w z2 = 1
        · rw [if_pos c9] at h
          refine sm_table dX9_patrol_24 93 (Or.inr ⟨⟨by omega, by omega⟩, _, (by rw [c9]; rfl), rfl⟩) ?_
          refine sm_aload_n dX9_patrol_93 rfl ?_
          refine sl_getI (D := (1 + (10 + (sm_w z1).toNat))) lf_RX9_217 fI_3_1 e5.2.2.2 (Nat.add_assoc _ _ _) (by omega) hN2 dX9_patrol_94 ?_
          cases h
          exact sm_ireturn dX9_patrol_97 (Or.inl rfl)
        · rw [if_neg c9] at h
          have l10 := sl_nx l8 c9 (b := 2) rfl
          by_cases c12 : sm_w z2 = 2
          · rw [if_pos c12] at h
            refine sm_table dX9_patrol_24 98 (Or.inr ⟨⟨by omega, by omega⟩, _, (by rw [c12]; rfl), rfl⟩) ?_
            refine sm_aload_n dX9_patrol_98 rfl ?_
            refine sl_getI (D := (1 + (10 + (sm_w z1).toNat))) lf_RX9_220 fI_3_2 e5.2.2.2 (Nat.add_assoc _ _ _) (by omega) hN2 dX9_patrol_99 ?_
            refine sm_if_eq 109 dX9_patrol_102 rfl (fun c11 => ?_) (fun c11 => ?_)
            · rw [if_pos c11] at h
              refine sm_iconst dX9_patrol_109 ?_
              cases h
              exact sm_ireturn dX9_patrol_110 (Or.inl rfl)
            · rw [if_neg c11] at h
              refine sm_iconst dX9_patrol_105 ?_
              refine sm_goto 110 dX9_patrol_106 rfl ?_
              cases h
              exact sm_ireturn dX9_patrol_110 (Or.inl rfl)
          · rw [if_neg c12] at h
            have l13 := sl_nx l10 c12 (b := 3) rfl
            by_cases c14 : sm_w z2 = 3
            · rw [if_pos c14] at h
              refine sm_table dX9_patrol_24 111 (Or.inr ⟨⟨by omega, by omega⟩, _, (by rw [c14]; rfl), rfl⟩) ?_
              refine sm_aload_n dX9_patrol_111 rfl ?_
              refine sl_getI (D := (1 + (10 + (sm_w z1).toNat))) lf_RX9_135 fI_3_3 e5.2.2.2 (Nat.add_assoc _ _ _) (by omega) hN2 dX9_patrol_112 ?_
              cases h
              exact sm_ireturn dX9_patrol_115 (Or.inl rfl)
            · rw [if_neg c14] at h
              have l15 := sl_nx l13 c14 (b := 4) rfl
              by_cases c16 : sm_w z2 = 4
              · rw [if_pos c16] at h
                refine sm_table dX9_patrol_24 116 (Or.inr ⟨⟨by omega, by omega⟩, _, (by rw [c16]; rfl), rfl⟩) ?_
                refine sm_aload_n dX9_patrol_116 rfl ?_
                refine sl_getI (D := (1 + (10 + (sm_w z1).toNat))) lf_RX9_142 fI_3_4 e5.2.2.2 (Nat.add_assoc _ _ _) (by omega) hN2 dX9_patrol_117 ?_
                cases h
                exact sm_ireturn dX9_patrol_120 (Or.inl rfl)
              · rw [if_neg c16] at h
                have l17 := sl_nx l15 c16 (b := 5) rfl
                by_cases c18 : sm_w z2 = 5
                · rw [if_pos c18] at h
                  refine sm_table dX9_patrol_24 121 (Or.inr ⟨⟨by omega, by omega⟩, _, (by rw [c18]; rfl), rfl⟩) ?_
                  refine sm_aload_n dX9_patrol_121 rfl ?_
                  refine sl_getI (D := (1 + (10 + (sm_w z1).toNat))) lf_RX9_223 fI_3_5 e5.2.2.2 (Nat.add_assoc _ _ _) (by omega) hN2 dX9_patrol_122 ?_
                  cases h
                  exact sm_ireturn dX9_patrol_125 (Or.inl rfl)
                · rw [if_neg c18] at h
                  have l19 := sl_nx l17 c18 (b := 6) rfl
                  by_cases c20 : sm_w z2 = 6
                  · rw [if_pos c20] at h
                    refine sm_table dX9_patrol_24 126 (Or.inr ⟨⟨by omega, by omega⟩, _, (by rw [c20]; rfl), rfl⟩) ?_
                    refine sm_aload_n dX9_patrol_126 rfl ?_
                    refine sl_getI (D := (1 + (10 + (sm_w z1).toNat))) lf_RX9_226 fI_3_6 e5.2.2.2 (Nat.add_assoc _ _ _) (by omega) hN2 dX9_patrol_127 ?_
                    cases h
                    exact sm_ireturn dX9_patrol_130 (Or.inl rfl)
                  · rw [if_neg c20] at h
                    have l21 := sl_nx l19 c20 (b := 7) rfl
                    by_cases c22 : sm_w z2 = 7
                    · rw [if_pos c22] at h
                      refine sm_table dX9_patrol_24 131 (Or.inr ⟨⟨by omega, by omega⟩, _, (by rw [c22]; rfl), rfl⟩) ?_
                      refine sm_aload_n dX9_patrol_131 rfl ?_
                      refine sl_getI (D := (1 + (10 + (sm_w z1).toNat))) lf_RX9_229 fI_3_9 e5.2.2.2 (Nat.add_assoc _ _ _) (by omega) hN2 dX9_patrol_132 ?_
                      cases h
                      exact sm_ireturn dX9_patrol_135 (Or.inl rfl)
                    · rw [if_neg c22] at h
                      have l23 := sl_nx l21 c22 (b := 8) rfl
                      by_cases c24 : sm_w z2 = 8
                      · rw [if_pos c24] at h
                        refine sm_table dX9_patrol_24 136 (Or.inr ⟨⟨by omega, by omega⟩, _, (by rw [c24]; rfl), rfl⟩) ?_
                        refine sm_aload_n dX9_patrol_136 rfl ?_
                        refine sl_getI (D := (1 + (10 + (sm_w z1).toNat))) lf_RX9_232 fI_3_10 e5.2.2.2 (Nat.add_assoc _ _ _) (by omega) hN2 dX9_patrol_137 ?_
                        cases h
                        exact sm_ireturn dX9_patrol_140 (Or.inl rfl)
                      · rw [if_neg c24] at h
                        have l25 := sl_nx l23 c24 (b := 9) rfl
                        by_cases c26 : sm_w z2 = 9
                        · rw [if_pos c26] at h
                          refine sm_table dX9_patrol_24 141 (Or.inr ⟨⟨by omega, by omega⟩, _, (by rw [c26]; rfl), rfl⟩) ?_
                          refine sm_aload_n dX9_patrol_141 rfl ?_
                          refine sl_getI (D := (1 + (10 + (sm_w z1).toNat))) lf_RX9_235 fI_3_11 e5.2.2.2 (Nat.add_assoc _ _ _) (by omega) hN2 dX9_patrol_142 ?_
                          cases h
                          exact sm_ireturn dX9_patrol_145 (Or.inl rfl)
                        · rw [if_neg c26] at h
                          have l27 := sl_nx l25 c26 (b := 10) rfl
                          by_cases c28 : sm_w z2 = 10
                          · rw [if_pos c28] at h
                            refine sm_table dX9_patrol_24 146 (Or.inr ⟨⟨by omega, by omega⟩, _, (by rw [c28]; rfl), rfl⟩) ?_
                            refine sm_aload_n dX9_patrol_146 rfl ?_
                            refine sl_getI (D := (1 + (10 + (sm_w z1).toNat))) lf_RX9_238 fI_3_12 e5.2.2.2 (Nat.add_assoc _ _ _) (by omega) hN2 dX9_patrol_147 ?_
                            cases h
                            exact sm_ireturn dX9_patrol_150 (Or.inl rfl)
                          · rw [if_neg c28] at h
                            have l29 := sl_nx l27 c28 (b := 11) rfl
                            have c30 : sm_w z2 = 11 := by omega
                            refine sm_table dX9_patrol_24 151 (Or.inr ⟨⟨by omega, by omega⟩, _, (by rw [c30]; rfl), rfl⟩) ?_
                            refine sm_aload_n dX9_patrol_151 rfl ?_
                            refine sl_getI (D := (1 + (10 + (sm_w z1).toNat))) lf_RX9_241 fI_3_13 e5.2.2.2 (Nat.add_assoc _ _ _) (by omega) hN2 dX9_patrol_152 ?_
                            cases h
                            exact sm_ireturn dX9_patrol_155 (Or.inl rfl)
    · rw [if_neg c6] at h
      refine sm_table dX9_patrol_24 156 (Or.inl ⟨by omega, rfl⟩) ?_
      refine sm_bipush dX9_patrol_156 rfl ?_
      cases h
      exact sm_ireturn dX9_patrol_158 (Or.inl rfl)
  · rw [if_pos c31] at h
    refine sm_iconst dX9_patrol_11 ?_
    cases h
    exact sm_ireturn dX9_patrol_12 (Or.inl rfl)
abbrev xDesk_garage (G : GT) : XT := (G, yX9_garage.cls, cX9_garage, 4, (some .int), decide (yX9_garage.name = "<init>"), 1, 21)
def fDesk_garage (z1 : Int) (z2 : Int) (s : MI) : Option (Int) :=
  Option.bind (fState_isGarage z1 (sm_lo 1 s)) (fun p1 => (if sm_w p1 = 0 then some (-1) else if 0 ≤ sm_w z1 ∧ sm_w z1 < 5 then (if 0 ≤ sm_w z2 ∧ sm_w z2 ≤ 4 then (if sm_w z2 = 0 then some (s (1 + (16 + (sm_w z1).toNat)) 0) else (if sm_w z2 = 1 then some (s (1 + (16 + (sm_w z1).toNat)) 1) else (if sm_w z2 = 2 then some (s (1 + (16 + (sm_w z1).toNat)) 2) else (if sm_w z2 = 3 then some (s (1 + (16 + (sm_w z1).toNat)) 3) else some (s (1 + (16 + (sm_w z1).toNat)) 4))))) else some (-2)) else none))
set_option maxRecDepth 100000 in
set_option maxHeartbeats 4000000 in
theorem bDesk_garage {G : GT} {E : ET} {o : Nat} {s mi : MI} {z1 : Int} {z2 : Int} {w : Int} (g : gD E o)  (h : fDesk_garage z1 z2 s = some w) : cN G yX9_garage cX9_garage 4 (some .int) 1 21 [.inr o, .inl z1, .inl z2] E (sm_gl o 432 s mi) (some (.inl w), E, (sm_gl o 432 s mi)) := by
  have hN1 := g.1
  have hN2 := g.2.1
  unfold fDesk_garage at h
  refine sm_meth (by decide +kernel) (Nat.le_of_ble_eq_true rfl) ?_
  show sM (xDesk_garage G) 0 [some (.inr o), some (.inl z1), some (.inl z2), none] [] E (sm_gl o 432 s mi) _
  refine sm_aload_n dX9_garage_0 rfl ?_
  refine sm_getR lf_RX9_10 fR_6_0 g.2.2.1 (by omega) g.2.2.2.1.2 dX9_garage_1 ?_
  refine sm_iload_n dX9_garage_4 rfl ?_
  obtain ⟨p1, hp2, h⟩ := sl_bind h
  have hc3 := bState_isGarage (G := G) (E := E) (o := o + 1) (s := (sm_lo 1 s)) (mi := (sm_gl o 432 s mi)) g.2.2.2.1.1  hp2
  rw [gl_in (o := o) (D := 1) (ha := (rfl : o + 1 = o + 1)) (hD := (by omega : 1 + 61 ≤ 432))] at hc3
  refine sc_callV1 (avs := [.inl z1]) (st := []) lk_RX9_152 rfl vf_X7_isGarage hc3 ⟨(Nat.le_of_ble_eq_true rfl), (Nat.le_of_ble_eq_true rfl)⟩ ⟨rfl, (Nat.le_of_ble_eq_true rfl)⟩ g.2.2.2.1.1.2.2.1 (by omega) rfl dX9_garage_5 ?_
  refine sm_if_ne 13 dX9_garage_8 rfl (fun c16 => ?_) (fun c16 => ?_)
  · rw [if_neg c16] at h
    refine sm_aload_n dX9_garage_13 rfl ?_
    refine sm_getR lf_RX9_10 fR_6_0 g.2.2.1 (by omega) g.2.2.2.1.2 dX9_garage_14 ?_
    refine sm_getR lf_RX9_155 fR_5_5 g.2.2.2.1.1.2.2.1 (by omega) g.2.2.2.1.1.2.2.2.2.2.2.1.1.2 dX9_garage_17 ?_
    refine sm_iload_n dX9_garage_20 rfl ?_
    obtain ⟨q4, h⟩ := sl_guard h
    have xq4 := (sl_ix (m := 5) q4).2
    have e5 := g.2.2.2.1.1.2.2.2.2.2.2.1.2 (sm_w z1).toNat xq4
    refine sl_aald (k := (sm_w z1).toNat) (Or.inr (Or.inl rfl)) g.2.2.2.1.1.2.2.2.2.2.2.1.1.1 (by omega) (sl_ix (m := 5) q4) e5.1 dX9_garage_21 ?_
    refine sm_astore_n dX9_garage_22 (Nat.le_of_ble_eq_true rfl) ?_
    refine sm_iload_n dX9_garage_23 rfl ?_
    by_cases c6 : 0 ≤ sm_w z2 ∧ sm_w z2 ≤ 4
    · rw [if_pos c6] at h
      by_cases c7 : sm_w z2 = 0
      · rw [if_pos c7] at h
        refine sm_table dX9_garage_24 60 (Or.inr ⟨⟨by omega, by omega⟩, _, (by rw [c7]; rfl), rfl⟩) ?_
        refine sm_aload_n dX9_garage_60 rfl ?_
        refine sl_getI (D := (1 + (16 + (sm_w z1).toNat))) lf_RX9_244 fI_2_0 e5.2.2.2 (Nat.add_assoc _ _ _) (by omega) hN2 dX9_garage_61 ?_
        cases h
        exact sm_ireturn dX9_garage_64 (Or.inl rfl)
      · rw [if_neg c7] at h
        have l8 := sl_nx c6.1 c7 (b := 1) rfl
        by_cases c9 : sm_w z2 = 1
        · rw [if_pos c9] at h
          refine sm_table dX9_garage_24 65 (Or.inr ⟨⟨by omega, by omega⟩, _, (by rw [c9]; rfl), rfl⟩) ?_
          refine sm_aload_n dX9_garage_65 rfl ?_
          refine sl_getI (D := (1 + (16 + (sm_w z1).toNat))) lf_RX9_245 fI_2_1 e5.2.2.2 (Nat.add_assoc _ _ _) (by omega) hN2 dX9_garage_66 ?_
          cases h
          exact sm_ireturn dX9_garage_69 (Or.inl rfl)
        · rw [if_neg c9] at h
          have l10 := sl_nx l8 c9 (b := 2) rfl
          by_cases c11 : sm_w z2 = 2
          · rw [if_pos c11] at h
            refine sm_table dX9_garage_24 70 (Or.inr ⟨⟨by omega, by omega⟩, _, (by rw [c11]; rfl), rfl⟩) ?_
            refine sm_aload_n dX9_garage_70 rfl ?_
            refine sl_getI (D := (1 + (16 + (sm_w z1).toNat))) lf_RX9_159 fI_2_2 e5.2.2.2 (Nat.add_assoc _ _ _) (by omega) hN2 dX9_garage_71 ?_
            cases h
            exact sm_ireturn dX9_garage_74 (Or.inl rfl)
          · rw [if_neg c11] at h
            have l12 := sl_nx l10 c11 (b := 3) rfl
            by_cases c13 : sm_w z2 = 3
            · rw [if_pos c13] at h
              refine sm_table dX9_garage_24 75 (Or.inr ⟨⟨by omega, by omega⟩, _, (by rw [c13]; rfl), rfl⟩) ?_
              refine sm_aload_n dX9_garage_75 rfl ?_
              refine sl_getI (D := (1 + (16 + (sm_w z1).toNat))) lf_RX9_248 fI_2_3 e5.2.2.2 (Nat.add_assoc _ _ _) (by omega) hN2 dX9_garage_76 ?_
              cases h
              exact sm_ireturn dX9_garage_79 (Or.inl rfl)
            · rw [if_neg c13] at h
              have l14 := sl_nx l12 c13 (b := 4) rfl
              have c15 : sm_w z2 = 4 := by omega
              refine sm_table dX9_garage_24 80 (Or.inr ⟨⟨by omega, by omega⟩, _, (by rw [c15]; rfl), rfl⟩) ?_
              refine sm_aload_n dX9_garage_80 rfl ?_
              refine sl_getI (D := (1 + (16 + (sm_w z1).toNat))) lf_RX9_251 fI_2_4 e5.2.2.2 (Nat.add_assoc _ _ _) (by omega) hN2 dX9_garage_81 ?_
              cases h
              exact sm_ireturn dX9_garage_84 (Or.inl rfl)
    · rw [if_neg c6] at h
      refine sm_table dX9_garage_24 85 (Or.inl ⟨by omega, rfl⟩) ?_
      refine sm_bipush dX9_garage_85 rfl ?_
      cases h
      exact sm_ireturn dX9_garage_87 (Or.inl rfl)
  · rw [if_pos c16] at h
    refine sm_iconst dX9_garage_11 ?_
    cases h
    exact sm_ireturn dX9_garage_12 (Or.inl rfl)
abbrev xDesk_callOf (G : GT) : XT := (G, yX9_callOf.cls, cX9_callOf, 4, (some .int), decide (yX9_callOf.name = "<init>"), 1, 22)
def fDesk_callOf (z1 : Int) (z2 : Int) (s : MI) : Option (Int) :=
  Option.bind (fState_isCall z1 (sm_lo 1 s)) (fun p1 => (if sm_w p1 = 0 then some (-1) else if 0 ≤ sm_w z1 ∧ sm_w z1 < 40 then (if 0 ≤ sm_w z2 ∧ sm_w z2 ≤ 12 then (if sm_w z2 = 0 then some (s (1 + (21 + (sm_w z1).toNat)) 0) else (if sm_w z2 = 1 then some (s (1 + (21 + (sm_w z1).toNat)) 1) else (if sm_w z2 = 2 then some (s (1 + (21 + (sm_w z1).toNat)) 2) else (if sm_w z2 = 3 then some (s (1 + (21 + (sm_w z1).toNat)) 3) else (if sm_w z2 = 4 then some (s (1 + (21 + (sm_w z1).toNat)) 4) else (if sm_w z2 = 5 then some (s (1 + (21 + (sm_w z1).toNat)) 5) else (if sm_w z2 = 6 then Option.bind (fState_patrolOf z1 (sm_lo 1 s)) (fun p19 => some p19) else (if sm_w z2 = 7 then Option.bind (fBreakdown_waited (s 1 11) (sm_lo (1 + (21 + (sm_w z1).toNat)) s)) (fun p24 => some p24) else (if sm_w z2 = 8 then some (s (1 + (21 + (sm_w z1).toNat)) 6) else (if sm_w z2 = 9 then some (s (1 + (21 + (sm_w z1).toNat)) 8) else (if sm_w z2 = 10 then (if sm_w (s (1 + (21 + (sm_w z1).toNat)) 10) = 0 then some 0 else some 1) else (if sm_w z2 = 11 then Option.bind (fBreakdown_isUnattended (sm_lo (1 + (21 + (sm_w z1).toNat)) s)) (fun p36 => (if sm_w p36 = 0 then some (-5) else Option.bind (fBreakdown_due (sm_lo (1 + (21 + (sm_w z1).toNat)) s)) (fun p39 => some ((p39 - (s 1 11)) + 10000)))) else some (s (1 + (21 + (sm_w z1).toNat)) 9))))))))))))) else some (-2)) else none))
set_option maxRecDepth 100000 in
set_option maxHeartbeats 4000000 in
theorem bDesk_callOf {G : GT} {E : ET} {o : Nat} {s mi : MI} {z1 : Int} {z2 : Int} {w : Int} (g : gD E o)  (h : fDesk_callOf z1 z2 s = some w) : cN G yX9_callOf cX9_callOf 4 (some .int) 1 22 [.inr o, .inl z1, .inl z2] E (sm_gl o 432 s mi) (some (.inl w), E, (sm_gl o 432 s mi)) := by
  have hN1 := g.1
  have hN2 := g.2.1
  unfold fDesk_callOf at h
  refine sm_meth (by decide +kernel) (Nat.le_of_ble_eq_true rfl) ?_
  show sM (xDesk_callOf G) 0 [some (.inr o), some (.inl z1), some (.inl z2), none] [] E (sm_gl o 432 s mi) _
  refine sm_aload_n dX9_callOf_0 rfl ?_
  refine sm_getR lf_RX9_10 fR_6_0 g.2.2.1 (by omega) g.2.2.2.1.2 dX9_callOf_1 ?_
  refine sm_iload_n dX9_callOf_4 rfl ?_
  obtain ⟨p1, hp2, h⟩ := sl_bind h
  have hc3 := bState_isCall (G := G) (E := E) (o := o + 1) (s := (sm_lo 1 s)) (mi := (sm_gl o 432 s mi)) g.2.2.2.1.1  hp2
  rw [gl_in (o := o) (D := 1) (ha := (rfl : o + 1 = o + 1)) (hD := (by omega : 1 + 61 ≤ 432))] at hc3
  refine sc_callV1 (avs := [.inl z1]) (st := []) lk_RX9_94 rfl vf_X7_isCall hc3 ⟨(Nat.le_of_ble_eq_true rfl), (Nat.le_of_ble_eq_true rfl)⟩ ⟨rfl, (Nat.le_of_ble_eq_true rfl)⟩ g.2.2.2.1.1.2.2.1 (by omega) rfl dX9_callOf_5 ?_
  refine sm_if_ne 13 dX9_callOf_8 rfl (fun c46 => ?_) (fun c46 => ?_)
  · rw [if_neg c46] at h
    refine sm_aload_n dX9_callOf_13 rfl ?_
    refine sm_getR lf_RX9_10 fR_6_0 g.2.2.1 (by omega) g.2.2.2.1.2 dX9_callOf_14 ?_
    refine sm_getR lf_RX9_97 fR_5_7 g.2.2.2.1.1.2.2.1 (by omega) g.2.2.2.1.1.2.2.2.2.2.2.2.1.1.2 dX9_callOf_17 ?_
    refine sm_iload_n dX9_callOf_20 rfl ?_
    obtain ⟨q4, h⟩ := sl_guard h
    have xq4 := (sl_ix (m := 40) q4).2
    have e5 := g.2.2.2.1.1.2.2.2.2.2.2.2.1.2 (sm_w z1).toNat xq4
    refine sl_aald (k := (sm_w z1).toNat) (Or.inr (Or.inr (Or.inl rfl))) g.2.2.2.1.1.2.2.2.2.2.2.2.1.1.1 (by omega) (sl_ix (m := 40) q4) e5.1 dX9_callOf_21 ?_
    refine sm_astore_n dX9_callOf_22 (Nat.le_of_ble_eq_true rfl) ?_
    refine sm_iload_n dX9_callOf_23 rfl ?_
    by_cases c6 : 0 ≤ sm_w z2 ∧ sm_w z2 ≤ 12
    · rw [if_pos c6] at h
      by_cases c7 : sm_w z2 = 0
      · rw [if_pos c7] at h
        refine sm_table dX9_callOf_24 92 (Or.inr ⟨⟨by omega, by omega⟩, _, (by rw [c7]; rfl), rfl⟩) ?_
        refine sm_aload_n dX9_callOf_92 rfl ?_
        refine sl_getI (D := (1 + (21 + (sm_w z1).toNat))) lf_RX9_254 fI_0_0 e5.2.2.2 (Nat.add_assoc _ _ _) (by omega) hN2 dX9_callOf_93 ?_
        cases h
        exact sm_ireturn dX9_callOf_96 (Or.inl rfl)
      · rw [if_neg c7] at h
        have l8 := sl_nx c6.1 c7 (b := 1) rfl
        by_cases c9 : sm_w z2 = 1
        · rw [if_pos c9] at h
          refine sm_table dX9_callOf_24 97 (Or.inr ⟨⟨by omega, by omega⟩, _, (by rw [c9]; rfl), rfl⟩) ?_
          refine sm_aload_n dX9_callOf_97 rfl ?_
          refine sl_getI (D := (1 + (21 + (sm_w z1).toNat))) lf_RX9_257 fI_0_1 e5.2.2.2 (Nat.add_assoc _ _ _) (by omega) hN2 dX9_callOf_98 ?_
          cases h
          exact sm_ireturn dX9_callOf_101 (Or.inl rfl)
        · rw [if_neg c9] at h
          have l10 := sl_nx l8 c9 (b := 2) rfl
          by_cases c11 : sm_w z2 = 2
          · rw [if_pos c11] at h
            refine sm_table dX9_callOf_24 102 (Or.inr ⟨⟨by omega, by omega⟩, _, (by rw [c11]; rfl), rfl⟩) ?_
            refine sm_aload_n dX9_callOf_102 rfl ?_
            refine sl_getI (D := (1 + (21 + (sm_w z1).toNat))) lf_RX9_258 fI_0_2 e5.2.2.2 (Nat.add_assoc _ _ _) (by omega) hN2 dX9_callOf_103 ?_
            cases h
            exact sm_ireturn dX9_callOf_106 (Or.inl rfl)
          · rw [if_neg c11] at h
            have l12 := sl_nx l10 c11 (b := 3) rfl
            by_cases c13 : sm_w z2 = 3
            · rw [if_pos c13] at h
              refine sm_table dX9_callOf_24 107 (Or.inr ⟨⟨by omega, by omega⟩, _, (by rw [c13]; rfl), rfl⟩) ?_
              refine sm_aload_n dX9_callOf_107 rfl ?_
              refine sl_getI (D := (1 + (21 + (sm_w z1).toNat))) lf_RX9_261 fI_0_3 e5.2.2.2 (Nat.add_assoc _ _ _) (by omega) hN2 dX9_callOf_108 ?_
              cases h
              exact sm_ireturn dX9_callOf_111 (Or.inl rfl)
            · rw [if_neg c13] at h
              have l14 := sl_nx l12 c13 (b := 4) rfl
              by_cases c15 : sm_w z2 = 4
              · rw [if_pos c15] at h
                refine sm_table dX9_callOf_24 112 (Or.inr ⟨⟨by omega, by omega⟩, _, (by rw [c15]; rfl), rfl⟩) ?_
                refine sm_aload_n dX9_callOf_112 rfl ?_
                refine sl_getI (D := (1 + (21 + (sm_w z1).toNat))) lf_RX9_264 fI_0_4 e5.2.2.2 (Nat.add_assoc _ _ _) (by omega) hN2 dX9_callOf_113 ?_
                cases h
                exact sm_ireturn dX9_callOf_116 (Or.inl rfl)
              · rw [if_neg c15] at h
                have l16 := sl_nx l14 c15 (b := 5) rfl
                by_cases c17 : sm_w z2 = 5
                · rw [if_pos c17] at h
                  refine sm_table dX9_callOf_24 117 (Or.inr ⟨⟨by omega, by omega⟩, _, (by rw [c17]; rfl), rfl⟩) ?_
                  refine sm_aload_n dX9_callOf_117 rfl ?_
                  refine sl_getI (D := (1 + (21 + (sm_w z1).toNat))) lf_RX9_267 fI_0_5 e5.2.2.2 (Nat.add_assoc _ _ _) (by omega) hN2 dX9_callOf_118 ?_
                  cases h
                  exact sm_ireturn dX9_callOf_121 (Or.inl rfl)
                · rw [if_neg c17] at h
                  have l18 := sl_nx l16 c17 (b := 6) rfl
                  by_cases c22 : sm_w z2 = 6
                  · rw [if_pos c22] at h
                    refine sm_table dX9_callOf_24 122 (Or.inr ⟨⟨by omega, by omega⟩, _, (by rw [c22]; rfl), rfl⟩) ?_
                    refine sm_aload_n dX9_callOf_122 rfl ?_
                    refine sm_getR lf_RX9_10 fR_6_0 g.2.2.1 (by omega) g.2.2.2.1.2 dX9_callOf_123 ?_
                    refine sm_iload_n dX9_callOf_126 rfl ?_
                    obtain ⟨p19, hp20, h⟩ := sl_bind h
                    have hc21 := bState_patrolOf (G := G) (E := E) (o := o + 1) (s := (sm_lo 1 s)) (mi := (sm_gl o 432 s mi)) g.2.2.2.1.1  hp20
                    rw [gl_in (o := o) (D := 1) (ha := (rfl : o + 1 = o + 1)) (hD := (by omega : 1 + 61 ≤ 432))] at hc21
                    refine sc_callV1 (avs := [.inl z1]) (st := []) lk_RX9_107 rfl vf_X7_patrolOf hc21 ⟨(Nat.le_of_ble_eq_true rfl), (Nat.le_of_ble_eq_true rfl)⟩ ⟨rfl, (Nat.le_of_ble_eq_true rfl)⟩ g.2.2.2.1.1.2.2.1 (by omega) rfl dX9_callOf_127 ?_
                    cases h
                    exact sm_ireturn dX9_callOf_130 (Or.inl rfl)
                  · rw [if_neg c22] at h
                    have l23 := sl_nx l18 c22 (b := 7) rfl
                    by_cases c27 : sm_w z2 = 7
                    · rw [if_pos c27] at h
                      refine sm_table dX9_callOf_24 131 (Or.inr ⟨⟨by omega, by omega⟩, _, (by rw [c27]; rfl), rfl⟩) ?_
                      refine sm_aload_n dX9_callOf_131 rfl ?_
                      refine sm_aload_n dX9_callOf_132 rfl ?_
                      refine sm_getR lf_RX9_10 fR_6_0 g.2.2.1 (by omega) g.2.2.2.1.2 dX9_callOf_133 ?_
                      refine sl_getI (D := 1) lf_RX9_122 fI_5_11 g.2.2.2.1.1.2.2.1 rfl (by omega) hN2 dX9_callOf_136 ?_
                      obtain ⟨p24, hp25, h⟩ := sl_bind h
                      have hc26 := bBreakdown_waited (G := G) (E := E) (o := o + 1 + (21 + (sm_w z1).toNat)) (s := (sm_lo (1 + (21 + (sm_w z1).toNat)) s)) (mi := (sm_gl o 432 s mi)) e5.2  hp25
                      rw [gl_in (o := o) (D := (1 + (21 + (sm_w z1).toNat))) (ha := ((Nat.add_assoc _ _ _) : o + 1 + (21 + (sm_w z1).toNat) = o + (1 + (21 + (sm_w z1).toNat)))) (hD := (by omega : (1 + (21 + (sm_w z1).toNat)) + 1 ≤ 432))] at hc26
                      refine sc_callV1 (avs := [.inl (s 1 11)]) (st := []) lk_RX9_129 rfl vf_X1_waited hc26 ⟨(Nat.le_of_ble_eq_true rfl), (Nat.le_of_ble_eq_true rfl)⟩ ⟨rfl, (Nat.le_of_ble_eq_true rfl)⟩ e5.2.2.2 (by omega) rfl dX9_callOf_139 ?_
                      cases h
                      exact sm_ireturn dX9_callOf_142 (Or.inl rfl)
                    · rw [if_neg c27] at h
                      have l28 := sl_nx l23 c27 (b := 8) rfl
                      by_cases c29 : sm_w z2 = 8
                      · rw [if_pos c29] at h
                        refine sm_table dX9_callOf_24 143 (Or.inr ⟨⟨by omega, by omega⟩, _, (by rw [c29]; rfl), rfl⟩) ?_
                        refine sm_aload_n dX9_callOf_143 rfl ?_
                        refine sl_getI (D := (1 + (21 + (sm_w z1).toNat))) lf_RX9_270 fI_0_6 e5.2.2.2 (Nat.add_assoc _ _ _) (by omega) hN2 dX9_callOf_144 ?_
                        cases h
                        exact sm_ireturn dX9_callOf_147 (Or.inl rfl)
                      · rw [if_neg c29] at h
                        have l30 := sl_nx l28 c29 (b := 9) rfl
                        by_cases c31 : sm_w z2 = 9
                        · rw [if_pos c31] at h
                          refine sm_table dX9_callOf_24 148 (Or.inr ⟨⟨by omega, by omega⟩, _, (by rw [c31]; rfl), rfl⟩) ?_
                          refine sm_aload_n dX9_callOf_148 rfl ?_
                          refine sl_getI (D := (1 + (21 + (sm_w z1).toNat))) lf_RX9_273 fI_0_8 e5.2.2.2 (Nat.add_assoc _ _ _) (by omega) hN2 dX9_callOf_149 ?_
                          cases h
                          exact sm_ireturn dX9_callOf_152 (Or.inl rfl)
                        · rw [if_neg c31] at h
                          have l32 := sl_nx l30 c31 (b := 10) rfl
                          by_cases c34 : sm_w z2 = 10
                          · rw [if_pos c34] at h
                            refine sm_table dX9_callOf_24 153 (Or.inr ⟨⟨by omega, by omega⟩, _, (by rw [c34]; rfl), rfl⟩) ?_
                            refine sm_aload_n dX9_callOf_153 rfl ?_
                            refine sl_getI (D := (1 + (21 + (sm_w z1).toNat))) lf_RX9_276 fI_0_10 e5.2.2.2 (Nat.add_assoc _ _ _) (by omega) hN2 dX9_callOf_154 ?_
                            refine sm_if_eq 164 dX9_callOf_157 rfl (fun c33 => ?_) (fun c33 => ?_)
                            · rw [if_pos c33] at h
                              refine sm_iconst dX9_callOf_164 ?_
                              cases h
                              exact sm_ireturn dX9_callOf_165 (Or.inl rfl)
                            · rw [if_neg c33] at h
                              refine sm_iconst dX9_callOf_160 ?_
                              refine sm_goto 165 dX9_callOf_161 rfl ?_
                              cases h
                              exact sm_ireturn dX9_callOf_165 (Or.inl rfl)
                          · rw [if_neg c34] at h
                            have l35 := sl_nx l32 c34 (b := 11) rfl
                            by_cases c43 : sm_w z2 = 11
                            · rw [if_pos c43] at h
                              refine sm_table dX9_callOf_24 166 (Or.inr ⟨⟨by omega, by omega⟩, _, (by rw [c43]; rfl), rfl⟩) ?_
                              refine sm_aload_n dX9_callOf_166 rfl ?_
                              obtain ⟨p36, hp37, h⟩ := sl_bind h
                              have hc38 := bBreakdown_isUnattended (G := G) (E := E) (o := o + 1 + (21 + (sm_w z1).toNat)) (s := (sm_lo (1 + (21 + (sm_w z1).toNat)) s)) (mi := (sm_gl o 432 s mi)) e5.2  hp37
                              rw [gl_in (o := o) (D := (1 + (21 + (sm_w z1).toNat))) (ha := ((Nat.add_assoc _ _ _) : o + 1 + (21 + (sm_w z1).toNat) = o + (1 + (21 + (sm_w z1).toNat)))) (hD := (by omega : (1 + (21 + (sm_w z1).toNat)) + 1 ≤ 432))] at hc38
                              refine sc_callV1 (avs := []) (st := []) lk_RX9_101 rfl vf_X1_isUnattended hc38 ⟨(Nat.le_of_ble_eq_true rfl), (Nat.le_of_ble_eq_true rfl)⟩ ⟨rfl, (Nat.le_of_ble_eq_true rfl)⟩ e5.2.2.2 (by omega) rfl dX9_callOf_167 ?_
                              refine sm_if_eq 192 dX9_callOf_170 rfl (fun c42 => ?_) (fun c42 => ?_)
                              · rw [if_pos c42] at h
                                refine sm_bipush dX9_callOf_192 rfl ?_
                                cases h
                                exact sm_ireturn dX9_callOf_194 (Or.inl rfl)
                              · rw [if_neg c42] at h
                                refine sm_aload_n dX9_callOf_173 rfl ?_
                                obtain ⟨p39, hp40, h⟩ := sl_bind h
                                have hc41 := bBreakdown_due (G := G) (E := E) (o := o + 1 + (21 + (sm_w z1).toNat)) (s := (sm_lo (1 + (21 + (sm_w z1).toNat)) s)) (mi := (sm_gl o 432 s mi)) e5.2  hp40
                                rw [gl_in (o := o) (D := (1 + (21 + (sm_w z1).toNat))) (ha := ((Nat.add_assoc _ _ _) : o + 1 + (21 + (sm_w z1).toNat) = o + (1 + (21 + (sm_w z1).toNat)))) (hD := (by omega : (1 + (21 + (sm_w z1).toNat)) + 1 ≤ 432))] at hc41
                                refine sc_callV1 (avs := []) (st := []) lk_RX9_279 rfl vf_X1_due hc41 ⟨(Nat.le_of_ble_eq_true rfl), (Nat.le_of_ble_eq_true rfl)⟩ ⟨rfl, (Nat.le_of_ble_eq_true rfl)⟩ e5.2.2.2 (by omega) rfl dX9_callOf_174 ?_
                                refine sm_aload_n dX9_callOf_177 rfl ?_
                                refine sm_getR lf_RX9_10 fR_6_0 g.2.2.1 (by omega) g.2.2.2.1.2 dX9_callOf_178 ?_
                                refine sl_getI (D := 1) lf_RX9_122 fI_5_11 g.2.2.2.1.1.2.2.1 rfl (by omega) hN2 dX9_callOf_181 ?_
                                refine sm_isub dX9_callOf_184 ?_
                                refine sm_sipush dX9_callOf_185 rfl ?_
                                refine sm_iadd dX9_callOf_188 ?_
                                refine sm_goto 194 dX9_callOf_189 rfl ?_
                                cases h
                                exact sm_ireturn dX9_callOf_194 (Or.inl rfl)
                            · rw [if_neg c43] at h
                              have l44 := sl_nx l35 c43 (b := 12) rfl
                              have c45 : sm_w z2 = 12 := by omega
                              refine sm_table dX9_callOf_24 195 (Or.inr ⟨⟨by omega, by omega⟩, _, (by rw [c45]; rfl), rfl⟩) ?_
                              refine sm_aload_n dX9_callOf_195 rfl ?_
                              refine sl_getI (D := (1 + (21 + (sm_w z1).toNat))) lf_RX9_282 fI_0_9 e5.2.2.2 (Nat.add_assoc _ _ _) (by omega) hN2 dX9_callOf_196 ?_
                              cases h
                              exact sm_ireturn dX9_callOf_199 (Or.inl rfl)
    · rw [if_neg c6] at h
      refine sm_table dX9_callOf_24 200 (Or.inl ⟨by omega, rfl⟩) ?_
      refine sm_bipush dX9_callOf_200 rfl ?_
      cases h
      exact sm_ireturn dX9_callOf_202 (Or.inl rfl)
  · rw [if_pos c46] at h
    refine sm_iconst dX9_callOf_11 ?_
    cases h
    exact sm_ireturn dX9_callOf_12 (Or.inl rfl)
abbrev xDesk_waiting (G : GT) : XT := (G, yX9_waiting.cls, cX9_waiting, 2, (some .int), decide (yX9_waiting.name = "<init>"), 4, 89)
def fDesk_waiting (z1 : Int) (s : MI) : Option (Int × MI) :=
  (if 0 ≤ sm_w z1 then Option.bind (fSending_putInOrder (sm_lo 1 s)) (fun p1 => Option.bind (some (sm_gl 1 61 p1.2 s)) (fun s4 => (if sm_w p1.1 ≤ sm_w z1 then some ((-5), s4) else (if 40 ≤ sm_w z1 then some ((-5), s4) else if 0 ≤ sm_w z1 ∧ sm_w z1 < 40 then some ((s4 10 (sm_w z1).toNat), s4) else none)))) else some ((-2), s))
set_option maxRecDepth 100000 in
set_option maxHeartbeats 4000000 in
theorem bDesk_waiting {G : GT} {E : ET} {o : Nat} {s mi : MI} {z1 : Int} {w : Int × MI} (g : gD E o)  (h : fDesk_waiting z1 s = some w) : cN G yX9_waiting cX9_waiting 2 (some .int) 4 89 [.inr o, .inl z1] E (sm_gl o 432 s mi) (some (.inl w.1), E, sm_gl o 432 w.2 mi) := by
  have hN1 := g.1
  have hN2 := g.2.1
  unfold fDesk_waiting at h
  refine sm_meth (by decide +kernel) (Nat.le_of_ble_eq_true rfl) ?_
  show sM (xDesk_waiting G) 0 [some (.inr o), some (.inl z1)] [] E (sm_gl o 432 s mi) _
  refine sm_iload_n dX9_waiting_0 rfl ?_
  refine sm_if_ge 7 dX9_waiting_1 rfl (fun c9 => ?_) (fun c9 => ?_)
  · rw [if_pos c9] at h
    refine sm_iload_n dX9_waiting_7 rfl ?_
    refine sm_aload_n dX9_waiting_8 rfl ?_
    refine sm_getR lf_RX9_10 fR_6_0 g.2.2.1 (by omega) g.2.2.2.1.2 dX9_waiting_9 ?_
    obtain ⟨p1, hp2, h⟩ := sl_bind h
    have hc3 := bSending_putInOrder (G := G) (E := E) (o := o + 1) (s := (sm_lo 1 s)) (mi := (sm_gl o 432 s mi)) g.2.2.2.1.1  hp2
    rw [gl_in (o := o) (D := 1) (ha := (rfl : o + 1 = o + 1)) (hD := (by omega : 1 + 61 ≤ 432)), gl_out (o := o) (D := 1) (ha := (rfl : o + 1 = o + 1)) (hD := (by omega : 1 + 61 ≤ 432))] at hc3
    refine sc_callS1 (avs := [.inr (o + 1)]) (st := [.inl z1]) lk_RX9_285 rfl sf_X6_putInOrder hc3 ⟨(Nat.le_of_ble_eq_true rfl), (Nat.le_of_ble_eq_true rfl)⟩ ⟨rfl, (Nat.le_of_ble_eq_true rfl)⟩ rfl dX9_waiting_12 ?_
    obtain ⟨s4, hs5, h⟩ := sl_bind h
    rw [Option.some.inj hs5]
    refine sc_icmp_ge (X' := sm_w z1) (Y' := sm_w p1.1) 36 dX9_waiting_15 rfl rfl rfl (fun c8 => ?_) (fun c8 => ?_)
    · rw [if_pos c8] at h
      refine sm_bipush dX9_waiting_36 rfl ?_
      cases h
      exact sm_ireturn dX9_waiting_38 (Or.inl rfl)
    · rw [if_neg c8] at h
      refine sm_iload_n dX9_waiting_18 rfl ?_
      refine sm_bipush dX9_waiting_19 rfl ?_
      refine sc_icmp_ge (X' := sm_w z1) (Y' := 40) 36 dX9_waiting_21 rfl rfl (by decide) (fun c7 => ?_) (fun c7 => ?_)
      · rw [if_pos c7] at h
        refine sm_bipush dX9_waiting_36 rfl ?_
        cases h
        exact sm_ireturn dX9_waiting_38 (Or.inl rfl)
      · rw [if_neg c7] at h
        refine sm_aload_n dX9_waiting_24 rfl ?_
        refine sm_getR lf_RX9_10 fR_6_0 g.2.2.1 (by omega) g.2.2.2.1.2 dX9_waiting_25 ?_
        refine sm_getR lf_RX9_290 fR_5_12 g.2.2.2.1.1.2.2.1 (by omega) g.2.2.2.1.1.2.2.2.2.2.2.2.2.2.2 dX9_waiting_28 ?_
        refine sm_iload_n dX9_waiting_31 rfl ?_
        obtain ⟨q6, h⟩ := sl_guard h
        have xq6 := (sl_ix (m := 40) q6).2
        refine sl_ialdk (D := 10) (k := (sm_w z1).toNat) g.2.2.2.1.1.2.2.2.2.2.2.2.2.2.1 rfl (by omega) hN2 (sl_ix (m := 40) q6) dX9_waiting_32 ?_
        refine sm_goto 38 dX9_waiting_33 rfl ?_
        cases h
        exact sm_ireturn dX9_waiting_38 (Or.inl rfl)
  · rw [if_neg c9] at h
    refine sm_bipush dX9_waiting_4 rfl ?_
    cases h
    exact sm_ireturn dX9_waiting_6 (Or.inl rfl)
abbrev xDesk_nearest (G : GT) : XT := (G, yX9_nearest.cls, cX9_nearest, 2, (some .int), decide (yX9_nearest.name = "<init>"), 3, 71)
def fDesk_nearest (z1 : Int) (s : MI) : Option (Int) :=
  Option.bind (fState_isCall z1 (sm_lo 1 s)) (fun p1 => (if sm_w p1 = 0 then some (-1) else Option.bind (fSending_waits z1 (sm_lo 1 s)) (fun p4 => (if sm_w p4 = 0 then some (-4) else if 0 ≤ sm_w z1 ∧ sm_w z1 < 40 then Option.bind (fSending_nearestPatrol (21 + (sm_w z1).toNat) (sm_lo 1 s)) (fun p9 => some p9) else none))))
set_option maxRecDepth 100000 in
set_option maxHeartbeats 4000000 in
theorem bDesk_nearest {G : GT} {E : ET} {o : Nat} {s mi : MI} {z1 : Int} {w : Int} (g : gD E o)  (h : fDesk_nearest z1 s = some w) : cN G yX9_nearest cX9_nearest 2 (some .int) 3 71 [.inr o, .inl z1] E (sm_gl o 432 s mi) (some (.inl w), E, (sm_gl o 432 s mi)) := by
  have hN1 := g.1
  have hN2 := g.2.1
  unfold fDesk_nearest at h
  refine sm_meth (by decide +kernel) (Nat.le_of_ble_eq_true rfl) ?_
  show sM (xDesk_nearest G) 0 [some (.inr o), some (.inl z1)] [] E (sm_gl o 432 s mi) _
  refine sm_aload_n dX9_nearest_0 rfl ?_
  refine sm_getR lf_RX9_10 fR_6_0 g.2.2.1 (by omega) g.2.2.2.1.2 dX9_nearest_1 ?_
  refine sm_iload_n dX9_nearest_4 rfl ?_
  obtain ⟨p1, hp2, h⟩ := sl_bind h
  have hc3 := bState_isCall (G := G) (E := E) (o := o + 1) (s := (sm_lo 1 s)) (mi := (sm_gl o 432 s mi)) g.2.2.2.1.1  hp2
  rw [gl_in (o := o) (D := 1) (ha := (rfl : o + 1 = o + 1)) (hD := (by omega : 1 + 61 ≤ 432))] at hc3
  refine sc_callV1 (avs := [.inl z1]) (st := []) lk_RX9_94 rfl vf_X7_isCall hc3 ⟨(Nat.le_of_ble_eq_true rfl), (Nat.le_of_ble_eq_true rfl)⟩ ⟨rfl, (Nat.le_of_ble_eq_true rfl)⟩ g.2.2.2.1.1.2.2.1 (by omega) rfl dX9_nearest_5 ?_
  refine sm_if_ne 13 dX9_nearest_8 rfl (fun c13 => ?_) (fun c13 => ?_)
  · rw [if_neg c13] at h
    refine sm_aload_n dX9_nearest_13 rfl ?_
    refine sm_getR lf_RX9_10 fR_6_0 g.2.2.1 (by omega) g.2.2.2.1.2 dX9_nearest_14 ?_
    refine sm_iload_n dX9_nearest_17 rfl ?_
    obtain ⟨p4, hp5, h⟩ := sl_bind h
    have hc6 := bSending_waits (G := G) (E := E) (o := o + 1) (s := (sm_lo 1 s)) (mi := (sm_gl o 432 s mi)) g.2.2.2.1.1  hp5
    rw [gl_in (o := o) (D := 1) (ha := (rfl : o + 1 = o + 1)) (hD := (by omega : 1 + 61 ≤ 432))] at hc6
    refine sc_callS1 (avs := [.inr (o + 1), .inl z1]) (st := []) lk_RX9_293 rfl sf_X6_waits hc6 ⟨(Nat.le_of_ble_eq_true rfl), (Nat.le_of_ble_eq_true rfl)⟩ ⟨rfl, (Nat.le_of_ble_eq_true rfl)⟩ rfl dX9_nearest_18 ?_
    refine sm_if_ne 27 dX9_nearest_21 rfl (fun c12 => ?_) (fun c12 => ?_)
    · rw [if_neg c12] at h
      refine sm_aload_n dX9_nearest_27 rfl ?_
      refine sm_getR lf_RX9_10 fR_6_0 g.2.2.1 (by omega) g.2.2.2.1.2 dX9_nearest_28 ?_
      refine sm_aload_n dX9_nearest_31 rfl ?_
      refine sm_getR lf_RX9_10 fR_6_0 g.2.2.1 (by omega) g.2.2.2.1.2 dX9_nearest_32 ?_
      refine sm_getR lf_RX9_97 fR_5_7 g.2.2.2.1.1.2.2.1 (by omega) g.2.2.2.1.1.2.2.2.2.2.2.2.1.1.2 dX9_nearest_35 ?_
      refine sm_iload_n dX9_nearest_38 rfl ?_
      obtain ⟨q7, h⟩ := sl_guard h
      have xq7 := (sl_ix (m := 40) q7).2
      have e8 := g.2.2.2.1.1.2.2.2.2.2.2.2.1.2 (sm_w z1).toNat xq7
      refine sl_aald (k := (sm_w z1).toNat) (Or.inr (Or.inr (Or.inl rfl))) g.2.2.2.1.1.2.2.2.2.2.2.2.1.1.1 (by omega) (sl_ix (m := 40) q7) e8.1 dX9_nearest_39 ?_
      obtain ⟨p9, hp10, h⟩ := sl_bind h
      have hc11 := bSending_nearestPatrol (G := G) (E := E) (o := o + 1) (s := (sm_lo 1 s)) (mi := (sm_gl o 432 s mi)) g.2.2.2.1.1 e8.2 (by omega) hp10
      rw [gl_in (o := o) (D := 1) (ha := (rfl : o + 1 = o + 1)) (hD := (by omega : 1 + 61 ≤ 432))] at hc11
      refine sc_callS1 (avs := [.inr (o + 1), .inr (o + 1 + (21 + (sm_w z1).toNat))]) (st := []) lk_RX9_297 rfl sf_X6_nearestPatrol hc11 ⟨(Nat.le_of_ble_eq_true rfl), (Nat.le_of_ble_eq_true rfl)⟩ ⟨rfl, (Nat.le_of_ble_eq_true rfl)⟩ rfl dX9_nearest_40 ?_
      cases h
      exact sm_ireturn dX9_nearest_43 (Or.inl rfl)
    · rw [if_pos c12] at h
      refine sm_bipush dX9_nearest_24 rfl ?_
      cases h
      exact sm_ireturn dX9_nearest_26 (Or.inl rfl)
  · rw [if_pos c13] at h
    refine sm_iconst dX9_nearest_11 ?_
    cases h
    exact sm_ireturn dX9_nearest_12 (Or.inl rfl)
abbrev xDesk_waitFor (G : GT) : XT := (G, yX9_waitFor.cls, cX9_waitFor, 4, (some .int), decide (yX9_waitFor.name = "<init>"), 6, 145)
abbrev qDesk_waitFor_l54 (G : GT) (E : ET) (o : Nat) (mi : MI) (d2 : Nat) (r : RT) (t : Int × MI) : Prop := sM (xDesk_waitFor G) 54 [some (.inr o), none, some (.inr (o + 123 + d2)), some (.inl t.1)] [] E (sm_gl o 432 t.2 mi) r
abbrev kDesk_waitFor_l54 (G : GT) (E : ET) (o : Nat) (mi : MI) (d2 : Nat) (r : RT) : (MI) ⊕ (Int × MI) → Prop := Sum.elim (fun x => sM (xDesk_waitFor G) 109 [none, none, none, none] [] E (sm_gl o 432 x mi) r) (fun v => (some (.inl v.1), E, sm_gl o 432 v.2 mi) = r)
def fDesk_waitFor_l54 (d2 : Nat) (z3 : Int) (s : MI) : Option ((Int × MI) ⊕ ((MI) ⊕ (Int × MI))) :=
  (if 240 ≤ sm_w z3 then some (.inr (.inl s)) else (if 2880 ≤ sm_w (s 123 11) then some (.inr (.inl s)) else Option.bind (fWork_passMinute (sm_lo 123 s)) (fun p23 => Option.bind (some (sm_gl 123 61 p23.2 s)) (fun s26 => (if sm_w (s26 (123 + d2) 6) = (-5) then some (.inl ((z3 + 1), s26)) else Option.bind (fBreakdown_waited (s26 123 11) (sm_lo (123 + d2) s26)) (fun p28 => some (.inr (.inr (p28, s26)))))))))
set_option maxRecDepth 100000 in
set_option maxHeartbeats 4000000 in
theorem bDesk_waitFor_l54 {G : GT} {E : ET} {o : Nat} {s mi : MI} {d2 : Nat} {z3 : Int} {r : RT} {w : (Int × MI) ⊕ ((MI) ⊕ (Int × MI))} (g : gD E o) (gd2 : gO 0 E (o + 123 + d2)) (hd2 : d2 + 1 ≤ 61) (h : fDesk_waitFor_l54 d2 z3 s = some w) (hK : Sum.elim (qDesk_waitFor_l54 G E o mi d2 r) (kDesk_waitFor_l54 G E o mi d2 r) w) : qDesk_waitFor_l54 G E o mi d2 r (z3, s) := by
  have hN1 := g.1
  have hN2 := g.2.1
  unfold fDesk_waitFor_l54 at h
  show sM (xDesk_waitFor G) 54 [some (.inr o), none, some (.inr (o + 123 + d2)), some (.inl z3)] [] E (sm_gl o 432 s mi) r
  refine sm_iload_n dX9_waitFor_54 rfl ?_
  refine sm_sipush dX9_waitFor_55 rfl ?_
  refine sc_icmp_ge (X' := sm_w z3) (Y' := 240) 109 dX9_waitFor_58 rfl rfl (by decide) (fun c33 => ?_) (fun c33 => ?_)
  · rw [if_pos c33] at h
    cases h
    exact sm_less (lv' := [none, none, none, none]) trivial hK
  · rw [if_neg c33] at h
    refine sm_aload_n dX9_waitFor_61 rfl ?_
    refine sm_getR lf_RX9_19 fR_6_2 g.2.2.1 (by omega) g.2.2.2.2.2.1.2 dX9_waitFor_62 ?_
    refine sl_getI (D := 123) lf_RX9_122 fI_5_11 g.2.2.2.2.2.1.1.2.2.1 rfl (by omega) hN2 dX9_waitFor_65 ?_
    refine sm_sipush dX9_waitFor_68 rfl ?_
    refine sc_icmp_ge (X' := sm_w (s 123 11)) (Y' := 2880) 109 dX9_waitFor_71 rfl rfl (by decide) (fun c32 => ?_) (fun c32 => ?_)
    · rw [if_pos c32] at h
      cases h
      exact sm_less (lv' := [none, none, none, none]) trivial hK
    · rw [if_neg c32] at h
      refine sm_aload_n dX9_waitFor_74 rfl ?_
      refine sm_getR lf_RX9_19 fR_6_2 g.2.2.1 (by omega) g.2.2.2.2.2.1.2 dX9_waitFor_75 ?_
      obtain ⟨p23, hp24, h⟩ := sl_bind h
      have hc25 := bWork_passMinute (G := G) (E := E) (o := o + 123) (s := (sm_lo 123 s)) (mi := (sm_gl o 432 s mi)) g.2.2.2.2.2.1.1  hp24
      rw [gl_in (o := o) (D := 123) (ha := (rfl : o + 123 = o + 123)) (hD := (by omega : 123 + 61 ≤ 432)), gl_out (o := o) (D := 123) (ha := (rfl : o + 123 = o + 123)) (hD := (by omega : 123 + 61 ≤ 432))] at hc25
      refine sc_callS1 (avs := [.inr (o + 123)]) (st := []) lk_RX9_164 rfl sf_X8_passMinute hc25 ⟨(Nat.le_of_ble_eq_true rfl), (Nat.le_of_ble_eq_true rfl)⟩ ⟨rfl, (Nat.le_of_ble_eq_true rfl)⟩ rfl dX9_waitFor_78 ?_
      obtain ⟨s26, hs27, h⟩ := sl_bind h
      rw [Option.some.inj hs27]
      refine sm_pop dX9_waitFor_81 ?_
      refine sm_aload_n dX9_waitFor_82 rfl ?_
      refine sl_getI (D := (123 + d2)) lf_RX9_270 fI_0_6 gd2.2.2 (Nat.add_assoc _ _ _) (by omega) hN2 dX9_waitFor_83 ?_
      refine sm_bipush dX9_waitFor_86 rfl ?_
      refine sc_icmp_eq (X' := sm_w (s26 (123 + d2) 6)) (Y' := (-5)) 103 dX9_waitFor_88 rfl rfl (by decide) (fun c31 => ?_) (fun c31 => ?_)
      · rw [if_pos c31] at h
        refine sm_iinc dX9_waitFor_103 (Nat.le_of_ble_eq_true rfl) rfl ?_
        refine sm_goto 54 dX9_waitFor_106 rfl ?_
        cases h
        exact sm_less (lv' := [some (.inr o), none, some (.inr (o + 123 + d2)), some (.inl (z3 + 1))]) ⟨rfl, rfl, rfl, trivial⟩ hK
      · rw [if_neg c31] at h
        refine sm_aload_n dX9_waitFor_91 rfl ?_
        refine sm_aload_n dX9_waitFor_92 rfl ?_
        refine sm_getR lf_RX9_19 fR_6_2 g.2.2.1 (by omega) g.2.2.2.2.2.1.2 dX9_waitFor_93 ?_
        refine sl_getI (D := 123) lf_RX9_122 fI_5_11 g.2.2.2.2.2.1.1.2.2.1 rfl (by omega) hN2 dX9_waitFor_96 ?_
        obtain ⟨p28, hp29, h⟩ := sl_bind h
        have hc30 := bBreakdown_waited (G := G) (E := E) (o := o + 123 + d2) (s := (sm_lo (123 + d2) s26)) (mi := (sm_gl o 432 s26 mi)) gd2  hp29
        rw [gl_in (o := o) (D := (123 + d2)) (ha := ((Nat.add_assoc _ _ _) : o + 123 + d2 = o + (123 + d2))) (hD := (by omega : (123 + d2) + 1 ≤ 432))] at hc30
        refine sc_callV1 (avs := [.inl (s26 123 11)]) (st := []) lk_RX9_129 rfl vf_X1_waited hc30 ⟨(Nat.le_of_ble_eq_true rfl), (Nat.le_of_ble_eq_true rfl)⟩ ⟨rfl, (Nat.le_of_ble_eq_true rfl)⟩ gd2.2.2 (by omega) rfl dX9_waitFor_99 ?_
        cases h
        have hK : (some (.inl (p28, s26).1), E, sm_gl o 432 (p28, s26).2 mi) = r := hK
        subst hK
        exact sm_ireturn dX9_waitFor_102 (Or.inl rfl)
def fDesk_waitFor (z1 : Int) (s : MI) : Option (Int × MI) :=
  Option.bind (fState_isCall z1 (sm_lo 1 s)) (fun p1 => (if sm_w p1 = 0 then some ((-1), s) else if 0 ≤ sm_w z1 ∧ sm_w z1 < 40 then Option.bind (fBreakdown_isUnattended (sm_lo (1 + (21 + (sm_w z1).toNat)) s)) (fun p6 => (if sm_w p6 = 0 then some ((-4), s) else Option.bind (fState_copyFrom (sm_lo 123 s) (sm_lo 1 s)) (fun p9 => Option.bind (some (sm_gl 123 61 p9 s)) (fun s12 => Option.bind (sl_it (fun (t : Int × MI) => fDesk_waitFor_l54 (21 + (sm_w z1).toNat) t.1 t.2) sl_fu (0, s12)) (fun y34 => Sum.elim (fun x36 => some ((-5), x36)) (fun v37 => some v37) y34))))) else none))
set_option maxRecDepth 100000 in
set_option maxHeartbeats 4000000 in
theorem bDesk_waitFor {G : GT} {E : ET} {o : Nat} {s mi : MI} {z1 : Int} {w : Int × MI} (g : gD E o)  (h : fDesk_waitFor z1 s = some w) : cN G yX9_waitFor cX9_waitFor 4 (some .int) 6 145 [.inr o, .inl z1] E (sm_gl o 432 s mi) (some (.inl w.1), E, sm_gl o 432 w.2 mi) := by
  have hN1 := g.1
  have hN2 := g.2.1
  unfold fDesk_waitFor at h
  refine sm_meth (by decide +kernel) (Nat.le_of_ble_eq_true rfl) ?_
  show sM (xDesk_waitFor G) 0 [some (.inr o), some (.inl z1), none, none] [] E (sm_gl o 432 s mi) _
  refine sm_aload_n dX9_waitFor_0 rfl ?_
  refine sm_getR lf_RX9_10 fR_6_0 g.2.2.1 (by omega) g.2.2.2.1.2 dX9_waitFor_1 ?_
  refine sm_iload_n dX9_waitFor_4 rfl ?_
  obtain ⟨p1, hp2, h⟩ := sl_bind h
  have hc3 := bState_isCall (G := G) (E := E) (o := o + 1) (s := (sm_lo 1 s)) (mi := (sm_gl o 432 s mi)) g.2.2.2.1.1  hp2
  rw [gl_in (o := o) (D := 1) (ha := (rfl : o + 1 = o + 1)) (hD := (by omega : 1 + 61 ≤ 432))] at hc3
  refine sc_callV1 (avs := [.inl z1]) (st := []) lk_RX9_94 rfl vf_X7_isCall hc3 ⟨(Nat.le_of_ble_eq_true rfl), (Nat.le_of_ble_eq_true rfl)⟩ ⟨rfl, (Nat.le_of_ble_eq_true rfl)⟩ g.2.2.2.1.1.2.2.1 (by omega) rfl dX9_waitFor_5 ?_
  refine sm_if_ne 13 dX9_waitFor_8 rfl (fun c39 => ?_) (fun c39 => ?_)
  · rw [if_neg c39] at h
    refine sm_aload_n dX9_waitFor_13 rfl ?_
    refine sm_getR lf_RX9_10 fR_6_0 g.2.2.1 (by omega) g.2.2.2.1.2 dX9_waitFor_14 ?_
    refine sm_getR lf_RX9_97 fR_5_7 g.2.2.2.1.1.2.2.1 (by omega) g.2.2.2.1.1.2.2.2.2.2.2.2.1.1.2 dX9_waitFor_17 ?_
    refine sm_iload_n dX9_waitFor_20 rfl ?_
    obtain ⟨q4, h⟩ := sl_guard h
    have xq4 := (sl_ix (m := 40) q4).2
    have e5 := g.2.2.2.1.1.2.2.2.2.2.2.2.1.2 (sm_w z1).toNat xq4
    refine sl_aald (k := (sm_w z1).toNat) (Or.inr (Or.inr (Or.inl rfl))) g.2.2.2.1.1.2.2.2.2.2.2.2.1.1.1 (by omega) (sl_ix (m := 40) q4) e5.1 dX9_waitFor_21 ?_
    obtain ⟨p6, hp7, h⟩ := sl_bind h
    have hc8 := bBreakdown_isUnattended (G := G) (E := E) (o := o + 1 + (21 + (sm_w z1).toNat)) (s := (sm_lo (1 + (21 + (sm_w z1).toNat)) s)) (mi := (sm_gl o 432 s mi)) e5.2  hp7
    rw [gl_in (o := o) (D := (1 + (21 + (sm_w z1).toNat))) (ha := ((Nat.add_assoc _ _ _) : o + 1 + (21 + (sm_w z1).toNat) = o + (1 + (21 + (sm_w z1).toNat)))) (hD := (by omega : (1 + (21 + (sm_w z1).toNat)) + 1 ≤ 432))] at hc8
    refine sc_callV1 (avs := []) (st := []) lk_RX9_101 rfl vf_X1_isUnattended hc8 ⟨(Nat.le_of_ble_eq_true rfl), (Nat.le_of_ble_eq_true rfl)⟩ ⟨rfl, (Nat.le_of_ble_eq_true rfl)⟩ e5.2.2.2 (by omega) rfl dX9_waitFor_22 ?_
    refine sm_if_ne 31 dX9_waitFor_25 rfl (fun c38 => ?_) (fun c38 => ?_)
    · rw [if_neg c38] at h
      refine sm_aload_n dX9_waitFor_31 rfl ?_
      refine sm_getR lf_RX9_19 fR_6_2 g.2.2.1 (by omega) g.2.2.2.2.2.1.2 dX9_waitFor_32 ?_
      refine sm_aload_n dX9_waitFor_35 rfl ?_
      refine sm_getR lf_RX9_10 fR_6_0 g.2.2.1 (by omega) g.2.2.2.1.2 dX9_waitFor_36 ?_
      obtain ⟨p9, hp10, h⟩ := sl_bind h
      have hc11 := bState_copyFrom (G := G) (E := E) (o := o + 123) (s := (sm_lo 123 s)) (mi := (sm_gl o 432 s mi)) (o2 := o + 1) (s2 := (sm_lo 1 s)) g.2.2.2.2.2.1.1 g.2.2.2.1.1 (g2_in (by omega) (by omega))  hp10
      rw [gl_in (o := o) (D := 123) (ha := (rfl : o + 123 = o + 123)) (hD := (by omega : 123 + 61 ≤ 432)), gl_out (o := o) (D := 123) (ha := (rfl : o + 123 = o + 123)) (hD := (by omega : 123 + 61 ≤ 432))] at hc11
      refine sc_callV0 (avs := [.inr (o + 1)]) (st := []) lk_RX9_180 rfl vf_X7_copyFrom hc11 ⟨(Nat.le_of_ble_eq_true rfl), (Nat.le_of_ble_eq_true rfl)⟩ ⟨rfl, (Nat.le_of_ble_eq_true rfl)⟩ g.2.2.2.2.2.1.1.2.2.1 (by omega) rfl dX9_waitFor_39 ?_
      obtain ⟨s12, hs13, h⟩ := sl_bind h
      rw [Option.some.inj hs13]
      refine sm_aload_n dX9_waitFor_42 rfl ?_
      refine sm_getR lf_RX9_19 fR_6_2 g.2.2.1 (by omega) g.2.2.2.2.2.1.2 dX9_waitFor_43 ?_
      refine sm_getR lf_RX9_97 fR_5_7 g.2.2.2.2.2.1.1.2.2.1 (by omega) g.2.2.2.2.2.1.1.2.2.2.2.2.2.2.1.1.2 dX9_waitFor_46 ?_
      refine sm_iload_n dX9_waitFor_49 rfl ?_
      have e14 := g.2.2.2.2.2.1.1.2.2.2.2.2.2.2.1.2 (sm_w z1).toNat xq4
      refine sl_aald (k := (sm_w z1).toNat) (Or.inr (Or.inr (Or.inl rfl))) g.2.2.2.2.2.1.1.2.2.2.2.2.2.2.1.1.1 (by omega) (sl_ix (m := 40) q4) e14.1 dX9_waitFor_50 ?_
      refine sm_astore_n dX9_waitFor_51 (Nat.le_of_ble_eq_true rfl) ?_
      refine sm_iconst dX9_waitFor_52 ?_
      refine sm_istore_n dX9_waitFor_53 (Nat.le_of_ble_eq_true rfl) ?_
      obtain ⟨y34, hy35, h⟩ := sl_bind h
      refine sm_less (lv' := [some (.inr o), none, some (.inr (o + 123 + (21 + (sm_w z1).toNat))), some (.inl 0)]) ⟨rfl, rfl, rfl, trivial⟩ (sl_itE (P := qDesk_waitFor_l54 G E o mi (21 + (sm_w z1).toNat) _) (K := kDesk_waitFor_l54 G E o mi (21 + (sm_w z1).toNat) _) (fun t q hq hk => bDesk_waitFor_l54 g e14.2 (by omega) hq hk) sl_fu _ y34 hy35 ?_)
      rcases y34 with x36 | v37
      · show sM (xDesk_waitFor G) 109 [none, none, none, none] [] E (sm_gl o 432 x36 mi) _
        dsimp only [Sum.elim_inl] at h
        refine sm_bipush dX9_waitFor_109 rfl ?_
        cases h
        exact sm_ireturn dX9_waitFor_111 (Or.inl rfl)
      · dsimp only [Sum.elim_inr] at h
        cases h
        exact rfl
    · rw [if_pos c38] at h
      refine sm_bipush dX9_waitFor_28 rfl ?_
      cases h
      exact sm_ireturn dX9_waitFor_30 (Or.inl rfl)
  · rw [if_pos c39] at h
    refine sm_iconst dX9_waitFor_11 ?_
    cases h
    exact sm_ireturn dX9_waitFor_12 (Or.inl rfl)
abbrev xDesk_count (G : GT) : XT := (G, yX9_count.cls, cX9_count, 2, (some .int), decide (yX9_count.name = "<init>"), 5, 109)
def fDesk_count_j24 (z1 : Int) (s : MI) : Option (Int) :=
  (if 0 ≤ sm_w z1 ∧ sm_w z1 ≤ 24 then (if sm_w z1 = 0 then some (s 1 11) else (if sm_w z1 = 1 then some (s 1 10) else (if sm_w z1 = 2 then some (s 2 0) else (if sm_w z1 = 3 then some (s 1 2) else (if sm_w z1 = 4 then some (s 1 4) else (if sm_w z1 = 5 then some (s 1 6) else (if sm_w z1 = 6 then some (s 1 8) else (if sm_w z1 = 7 then some (-2) else (if sm_w z1 = 8 then some (-2) else (if sm_w z1 = 9 then some (-2) else (if sm_w z1 = 10 then some (-2) else (if sm_w z1 = 11 then some (-2) else (if sm_w z1 = 12 then some (-2) else (if sm_w z1 = 13 then some (-2) else (if sm_w z1 = 14 then some (-2) else (if sm_w z1 = 15 then Option.bind (fBooks_ofAll 1 (sm_lo 1 s)) (fun p32 => some p32) else (if sm_w z1 = 16 then Option.bind (fBooks_ofAll 2 (sm_lo 1 s)) (fun p37 => some p37) else (if sm_w z1 = 17 then Option.bind (fBooks_ofAll 3 (sm_lo 1 s)) (fun p42 => some p42) else (if sm_w z1 = 18 then Option.bind (fBooks_ofAll 4 (sm_lo 1 s)) (fun p47 => some p47) else (if sm_w z1 = 19 then if 0 ≤ sm_w (z1 - 19) ∧ sm_w (z1 - 19) < 3 then some (s 9 (sm_w (z1 - 19)).toNat) else none else (if sm_w z1 = 20 then if 0 ≤ sm_w (z1 - 19) ∧ sm_w (z1 - 19) < 3 then some (s 9 (sm_w (z1 - 19)).toNat) else none else (if sm_w z1 = 21 then if 0 ≤ sm_w (z1 - 19) ∧ sm_w (z1 - 19) < 3 then some (s 9 (sm_w (z1 - 19)).toNat) else none else (if sm_w z1 = 22 then Option.bind (fState_patrolsOnDuty (sm_lo 1 s)) (fun p61 => some p61) else (if sm_w z1 = 23 then some (s 0 4) else some (s 185 1))))))))))))))))))))))))) else some (-2))
set_option maxRecDepth 100000 in
set_option maxHeartbeats 4000000 in
theorem bDesk_count_j24 {G : GT} {E : ET} {o : Nat} {s mi : MI} {z1 : Int} {w : Int} (g : gD E o) (gk : gK E mi)  (h : fDesk_count_j24 z1 s = some w) : sM (xDesk_count G) 24 [some (.inr o), some (.inl z1)] [] E (sm_gl o 432 s mi) (some (.inl w), E, (sm_gl o 432 s mi)) := by
  have hN1 := g.1
  have hN2 := g.2.1
  unfold fDesk_count_j24 at h
  refine sm_iload_n dX9_count_24 rfl ?_
  by_cases c1 : 0 ≤ sm_w z1 ∧ sm_w z1 ≤ 24
  · rw [if_pos c1] at h
    by_cases c2 : sm_w z1 = 0
    · rw [if_pos c2] at h
      refine sm_table dX9_count_25 140 (Or.inr ⟨⟨by omega, by omega⟩, _, (by rw [c2]; rfl), rfl⟩) ?_
      refine sm_aload_n dX9_count_140 rfl ?_
      refine sm_getR lf_RX9_10 fR_6_0 g.2.2.1 (by omega) g.2.2.2.1.2 dX9_count_141 ?_
      refine sl_getI (D := 1) lf_RX9_122 fI_5_11 g.2.2.2.1.1.2.2.1 rfl (by omega) hN2 dX9_count_144 ?_
      cases h
      exact sm_ireturn dX9_count_147 (Or.inl rfl)
    · rw [if_neg c2] at h
      have l3 := sl_nx c1.1 c2 (b := 1) rfl
      by_cases c4 : sm_w z1 = 1
      · rw [if_pos c4] at h
        refine sm_table dX9_count_25 148 (Or.inr ⟨⟨by omega, by omega⟩, _, (by rw [c4]; rfl), rfl⟩) ?_
        refine sm_aload_n dX9_count_148 rfl ?_
        refine sm_getR lf_RX9_10 fR_6_0 g.2.2.1 (by omega) g.2.2.2.1.2 dX9_count_149 ?_
        refine sl_getI (D := 1) lf_RX9_85 fI_5_10 g.2.2.2.1.1.2.2.1 rfl (by omega) hN2 dX9_count_152 ?_
        cases h
        exact sm_ireturn dX9_count_155 (Or.inl rfl)
      · rw [if_neg c4] at h
        have l5 := sl_nx l3 c4 (b := 2) rfl
        by_cases c6 : sm_w z1 = 2
        · rw [if_pos c6] at h
          refine sm_table dX9_count_25 156 (Or.inr ⟨⟨by omega, by omega⟩, _, (by rw [c6]; rfl), rfl⟩) ?_
          refine sm_aload_n dX9_count_156 rfl ?_
          refine sm_getR lf_RX9_10 fR_6_0 g.2.2.1 (by omega) g.2.2.2.1.2 dX9_count_157 ?_
          refine sm_getR lf_RX9_37 fR_5_0 g.2.2.2.1.1.2.2.1 (by omega) g.2.2.2.1.1.2.2.2.1.2 dX9_count_160 ?_
          refine sl_getI (D := 2) lf_RX9_47 fI_4_0 g.2.2.2.1.1.2.2.2.1.1.2.2.1 rfl (by omega) hN2 dX9_count_163 ?_
          cases h
          exact sm_ireturn dX9_count_166 (Or.inl rfl)
        · rw [if_neg c6] at h
          have l7 := sl_nx l5 c6 (b := 3) rfl
          by_cases c8 : sm_w z1 = 3
          · rw [if_pos c8] at h
            refine sm_table dX9_count_25 167 (Or.inr ⟨⟨by omega, by omega⟩, _, (by rw [c8]; rfl), rfl⟩) ?_
            refine sm_aload_n dX9_count_167 rfl ?_
            refine sm_getR lf_RX9_10 fR_6_0 g.2.2.1 (by omega) g.2.2.2.1.2 dX9_count_168 ?_
            refine sl_getI (D := 1) lf_RX9_61 fI_5_2 g.2.2.2.1.1.2.2.1 rfl (by omega) hN2 dX9_count_171 ?_
            cases h
            exact sm_ireturn dX9_count_174 (Or.inl rfl)
          · rw [if_neg c8] at h
            have l9 := sl_nx l7 c8 (b := 4) rfl
            by_cases c10 : sm_w z1 = 4
            · rw [if_pos c10] at h
              refine sm_table dX9_count_25 175 (Or.inr ⟨⟨by omega, by omega⟩, _, (by rw [c10]; rfl), rfl⟩) ?_
              refine sm_aload_n dX9_count_175 rfl ?_
              refine sm_getR lf_RX9_10 fR_6_0 g.2.2.1 (by omega) g.2.2.2.1.2 dX9_count_176 ?_
              refine sl_getI (D := 1) lf_RX9_68 fI_5_4 g.2.2.2.1.1.2.2.1 rfl (by omega) hN2 dX9_count_179 ?_
              cases h
              exact sm_ireturn dX9_count_182 (Or.inl rfl)
            · rw [if_neg c10] at h
              have l11 := sl_nx l9 c10 (b := 5) rfl
              by_cases c12 : sm_w z1 = 5
              · rw [if_pos c12] at h
                refine sm_table dX9_count_25 183 (Or.inr ⟨⟨by omega, by omega⟩, _, (by rw [c12]; rfl), rfl⟩) ?_
                refine sm_aload_n dX9_count_183 rfl ?_
                refine sm_getR lf_RX9_10 fR_6_0 g.2.2.1 (by omega) g.2.2.2.1.2 dX9_count_184 ?_
                refine sl_getI (D := 1) lf_RX9_75 fI_5_6 g.2.2.2.1.1.2.2.1 rfl (by omega) hN2 dX9_count_187 ?_
                cases h
                exact sm_ireturn dX9_count_190 (Or.inl rfl)
              · rw [if_neg c12] at h
                have l13 := sl_nx l11 c12 (b := 6) rfl
                by_cases c14 : sm_w z1 = 6
                · rw [if_pos c14] at h
                  refine sm_table dX9_count_25 191 (Or.inr ⟨⟨by omega, by omega⟩, _, (by rw [c14]; rfl), rfl⟩) ?_
                  refine sm_aload_n dX9_count_191 rfl ?_
                  refine sm_getR lf_RX9_10 fR_6_0 g.2.2.1 (by omega) g.2.2.2.1.2 dX9_count_192 ?_
                  refine sl_getI (D := 1) lf_RX9_304 fI_5_8 g.2.2.2.1.1.2.2.1 rfl (by omega) hN2 dX9_count_195 ?_
                  cases h
                  exact sm_ireturn dX9_count_198 (Or.inl rfl)
                · rw [if_neg c14] at h
                  have l15 := sl_nx l13 c14 (b := 7) rfl
                  by_cases c16 : sm_w z1 = 7
                  · rw [if_pos c16] at h
                    refine sm_table dX9_count_25 269 (Or.inr ⟨⟨by omega, by omega⟩, _, (by rw [c16]; rfl), rfl⟩) ?_
                    refine sm_bipush dX9_count_269 rfl ?_
                    cases h
                    exact sm_ireturn dX9_count_271 (Or.inl rfl)
                  · rw [if_neg c16] at h
                    have l17 := sl_nx l15 c16 (b := 8) rfl
                    by_cases c18 : sm_w z1 = 8
                    · rw [if_pos c18] at h
                      refine sm_table dX9_count_25 269 (Or.inr ⟨⟨by omega, by omega⟩, _, (by rw [c18]; rfl), rfl⟩) ?_
                      refine sm_bipush dX9_count_269 rfl ?_
                      cases h
                      exact sm_ireturn dX9_count_271 (Or.inl rfl)
                    · rw [if_neg c18] at h
                      have l19 := sl_nx l17 c18 (b := 9) rfl
                      by_cases c20 : sm_w z1 = 9
                      · rw [if_pos c20] at h
                        refine sm_table dX9_count_25 269 (Or.inr ⟨⟨by omega, by omega⟩, _, (by rw [c20]; rfl), rfl⟩) ?_
                        refine sm_bipush dX9_count_269 rfl ?_
                        cases h
                        exact sm_ireturn dX9_count_271 (Or.inl rfl)
                      · rw [if_neg c20] at h
                        have l21 := sl_nx l19 c20 (b := 10) rfl
                        by_cases c22 : sm_w z1 = 10
                        · rw [if_pos c22] at h
                          refine sm_table dX9_count_25 269 (Or.inr ⟨⟨by omega, by omega⟩, _, (by rw [c22]; rfl), rfl⟩) ?_
                          refine sm_bipush dX9_count_269 rfl ?_
                          cases h
                          exact sm_ireturn dX9_count_271 (Or.inl rfl)
                        · rw [if_neg c22] at h
                          have l23 := sl_nx l21 c22 (b := 11) rfl
                          by_cases c24 : sm_w z1 = 11
                          · rw [if_pos c24] at h
                            refine sm_table dX9_count_25 269 (Or.inr ⟨⟨by omega, by omega⟩, _, (by rw [c24]; rfl), rfl⟩) ?_
                            refine sm_bipush dX9_count_269 rfl ?_
                            cases h
                            exact sm_ireturn dX9_count_271 (Or.inl rfl)
                          · rw [if_neg c24] at h
                            have l25 := sl_nx l23 c24 (b := 12) rfl
                            by_cases c26 : sm_w z1 = 12
                            · rw [if_pos c26] at h
                              refine sm_table dX9_count_25 269 (Or.inr ⟨⟨by omega, by omega⟩, _, (by rw [c26]; rfl), rfl⟩) ?_
                              refine sm_bipush dX9_count_269 rfl ?_
                              cases h
                              exact sm_ireturn dX9_count_271 (Or.inl rfl)
                            · rw [if_neg c26] at h
                              have l27 := sl_nx l25 c26 (b := 13) rfl
                              by_cases c28 : sm_w z1 = 13
                              · rw [if_pos c28] at h
                                refine sm_table dX9_count_25 269 (Or.inr ⟨⟨by omega, by omega⟩, _, (by rw [c28]; rfl), rfl⟩) ?_
                                refine sm_bipush dX9_count_269 rfl ?_
                                cases h
                                exact sm_ireturn dX9_count_271 (Or.inl rfl)
                              · rw [if_neg c28] at h
                                have l29 := sl_nx l27 c28 (b := 14) rfl
                                by_cases c30 : sm_w z1 = 14
                                · rw [if_pos c30] at h
                                  refine sm_table dX9_count_25 269 (Or.inr ⟨⟨by omega, by omega⟩, _, (by rw [c30]; rfl), rfl⟩) ?_
                                  refine sm_bipush dX9_count_269 rfl ?_
                                  cases h
                                  exact sm_ireturn dX9_count_271 (Or.inl rfl)
                                · rw [if_neg c30] at h
                                  have l31 := sl_nx l29 c30 (b := 15) rfl
                                  by_cases c35 : sm_w z1 = 15
                                  · rw [if_pos c35] at h
                                    refine sm_table dX9_count_25 199 (Or.inr ⟨⟨by omega, by omega⟩, _, (by rw [c35]; rfl), rfl⟩) ?_
                                    refine sm_aload_n dX9_count_199 rfl ?_
                                    refine sm_getR lf_RX9_10 fR_6_0 g.2.2.1 (by omega) g.2.2.2.1.2 dX9_count_200 ?_
                                    refine sm_iconst dX9_count_203 ?_
                                    obtain ⟨p32, hp33, h⟩ := sl_bind h
                                    have hc34 := bBooks_ofAll (G := G) (E := E) (o := o + 1) (s := (sm_lo 1 s)) (mi := (sm_gl o 432 s mi)) g.2.2.2.1.1 (gk.gl hN1)  hp33
                                    rw [gl_in (o := o) (D := 1) (ha := (rfl : o + 1 = o + 1)) (hD := (by omega : 1 + 61 ≤ 432))] at hc34
                                    refine sc_callS1 (avs := [.inr (o + 1), .inl 1]) (st := []) lk_RX9_307 rfl sf_X0_ofAll hc34 ⟨(Nat.le_of_ble_eq_true rfl), (Nat.le_of_ble_eq_true rfl)⟩ ⟨rfl, (Nat.le_of_ble_eq_true rfl)⟩ rfl dX9_count_204 ?_
                                    cases h
                                    exact sm_ireturn dX9_count_207 (Or.inl rfl)
                                  · rw [if_neg c35] at h
                                    have l36 := sl_nx l31 c35 (b := 16) rfl
                                    by_cases c40 : sm_w z1 = 16
                                    · rw [if_pos c40] at h
                                      refine sm_table dX9_count_25 208 (Or.inr ⟨⟨by omega, by omega⟩, _, (by rw [c40]; rfl), rfl⟩) ?_
                                      refine sm_aload_n dX9_count_208 rfl ?_
                                      refine sm_getR lf_RX9_10 fR_6_0 g.2.2.1 (by omega) g.2.2.2.1.2 dX9_count_209 ?_
                                      refine sm_iconst dX9_count_212 ?_
                                      obtain ⟨p37, hp38, h⟩ := sl_bind h
                                      have hc39 := bBooks_ofAll (G := G) (E := E) (o := o + 1) (s := (sm_lo 1 s)) (mi := (sm_gl o 432 s mi)) g.2.2.2.1.1 (gk.gl hN1)  hp38
                                      rw [gl_in (o := o) (D := 1) (ha := (rfl : o + 1 = o + 1)) (hD := (by omega : 1 + 61 ≤ 432))] at hc39
                                      refine sc_callS1 (avs := [.inr (o + 1), .inl 2]) (st := []) lk_RX9_307 rfl sf_X0_ofAll hc39 ⟨(Nat.le_of_ble_eq_true rfl), (Nat.le_of_ble_eq_true rfl)⟩ ⟨rfl, (Nat.le_of_ble_eq_true rfl)⟩ rfl dX9_count_213 ?_
                                      cases h
                                      exact sm_ireturn dX9_count_216 (Or.inl rfl)
                                    · rw [if_neg c40] at h
                                      have l41 := sl_nx l36 c40 (b := 17) rfl
                                      by_cases c45 : sm_w z1 = 17
                                      · rw [if_pos c45] at h
                                        refine sm_table dX9_count_25 217 (Or.inr ⟨⟨by omega, by omega⟩, _, (by rw [c45]; rfl), rfl⟩) ?_
                                        refine sm_aload_n dX9_count_217 rfl ?_
                                        refine sm_getR lf_RX9_10 fR_6_0 g.2.2.1 (by omega) g.2.2.2.1.2 dX9_count_218 ?_
                                        refine sm_iconst dX9_count_221 ?_
                                        obtain ⟨p42, hp43, h⟩ := sl_bind h
                                        have hc44 := bBooks_ofAll (G := G) (E := E) (o := o + 1) (s := (sm_lo 1 s)) (mi := (sm_gl o 432 s mi)) g.2.2.2.1.1 (gk.gl hN1)  hp43
                                        rw [gl_in (o := o) (D := 1) (ha := (rfl : o + 1 = o + 1)) (hD := (by omega : 1 + 61 ≤ 432))] at hc44
                                        refine sc_callS1 (avs := [.inr (o + 1), .inl 3]) (st := []) lk_RX9_307 rfl sf_X0_ofAll hc44 ⟨(Nat.le_of_ble_eq_true rfl), (Nat.le_of_ble_eq_true rfl)⟩ ⟨rfl, (Nat.le_of_ble_eq_true rfl)⟩ rfl dX9_count_222 ?_
                                        cases h
                                        exact sm_ireturn dX9_count_225 (Or.inl rfl)
                                      · rw [if_neg c45] at h
                                        have l46 := sl_nx l41 c45 (b := 18) rfl
                                        by_cases c50 : sm_w z1 = 18
                                        · rw [if_pos c50] at h
                                          refine sm_table dX9_count_25 226 (Or.inr ⟨⟨by omega, by omega⟩, _, (by rw [c50]; rfl), rfl⟩) ?_
                                          refine sm_aload_n dX9_count_226 rfl ?_
                                          refine sm_getR lf_RX9_10 fR_6_0 g.2.2.1 (by omega) g.2.2.2.1.2 dX9_count_227 ?_
                                          refine sm_iconst dX9_count_230 ?_
                                          obtain ⟨p47, hp48, h⟩ := sl_bind h
                                          have hc49 := bBooks_ofAll (G := G) (E := E) (o := o + 1) (s := (sm_lo 1 s)) (mi := (sm_gl o 432 s mi)) g.2.2.2.1.1 (gk.gl hN1)  hp48
                                          rw [gl_in (o := o) (D := 1) (ha := (rfl : o + 1 = o + 1)) (hD := (by omega : 1 + 61 ≤ 432))] at hc49
                                          refine sc_callS1 (avs := [.inr (o + 1), .inl 4]) (st := []) lk_RX9_307 rfl sf_X0_ofAll hc49 ⟨(Nat.le_of_ble_eq_true rfl), (Nat.le_of_ble_eq_true rfl)⟩ ⟨rfl, (Nat.le_of_ble_eq_true rfl)⟩ rfl dX9_count_231 ?_
                                          cases h
                                          exact sm_ireturn dX9_count_234 (Or.inl rfl)
                                        · rw [if_neg c50] at h
                                          have l51 := sl_nx l46 c50 (b := 19) rfl
                                          by_cases c53 : sm_w z1 = 19
                                          · rw [if_pos c53] at h
                                            refine sm_table dX9_count_25 235 (Or.inr ⟨⟨by omega, by omega⟩, _, (by rw [c53]; rfl), rfl⟩) ?_
                                            refine sm_aload_n dX9_count_235 rfl ?_
                                            refine sm_getR lf_RX9_10 fR_6_0 g.2.2.1 (by omega) g.2.2.2.1.2 dX9_count_236 ?_
                                            refine sm_getR lf_RX9_81 fR_5_9 g.2.2.2.1.1.2.2.1 (by omega) g.2.2.2.1.1.2.2.2.2.2.2.2.2.1.2 dX9_count_239 ?_
                                            refine sm_iload_n dX9_count_242 rfl ?_
                                            refine sm_bipush dX9_count_243 rfl ?_
                                            refine sm_isub dX9_count_245 ?_
                                            obtain ⟨q52, h⟩ := sl_guard h
                                            have xq52 := (sl_ix (m := 3) q52).2
                                            refine sl_ialdk (D := 9) (k := (sm_w (z1 - 19)).toNat) g.2.2.2.1.1.2.2.2.2.2.2.2.2.1.1 rfl (by omega) hN2 (sl_ix (m := 3) q52) dX9_count_246 ?_
                                            cases h
                                            exact sm_ireturn dX9_count_247 (Or.inl rfl)
                                          · rw [if_neg c53] at h
                                            have l54 := sl_nx l51 c53 (b := 20) rfl
                                            by_cases c56 : sm_w z1 = 20
                                            · rw [if_pos c56] at h
                                              refine sm_table dX9_count_25 235 (Or.inr ⟨⟨by omega, by omega⟩, _, (by rw [c56]; rfl), rfl⟩) ?_
                                              refine sm_aload_n dX9_count_235 rfl ?_
                                              refine sm_getR lf_RX9_10 fR_6_0 g.2.2.1 (by omega) g.2.2.2.1.2 dX9_count_236 ?_
                                              refine sm_getR lf_RX9_81 fR_5_9 g.2.2.2.1.1.2.2.1 (by omega) g.2.2.2.1.1.2.2.2.2.2.2.2.2.1.2 dX9_count_239 ?_
                                              refine sm_iload_n dX9_count_242 rfl ?_
                                              refine sm_bipush dX9_count_243 rfl ?_
                                              refine sm_isub dX9_count_245 ?_
                                              obtain ⟨q55, h⟩ := sl_guard h
                                              have xq55 := (sl_ix (m := 3) q55).2
                                              refine sl_ialdk (D := 9) (k := (sm_w (z1 - 19)).toNat) g.2.2.2.1.1.2.2.2.2.2.2.2.2.1.1 rfl (by omega) hN2 (sl_ix (m := 3) q55) dX9_count_246 ?_
                                              cases h
                                              exact sm_ireturn dX9_count_247 (Or.inl rfl)
                                            · rw [if_neg c56] at h
                                              have l57 := sl_nx l54 c56 (b := 21) rfl
                                              by_cases c59 : sm_w z1 = 21
                                              · rw [if_pos c59] at h
                                                refine sm_table dX9_count_25 235 (Or.inr ⟨⟨by omega, by omega⟩, _, (by rw [c59]; rfl), rfl⟩) ?_
                                                refine sm_aload_n dX9_count_235 rfl ?_
                                                refine sm_getR lf_RX9_10 fR_6_0 g.2.2.1 (by omega) g.2.2.2.1.2 dX9_count_236 ?_
                                                refine sm_getR lf_RX9_81 fR_5_9 g.2.2.2.1.1.2.2.1 (by omega) g.2.2.2.1.1.2.2.2.2.2.2.2.2.1.2 dX9_count_239 ?_
                                                refine sm_iload_n dX9_count_242 rfl ?_
                                                refine sm_bipush dX9_count_243 rfl ?_
                                                refine sm_isub dX9_count_245 ?_
                                                obtain ⟨q58, h⟩ := sl_guard h
                                                have xq58 := (sl_ix (m := 3) q58).2
                                                refine sl_ialdk (D := 9) (k := (sm_w (z1 - 19)).toNat) g.2.2.2.1.1.2.2.2.2.2.2.2.2.1.1 rfl (by omega) hN2 (sl_ix (m := 3) q58) dX9_count_246 ?_
                                                cases h
                                                exact sm_ireturn dX9_count_247 (Or.inl rfl)
                                              · rw [if_neg c59] at h
                                                have l60 := sl_nx l57 c59 (b := 22) rfl
                                                by_cases c64 : sm_w z1 = 22
                                                · rw [if_pos c64] at h
                                                  refine sm_table dX9_count_25 248 (Or.inr ⟨⟨by omega, by omega⟩, _, (by rw [c64]; rfl), rfl⟩) ?_
                                                  refine sm_aload_n dX9_count_248 rfl ?_
                                                  refine sm_getR lf_RX9_10 fR_6_0 g.2.2.1 (by omega) g.2.2.2.1.2 dX9_count_249 ?_
                                                  obtain ⟨p61, hp62, h⟩ := sl_bind h
                                                  have hc63 := bState_patrolsOnDuty (G := G) (E := E) (o := o + 1) (s := (sm_lo 1 s)) (mi := (sm_gl o 432 s mi)) g.2.2.2.1.1  hp62
                                                  rw [gl_in (o := o) (D := 1) (ha := (rfl : o + 1 = o + 1)) (hD := (by omega : 1 + 61 ≤ 432))] at hc63
                                                  refine sc_callV1 (avs := []) (st := []) lk_RX9_138 rfl vf_X7_patrolsOnDuty hc63 ⟨(Nat.le_of_ble_eq_true rfl), (Nat.le_of_ble_eq_true rfl)⟩ ⟨rfl, (Nat.le_of_ble_eq_true rfl)⟩ g.2.2.2.1.1.2.2.1 (by omega) rfl dX9_count_252 ?_
                                                  cases h
                                                  exact sm_ireturn dX9_count_255 (Or.inl rfl)
                                                · rw [if_neg c64] at h
                                                  have l65 := sl_nx l60 c64 (b := 23) rfl
                                                  by_cases c66 : sm_w z1 = 23
                                                  · rw [if_pos c66] at h
                                                    refine sm_table dX9_count_25 256 (Or.inr ⟨⟨by omega, by omega⟩, _, (by rw [c66]; rfl), rfl⟩) ?_
                                                    refine sm_aload_n dX9_count_256 rfl ?_
                                                    refine sl_getI (D := 0) lf_RX9_192 fI_6_4 g.2.2.1 rfl (by omega) hN2 dX9_count_257 ?_
                                                    cases h
                                                    exact sm_ireturn dX9_count_260 (Or.inl rfl)
                                                  · rw [if_neg c66] at h
                                                    have l67 := sl_nx l65 c66 (b := 24) rfl
                                                    have c68 : sm_w z1 = 24 := by omega
                                                    refine sm_table dX9_count_25 261 (Or.inr ⟨⟨by omega, by omega⟩, _, (by rw [c68]; rfl), rfl⟩) ?_
                                                    refine sm_aload_n dX9_count_261 rfl ?_
                                                    refine sm_getR lf_RX9_29 fR_6_6 g.2.2.1 (by omega) g.2.2.2.2.2.2.2.1.2 dX9_count_262 ?_
                                                    refine sl_getI (D := 185) lf_RX9_174 fI_1_1 g.2.2.2.2.2.2.2.1.1.2.2.1 rfl (by omega) hN2 dX9_count_265 ?_
                                                    cases h
                                                    exact sm_ireturn dX9_count_268 (Or.inl rfl)
  · rw [if_neg c1] at h
    refine sm_table dX9_count_25 269 (Or.inl ⟨by omega, rfl⟩) ?_
    refine sm_bipush dX9_count_269 rfl ?_
    cases h
    exact sm_ireturn dX9_count_271 (Or.inl rfl)
def fDesk_count (z1 : Int) (s : MI) : Option (Int) :=
  (if sm_w z1 < 7 then fDesk_count_j24 z1 s else (if 15 ≤ sm_w z1 then fDesk_count_j24 z1 s else Option.bind (fState_callsIn (z1 - 7) (sm_lo 1 s)) (fun p69 => some p69)))
set_option maxRecDepth 100000 in
set_option maxHeartbeats 4000000 in
theorem bDesk_count {G : GT} {E : ET} {o : Nat} {s mi : MI} {z1 : Int} {w : Int} (g : gD E o) (gk : gK E mi)  (h : fDesk_count z1 s = some w) : cN G yX9_count cX9_count 2 (some .int) 5 109 [.inr o, .inl z1] E (sm_gl o 432 s mi) (some (.inl w), E, (sm_gl o 432 s mi)) := by
  have hN1 := g.1
  have hN2 := g.2.1
  unfold fDesk_count at h
  refine sm_meth (by decide +kernel) (Nat.le_of_ble_eq_true rfl) ?_
  show sM (xDesk_count G) 0 [some (.inr o), some (.inl z1)] [] E (sm_gl o 432 s mi) _
  refine sm_iload_n dX9_count_0 rfl ?_
  refine sm_bipush dX9_count_1 rfl ?_
  refine sc_icmp_lt (X' := sm_w z1) (Y' := 7) 24 dX9_count_3 rfl rfl (by decide) (fun c73 => ?_) (fun c73 => ?_)
  · rw [if_pos c73] at h
    exact sm_less (lv' := [some (.inr o), some (.inl z1)]) ⟨rfl, rfl, trivial⟩ (bDesk_count_j24 g gk   h)
  · rw [if_neg c73] at h
    refine sm_iload_n dX9_count_6 rfl ?_
    refine sm_bipush dX9_count_7 rfl ?_
    refine sc_icmp_ge (X' := sm_w z1) (Y' := 15) 24 dX9_count_9 rfl rfl (by decide) (fun c72 => ?_) (fun c72 => ?_)
    · rw [if_pos c72] at h
      exact sm_less (lv' := [some (.inr o), some (.inl z1)]) ⟨rfl, rfl, trivial⟩ (bDesk_count_j24 g gk   h)
    · rw [if_neg c72] at h
      refine sm_aload_n dX9_count_12 rfl ?_
      refine sm_getR lf_RX9_10 fR_6_0 g.2.2.1 (by omega) g.2.2.2.1.2 dX9_count_13 ?_
      refine sm_iload_n dX9_count_16 rfl ?_
      refine sm_bipush dX9_count_17 rfl ?_
      refine sm_isub dX9_count_19 ?_
      obtain ⟨p69, hp70, h⟩ := sl_bind h
      have hc71 := bState_callsIn (G := G) (E := E) (o := o + 1) (s := (sm_lo 1 s)) (mi := (sm_gl o 432 s mi)) g.2.2.2.1.1  hp70
      rw [gl_in (o := o) (D := 1) (ha := (rfl : o + 1 = o + 1)) (hD := (by omega : 1 + 61 ≤ 432))] at hc71
      refine sc_callV1 (avs := [.inl (z1 - 7)]) (st := []) lk_RX9_301 rfl vf_X7_callsIn hc71 ⟨(Nat.le_of_ble_eq_true rfl), (Nat.le_of_ble_eq_true rfl)⟩ ⟨rfl, (Nat.le_of_ble_eq_true rfl)⟩ g.2.2.2.1.1.2.2.1 (by omega) rfl dX9_count_20 ?_
      cases h
      exact sm_ireturn dX9_count_23 (Or.inl rfl)
