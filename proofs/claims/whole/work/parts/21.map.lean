abbrev xMap_road (G : GT) : XT := (G, yX5_road.cls, cX5_road, 3, (some .int), decide (yX5_road.name = "<init>"), 1, 20)
def fMap_road (z1 : Int) (z2 : Int) (s : MI) : Option (Int) :=
  Option.bind (fDesk_isArea z1) (fun p1 => (if sm_w p1 = 0 then some 0 else Option.bind (fDesk_isArea z2) (fun p4 => (if sm_w p4 = 0 then some 0 else if 0 ≤ sm_w ((z1 * 12) + z2) ∧ sm_w ((z1 * 12) + z2) < 144 then some (s 1 (sm_w ((z1 * 12) + z2)).toNat) else none))))
set_option maxRecDepth 100000 in
set_option maxHeartbeats 4000000 in
theorem bMap_road {G : GT} {E : ET} {o : Nat} {s mi : MI} {z1 : Int} {z2 : Int} {w : Int} (g : gM E o)  (h : fMap_road z1 z2 s = some w) : cN G yX5_road cX5_road 3 (some .int) 1 20 [.inr o, .inl z1, .inl z2] E (sm_gl o 3 s mi) (some (.inl w), E, (sm_gl o 3 s mi)) := by
  have hN1 := g.1
  have hN2 := g.2.1
  unfold fMap_road at h
  refine sm_meth (by decide +kernel) (Nat.le_of_ble_eq_true rfl) ?_
  show sM (xMap_road G) 0 [some (.inr o), some (.inl z1), some (.inl z2)] [] E (sm_gl o 3 s mi) _
  refine sm_iload_n dX5_road_0 rfl ?_
  obtain ⟨p1, hp2, h⟩ := sl_bind h
  have hc3 := bDesk_isArea (G := G) (E := E) (mi := (sm_gl o 3 s mi))   hp2
  refine sc_callS1 (avs := [.inl z1]) (st := []) lk_RX5_29 rfl sf_X9_isArea hc3 ⟨(Nat.le_of_ble_eq_true rfl), (Nat.le_of_ble_eq_true rfl)⟩ ⟨rfl, (Nat.le_of_ble_eq_true rfl)⟩ rfl dX5_road_1 ?_
  refine sm_if_eq 28 dX5_road_4 rfl (fun c9 => ?_) (fun c9 => ?_)
  · rw [if_pos c9] at h
    refine sm_iconst dX5_road_28 ?_
    cases h
    exact sm_ireturn dX5_road_29 (Or.inl rfl)
  · rw [if_neg c9] at h
    refine sm_iload_n dX5_road_7 rfl ?_
    obtain ⟨p4, hp5, h⟩ := sl_bind h
    have hc6 := bDesk_isArea (G := G) (E := E) (mi := (sm_gl o 3 s mi))   hp5
    refine sc_callS1 (avs := [.inl z2]) (st := []) lk_RX5_29 rfl sf_X9_isArea hc6 ⟨(Nat.le_of_ble_eq_true rfl), (Nat.le_of_ble_eq_true rfl)⟩ ⟨rfl, (Nat.le_of_ble_eq_true rfl)⟩ rfl dX5_road_8 ?_
    refine sm_if_eq 28 dX5_road_11 rfl (fun c8 => ?_) (fun c8 => ?_)
    · rw [if_pos c8] at h
      refine sm_iconst dX5_road_28 ?_
      cases h
      exact sm_ireturn dX5_road_29 (Or.inl rfl)
    · rw [if_neg c8] at h
      refine sm_aload_n dX5_road_14 rfl ?_
      refine sm_getR lf_RX5_9 fR_4_1 g.2.2.1 (by omega) g.2.2.2.1.2 dX5_road_15 ?_
      refine sm_iload_n dX5_road_18 rfl ?_
      refine sm_bipush dX5_road_19 rfl ?_
      refine sm_imul dX5_road_21 ?_
      refine sm_iload_n dX5_road_22 rfl ?_
      refine sm_iadd dX5_road_23 ?_
      obtain ⟨q7, h⟩ := sl_guard h
      have xq7 := (sl_ix (m := 144) q7).2
      refine sl_ialdk (D := 1) (k := (sm_w ((z1 * 12) + z2)).toNat) g.2.2.2.1.1 rfl (by omega) hN2 (sl_ix (m := 144) q7) dX5_road_24 ?_
      refine sm_goto 29 dX5_road_25 rfl ?_
      cases h
      exact sm_ireturn dX5_road_29 (Or.inl rfl)
abbrev xMap_copyFrom (G : GT) : XT := (G, yX5_copyFrom.cls, cX5_copyFrom, 2, none, decide (yX5_copyFrom.name = "<init>"), 1, 26)
def fMap_copyFrom  (s : MI) (s2 : MI) : Option (MI) :=
  Option.bind (some (sm_up s 0 0 (s2 0 0))) (fun s1 => Option.bind (some (sl_cp s1 s2 1 1 0 0 144)) (fun s3 => Option.bind (some (sl_cp s3 s2 2 2 0 0 144)) (fun s5 => some s5)))
set_option maxRecDepth 100000 in
set_option maxHeartbeats 4000000 in
theorem bMap_copyFrom {G : GT} {E : ET} {o : Nat} {s mi : MI} {o2 : Nat} {s2 : MI}  {w : MI} (g : gM E o) (g' : gM E o2) (h2 : g2 o 3 o2 3 s2 mi)  (h : fMap_copyFrom s s2 = some w) : cN G yX5_copyFrom cX5_copyFrom 2 none 1 26 [.inr o, .inr o2] E (sm_gl o 3 s mi) (none, E, sm_gl o 3 w mi) := by
  have hN1 := g.1
  have hN2 := g.2.1
  have hM1 := g'.1
  have hM2 := g'.2.1
  unfold fMap_copyFrom at h
  refine sm_meth (by decide +kernel) (Nat.le_of_ble_eq_true rfl) ?_
  show sM (xMap_copyFrom G) 0 [some (.inr o), some (.inr o2)] [] E (sm_gl o 3 s mi) _
  refine sm_aload_n dX5_copyFrom_0 rfl ?_
  refine sm_aload_n dX5_copyFrom_1 rfl ?_
  refine sl_getI2 (D := 0) h2 lf_RX5_19 fI_4_0 g'.2.2.1 rfl (by omega) hM2 dX5_copyFrom_2 ?_
  refine sl_putI (D := 0) lf_RX5_19 fP_4_0 (Or.inl rfl) g.2.2.1 rfl (by omega) ⟨hN1, hN2⟩ dX5_copyFrom_5 ?_
  obtain ⟨s1, hs2, h⟩ := sl_bind h
  rw [Option.some.inj hs2]
  refine sm_aload_n dX5_copyFrom_8 rfl ?_
  refine sm_getR lf_RX5_9 fR_4_1 g'.2.2.1 (by omega) g'.2.2.2.1.2 dX5_copyFrom_9 ?_
  refine sm_iconst dX5_copyFrom_12 ?_
  refine sm_aload_n dX5_copyFrom_13 rfl ?_
  refine sm_getR lf_RX5_9 fR_4_1 g.2.2.1 (by omega) g.2.2.2.1.2 dX5_copyFrom_14 ?_
  refine sm_iconst dX5_copyFrom_17 ?_
  refine sm_sipush dX5_copyFrom_18 rfl ?_
  refine sl_copy2 (D := 1) (D2 := 1) h2 lx_RX5_23 ⟨(Nat.le_of_ble_eq_true rfl), (Nat.le_of_ble_eq_true rfl)⟩ g'.2.2.2.1.1 g.2.2.2.1.1 rfl (by omega) ⟨hM1, hM2⟩ rfl (by omega) ⟨hN1, hN2⟩ ⟨by decide, by decide, by decide, by decide, by decide⟩ dX5_copyFrom_21 ?_
  show sM _ _ _ _ _ (sm_gl o 3 (sl_cp s1 s2 1 1 0 0 144) mi) _
  obtain ⟨s3, hs4, h⟩ := sl_bind h
  rw [Option.some.inj hs4]
  refine sm_aload_n dX5_copyFrom_24 rfl ?_
  refine sm_getR lf_RX5_15 fR_4_2 g'.2.2.1 (by omega) g'.2.2.2.2.2 dX5_copyFrom_25 ?_
  refine sm_iconst dX5_copyFrom_28 ?_
  refine sm_aload_n dX5_copyFrom_29 rfl ?_
  refine sm_getR lf_RX5_15 fR_4_2 g.2.2.1 (by omega) g.2.2.2.2.2 dX5_copyFrom_30 ?_
  refine sm_iconst dX5_copyFrom_33 ?_
  refine sm_sipush dX5_copyFrom_34 rfl ?_
  refine sl_copy2 (D := 2) (D2 := 2) h2 lx_RX5_23 ⟨(Nat.le_of_ble_eq_true rfl), (Nat.le_of_ble_eq_true rfl)⟩ g'.2.2.2.2.1 g.2.2.2.2.1 rfl (by omega) ⟨hM1, hM2⟩ rfl (by omega) ⟨hN1, hN2⟩ ⟨by decide, by decide, by decide, by decide, by decide⟩ dX5_copyFrom_37 ?_
  show sM _ _ _ _ _ (sm_gl o 3 (sl_cp s3 s2 2 2 0 0 144) mi) _
  obtain ⟨s5, hs6, h⟩ := sl_bind h
  rw [Option.some.inj hs6]
  cases h
  exact sm_return rfl dX5_copyFrom_40
abbrev xMap_between (G : GT) : XT := (G, yX5_between.cls, cX5_between, 3, (some .int), decide (yX5_between.name = "<init>"), 0, 0)
def fMap_between_j20  (s : MI) : Option (Int) :=
  some 1000000
set_option maxRecDepth 100000 in
set_option maxHeartbeats 4000000 in
theorem bMap_between_j20 {G : GT} {E : ET} {o : Nat} {s mi : MI}  {w : Int} (g : gM E o)  (h : fMap_between_j20 s = some w) : sM (xMap_between G) 20 [none, none, none] [] E (sm_gl o 3 s mi) (some (.inl w), E, (sm_gl o 3 s mi)) := by
  have hN1 := g.1
  have hN2 := g.2.1
  unfold fMap_between_j20 at h
  refine sm_ldc (v := 1000000) rfl lc_RX5_18 dX5_between_20 ?_
  cases h
  exact sm_ireturn dX5_between_22 (Or.inl rfl)
def fMap_between (z1 : Int) (z2 : Int) (s : MI) : Option (Int) :=
  (if sm_w z1 < 0 then fMap_between_j20 s else (if 12 ≤ sm_w z1 then fMap_between_j20 s else (if sm_w z2 < 0 then fMap_between_j20 s else (if sm_w z2 < 12 then if 0 ≤ sm_w ((z1 * 12) + z2) ∧ sm_w ((z1 * 12) + z2) < 144 then some (s 2 (sm_w ((z1 * 12) + z2)).toNat) else none else fMap_between_j20 s))))
set_option maxRecDepth 100000 in
set_option maxHeartbeats 4000000 in
theorem bMap_between {G : GT} {E : ET} {o : Nat} {s mi : MI} {z1 : Int} {z2 : Int} {w : Int} (g : gM E o)  (h : fMap_between z1 z2 s = some w) : cN G yX5_between cX5_between 3 (some .int) 0 0 [.inr o, .inl z1, .inl z2] E (sm_gl o 3 s mi) (some (.inl w), E, (sm_gl o 3 s mi)) := by
  have hN1 := g.1
  have hN2 := g.2.1
  unfold fMap_between at h
  refine sm_meth (by decide +kernel) (Nat.le_of_ble_eq_true rfl) ?_
  show sM (xMap_between G) 0 [some (.inr o), some (.inl z1), some (.inl z2)] [] E (sm_gl o 3 s mi) _
  refine sm_iload_n dX5_between_0 rfl ?_
  refine sm_if_lt 20 dX5_between_1 rfl (fun c5 => ?_) (fun c5 => ?_)
  · rw [if_pos c5] at h
    exact sm_less (lv' := [none, none, none]) trivial (bMap_between_j20 g   h)
  · rw [if_neg c5] at h
    refine sm_iload_n dX5_between_4 rfl ?_
    refine sm_bipush dX5_between_5 rfl ?_
    refine sc_icmp_ge (X' := sm_w z1) (Y' := 12) 20 dX5_between_7 rfl rfl (by decide) (fun c4 => ?_) (fun c4 => ?_)
    · rw [if_pos c4] at h
      exact sm_less (lv' := [none, none, none]) trivial (bMap_between_j20 g   h)
    · rw [if_neg c4] at h
      refine sm_iload_n dX5_between_10 rfl ?_
      refine sm_if_lt 20 dX5_between_11 rfl (fun c3 => ?_) (fun c3 => ?_)
      · rw [if_pos c3] at h
        exact sm_less (lv' := [none, none, none]) trivial (bMap_between_j20 g   h)
      · rw [if_neg c3] at h
        refine sm_iload_n dX5_between_14 rfl ?_
        refine sm_bipush dX5_between_15 rfl ?_
        refine sc_icmp_lt (X' := sm_w z2) (Y' := 12) 23 dX5_between_17 rfl rfl (by decide) (fun c2 => ?_) (fun c2 => ?_)
        · rw [if_pos c2] at h
          refine sm_aload_n dX5_between_23 rfl ?_
          refine sm_getR lf_RX5_15 fR_4_2 g.2.2.1 (by omega) g.2.2.2.2.2 dX5_between_24 ?_
          refine sm_iload_n dX5_between_27 rfl ?_
          refine sm_bipush dX5_between_28 rfl ?_
          refine sm_imul dX5_between_30 ?_
          refine sm_iload_n dX5_between_31 rfl ?_
          refine sm_iadd dX5_between_32 ?_
          obtain ⟨q1, h⟩ := sl_guard h
          have xq1 := (sl_ix (m := 144) q1).2
          refine sl_ialdk (D := 2) (k := (sm_w ((z1 * 12) + z2)).toNat) g.2.2.2.2.1 rfl (by omega) hN2 (sl_ix (m := 144) q1) dX5_between_33 ?_
          cases h
          exact sm_ireturn dX5_between_34 (Or.inl rfl)
        · rw [if_neg c2] at h
          exact sm_less (lv' := [none, none, none]) trivial (bMap_between_j20 g   h)
abbrev xMap_build (G : GT) : XT := (G, yX5_build.cls, cX5_build, 9, (some .int), decide (yX5_build.name = "<init>"), 1, 22)
abbrev qMap_build_l43 (G : GT) (E : ET) (o : Nat) (mi : MI) (z1 : Int) (z2 : Int) (z3 : Int) (r : RT) (t : Int × MI) : Prop := sM (xMap_build G) 43 [some (.inr o), some (.inl z1), some (.inl z2), some (.inl z3), some (.inl t.1), none, none, none, none] [] E (sm_gl o 3 t.2 mi) r
abbrev kMap_build_l43 (G : GT) (E : ET) (o : Nat) (mi : MI) (z1 : Int) (z2 : Int) (z3 : Int) (r : RT) (x : MI) : Prop := sM (xMap_build G) 145 [some (.inr o), none, none, none, none, none, none, none, none] [] E (sm_gl o 3 x mi) r
abbrev qMap_build_l53 (G : GT) (E : ET) (o : Nat) (mi : MI) (z1 : Int) (z2 : Int) (z3 : Int) (z4 : Int) (r : RT) (t : Int × MI) : Prop := sM (xMap_build G) 53 [some (.inr o), some (.inl z1), some (.inl z2), some (.inl z3), some (.inl z4), some (.inl t.1), none, none, none] [] E (sm_gl o 3 t.2 mi) r
abbrev kMap_build_l53 (G : GT) (E : ET) (o : Nat) (mi : MI) (z1 : Int) (z2 : Int) (z3 : Int) (z4 : Int) (r : RT) (x : MI) : Prop := sM (xMap_build G) 139 [some (.inr o), some (.inl z1), some (.inl z2), some (.inl z3), some (.inl z4), none, none, none, none] [] E (sm_gl o 3 x mi) r
def fMap_build_l53 (z1 : Int) (z2 : Int) (z3 : Int) (z4 : Int) (z5 : Int) (s : MI) : Option ((Int × MI) ⊕ (MI)) :=
  (if 12 ≤ sm_w z5 then some (.inr s) else Option.bind (fMap_between z4 z1 s) (fun p13 => Option.bind (fMap_between z2 z5 s) (fun p16 => Option.bind (fMap_between z4 z2 s) (fun p19 => Option.bind (fMap_between z1 z5 s) (fun p22 => Option.bind (fMap_between z4 z5 s) (fun p25 => if 0 ≤ sm_w ((z4 * 12) + z5) ∧ sm_w ((z4 * 12) + z5) < 144 then Option.bind (some (sm_up s 2 (sm_w ((z4 * 12) + z5)).toNat (sm_min p25 (sm_min ((p13 + z3) + p16) ((p19 + z3) + p22))))) (fun s29 => some (.inl ((z5 + 1), s29))) else none))))))
set_option maxRecDepth 100000 in
set_option maxHeartbeats 4000000 in
theorem bMap_build_l53 {G : GT} {E : ET} {o : Nat} {s mi : MI} {z1 : Int} {z2 : Int} {z3 : Int} {z4 : Int} {z5 : Int} {r : RT} {w : (Int × MI) ⊕ (MI)} (g : gM E o)  (h : fMap_build_l53 z1 z2 z3 z4 z5 s = some w) (hK : Sum.elim (qMap_build_l53 G E o mi z1 z2 z3 z4 r) (kMap_build_l53 G E o mi z1 z2 z3 z4 r) w) : qMap_build_l53 G E o mi z1 z2 z3 z4 r (z5, s) := by
  have hN1 := g.1
  have hN2 := g.2.1
  unfold fMap_build_l53 at h
  show sM (xMap_build G) 53 [some (.inr o), some (.inl z1), some (.inl z2), some (.inl z3), some (.inl z4), some (.inl z5), none, none, none] [] E (sm_gl o 3 s mi) r
  refine sm_iload dX5_build_53 rfl ?_
  refine sm_bipush dX5_build_55 rfl ?_
  refine sc_icmp_ge (X' := sm_w z5) (Y' := 12) 139 dX5_build_57 rfl rfl (by decide) (fun c31 => ?_) (fun c31 => ?_)
  · rw [if_pos c31] at h
    cases h
    exact sm_less (lv' := [some (.inr o), some (.inl z1), some (.inl z2), some (.inl z3), some (.inl z4), none, none, none, none]) ⟨rfl, rfl, rfl, rfl, rfl, trivial⟩ hK
  · rw [if_neg c31] at h
    refine sm_aload_n dX5_build_60 rfl ?_
    refine sm_iload dX5_build_61 rfl ?_
    refine sm_iload_n dX5_build_63 rfl ?_
    obtain ⟨p13, hp14, h⟩ := sl_bind h
    have hc15 := bMap_between (G := G) (E := E) (o := o) (s := s) (mi := mi) g  hp14
    refine sc_callV1 (avs := [.inl z4, .inl z1]) (st := []) lk_RX5_33 rfl vf_X5_between hc15 ⟨(Nat.le_of_ble_eq_true rfl), (Nat.le_of_ble_eq_true rfl)⟩ ⟨rfl, (Nat.le_of_ble_eq_true rfl)⟩ g.2.2.1 (by omega) rfl dX5_build_64 ?_
    refine sm_iload_n dX5_build_67 rfl ?_
    refine sm_iadd dX5_build_68 ?_
    refine sm_aload_n dX5_build_69 rfl ?_
    refine sm_iload_n dX5_build_70 rfl ?_
    refine sm_iload dX5_build_71 rfl ?_
    obtain ⟨p16, hp17, h⟩ := sl_bind h
    have hc18 := bMap_between (G := G) (E := E) (o := o) (s := s) (mi := mi) g  hp17
    refine sc_callV1 (avs := [.inl z2, .inl z5]) (st := [.inl (p13 + z3)]) lk_RX5_33 rfl vf_X5_between hc18 ⟨(Nat.le_of_ble_eq_true rfl), (Nat.le_of_ble_eq_true rfl)⟩ ⟨rfl, (Nat.le_of_ble_eq_true rfl)⟩ g.2.2.1 (by omega) rfl dX5_build_73 ?_
    refine sm_iadd dX5_build_76 ?_
    refine sm_istore dX5_build_77 (Nat.le_of_ble_eq_true rfl) ?_
    refine sm_aload_n dX5_build_79 rfl ?_
    refine sm_iload dX5_build_80 rfl ?_
    refine sm_iload_n dX5_build_82 rfl ?_
    obtain ⟨p19, hp20, h⟩ := sl_bind h
    have hc21 := bMap_between (G := G) (E := E) (o := o) (s := s) (mi := mi) g  hp20
    refine sc_callV1 (avs := [.inl z4, .inl z2]) (st := []) lk_RX5_33 rfl vf_X5_between hc21 ⟨(Nat.le_of_ble_eq_true rfl), (Nat.le_of_ble_eq_true rfl)⟩ ⟨rfl, (Nat.le_of_ble_eq_true rfl)⟩ g.2.2.1 (by omega) rfl dX5_build_83 ?_
    refine sm_iload_n dX5_build_86 rfl ?_
    refine sm_iadd dX5_build_87 ?_
    refine sm_aload_n dX5_build_88 rfl ?_
    refine sm_iload_n dX5_build_89 rfl ?_
    refine sm_iload dX5_build_90 rfl ?_
    obtain ⟨p22, hp23, h⟩ := sl_bind h
    have hc24 := bMap_between (G := G) (E := E) (o := o) (s := s) (mi := mi) g  hp23
    refine sc_callV1 (avs := [.inl z1, .inl z5]) (st := [.inl (p19 + z3)]) lk_RX5_33 rfl vf_X5_between hc24 ⟨(Nat.le_of_ble_eq_true rfl), (Nat.le_of_ble_eq_true rfl)⟩ ⟨rfl, (Nat.le_of_ble_eq_true rfl)⟩ g.2.2.1 (by omega) rfl dX5_build_92 ?_
    refine sm_iadd dX5_build_95 ?_
    refine sm_istore dX5_build_96 (Nat.le_of_ble_eq_true rfl) ?_
    refine sm_aload_n dX5_build_98 rfl ?_
    refine sm_iload dX5_build_99 rfl ?_
    refine sm_iload dX5_build_101 rfl ?_
    obtain ⟨p25, hp26, h⟩ := sl_bind h
    have hc27 := bMap_between (G := G) (E := E) (o := o) (s := s) (mi := mi) g  hp26
    refine sc_callV1 (avs := [.inl z4, .inl z5]) (st := []) lk_RX5_33 rfl vf_X5_between hc27 ⟨(Nat.le_of_ble_eq_true rfl), (Nat.le_of_ble_eq_true rfl)⟩ ⟨rfl, (Nat.le_of_ble_eq_true rfl)⟩ g.2.2.1 (by omega) rfl dX5_build_103 ?_
    refine sm_iload dX5_build_106 rfl ?_
    refine sm_iload dX5_build_108 rfl ?_
    refine sm_mmin lm_RX5_37 ⟨(Nat.le_of_ble_eq_true rfl), (Nat.le_of_ble_eq_true rfl)⟩ dX5_build_110 ?_
    refine sm_mmin lm_RX5_37 ⟨(Nat.le_of_ble_eq_true rfl), (Nat.le_of_ble_eq_true rfl)⟩ dX5_build_113 ?_
    refine sm_istore dX5_build_116 (Nat.le_of_ble_eq_true rfl) ?_
    refine sm_aload_n dX5_build_118 rfl ?_
    refine sm_getR lf_RX5_15 fR_4_2 g.2.2.1 (by omega) g.2.2.2.2.2 dX5_build_119 ?_
    refine sm_iload dX5_build_122 rfl ?_
    refine sm_bipush dX5_build_124 rfl ?_
    refine sm_imul dX5_build_126 ?_
    refine sm_iload dX5_build_127 rfl ?_
    refine sm_iadd dX5_build_129 ?_
    refine sm_iload dX5_build_130 rfl ?_
    obtain ⟨q28, h⟩ := sl_guard h
    have xq28 := (sl_ix (m := 144) q28).2
    refine sl_iastk (D := 2) (k := (sm_w ((z4 * 12) + z5)).toNat) g.2.2.2.2.1 rfl (by omega) ⟨hN1, hN2⟩ (sl_ix (m := 144) q28) dX5_build_132 ?_
    obtain ⟨s29, hs30, h⟩ := sl_bind h
    rw [Option.some.inj hs30]
    refine sm_iinc dX5_build_133 (Nat.le_of_ble_eq_true rfl) rfl ?_
    refine sm_goto 53 dX5_build_136 rfl ?_
    cases h
    exact sm_less (lv' := [some (.inr o), some (.inl z1), some (.inl z2), some (.inl z3), some (.inl z4), some (.inl (z5 + 1)), none, none, none]) ⟨rfl, rfl, rfl, rfl, rfl, rfl, trivial⟩ hK
def fMap_build_l43 (z1 : Int) (z2 : Int) (z3 : Int) (z4 : Int) (s : MI) : Option ((Int × MI) ⊕ (MI)) :=
  (if 12 ≤ sm_w z4 then some (.inr s) else Option.bind (sl_it (fun (t : Int × MI) => fMap_build_l53 z1 z2 z3 z4 t.1 t.2) sl_fu (0, s)) (fun x34 => some (.inl ((z4 + 1), x34))))
set_option maxRecDepth 100000 in
set_option maxHeartbeats 4000000 in
theorem bMap_build_l43 {G : GT} {E : ET} {o : Nat} {s mi : MI} {z1 : Int} {z2 : Int} {z3 : Int} {z4 : Int} {r : RT} {w : (Int × MI) ⊕ (MI)} (g : gM E o)  (h : fMap_build_l43 z1 z2 z3 z4 s = some w) (hK : Sum.elim (qMap_build_l43 G E o mi z1 z2 z3 r) (kMap_build_l43 G E o mi z1 z2 z3 r) w) : qMap_build_l43 G E o mi z1 z2 z3 r (z4, s) := by
  have hN1 := g.1
  have hN2 := g.2.1
  unfold fMap_build_l43 at h
  show sM (xMap_build G) 43 [some (.inr o), some (.inl z1), some (.inl z2), some (.inl z3), some (.inl z4), none, none, none, none] [] E (sm_gl o 3 s mi) r
  refine sm_iload dX5_build_43 rfl ?_
  refine sm_bipush dX5_build_45 rfl ?_
  refine sc_icmp_ge (X' := sm_w z4) (Y' := 12) 145 dX5_build_47 rfl rfl (by decide) (fun c35 => ?_) (fun c35 => ?_)
  · rw [if_pos c35] at h
    cases h
    exact sm_less (lv' := [some (.inr o), none, none, none, none, none, none, none, none]) ⟨rfl, trivial⟩ hK
  · rw [if_neg c35] at h
    refine sm_iconst dX5_build_50 ?_
    refine sm_istore dX5_build_51 (Nat.le_of_ble_eq_true rfl) ?_
    obtain ⟨x34, hy33, h⟩ := sl_bind h
    refine sm_less (lv' := [some (.inr o), some (.inl z1), some (.inl z2), some (.inl z3), some (.inl z4), some (.inl 0), none, none, none]) ⟨rfl, rfl, rfl, rfl, rfl, rfl, trivial⟩ (sl_itE (P := qMap_build_l53 G E o mi z1 z2 z3 z4 _) (K := kMap_build_l53 G E o mi z1 z2 z3 z4 _) (fun t q hq hk => bMap_build_l53 g  hq hk) sl_fu _ x34 hy33 ?_)
    show sM (xMap_build G) 139 [some (.inr o), some (.inl z1), some (.inl z2), some (.inl z3), some (.inl z4), none, none, none, none] [] E (sm_gl o 3 x34 mi) _
    refine sm_iinc dX5_build_139 (Nat.le_of_ble_eq_true rfl) rfl ?_
    refine sm_goto 43 dX5_build_142 rfl ?_
    cases h
    exact sm_less (lv' := [some (.inr o), some (.inl z1), some (.inl z2), some (.inl z3), some (.inl (z4 + 1)), none, none, none, none]) ⟨rfl, rfl, rfl, rfl, rfl, trivial⟩ hK
def fMap_build (z1 : Int) (z2 : Int) (z3 : Int) (s : MI) : Option (Int × MI) :=
  Option.bind (fDesk_isArea z1) (fun p1 => (if sm_w p1 = 0 then some ((-1), s) else Option.bind (fDesk_isArea z2) (fun p4 => (if sm_w p4 = 0 then some ((-1), s) else if 0 ≤ sm_w ((z1 * 12) + z2) ∧ sm_w ((z1 * 12) + z2) < 144 then Option.bind (some (sm_up s 1 (sm_w ((z1 * 12) + z2)).toNat z3)) (fun s8 => if 0 ≤ sm_w ((z2 * 12) + z1) ∧ sm_w ((z2 * 12) + z1) < 144 then Option.bind (some (sm_up s8 1 (sm_w ((z2 * 12) + z1)).toNat z3)) (fun s11 => Option.bind (sl_it (fun (t : Int × MI) => fMap_build_l43 z1 z2 z3 t.1 t.2) sl_fu (0, s11)) (fun x38 => Option.bind (some (sm_up x38 0 0 ((x38 0 0) + 1))) (fun s39 => some (((s39 0 0) - 1), s39)))) else none) else none))))
set_option maxRecDepth 100000 in
set_option maxHeartbeats 4000000 in
theorem bMap_build {G : GT} {E : ET} {o : Nat} {s mi : MI} {z1 : Int} {z2 : Int} {z3 : Int} {w : Int × MI} (g : gM E o)  (h : fMap_build z1 z2 z3 s = some w) : cN G yX5_build cX5_build 9 (some .int) 1 22 [.inr o, .inl z1, .inl z2, .inl z3] E (sm_gl o 3 s mi) (some (.inl w.1), E, sm_gl o 3 w.2 mi) := by
  have hN1 := g.1
  have hN2 := g.2.1
  unfold fMap_build at h
  refine sm_meth (by decide +kernel) (Nat.le_of_ble_eq_true rfl) ?_
  show sM (xMap_build G) 0 [some (.inr o), some (.inl z1), some (.inl z2), some (.inl z3), none, none, none, none, none] [] E (sm_gl o 3 s mi) _
  refine sm_iload_n dX5_build_0 rfl ?_
  obtain ⟨p1, hp2, h⟩ := sl_bind h
  have hc3 := bDesk_isArea (G := G) (E := E) (mi := (sm_gl o 3 s mi))   hp2
  refine sc_callS1 (avs := [.inl z1]) (st := []) lk_RX5_29 rfl sf_X9_isArea hc3 ⟨(Nat.le_of_ble_eq_true rfl), (Nat.le_of_ble_eq_true rfl)⟩ ⟨rfl, (Nat.le_of_ble_eq_true rfl)⟩ rfl dX5_build_1 ?_
  refine sm_if_eq 14 dX5_build_4 rfl (fun c42 => ?_) (fun c42 => ?_)
  · rw [if_pos c42] at h
    refine sm_iconst dX5_build_14 ?_
    cases h
    exact sm_ireturn dX5_build_15 (Or.inl rfl)
  · rw [if_neg c42] at h
    refine sm_iload_n dX5_build_7 rfl ?_
    obtain ⟨p4, hp5, h⟩ := sl_bind h
    have hc6 := bDesk_isArea (G := G) (E := E) (mi := (sm_gl o 3 s mi))   hp5
    refine sc_callS1 (avs := [.inl z2]) (st := []) lk_RX5_29 rfl sf_X9_isArea hc6 ⟨(Nat.le_of_ble_eq_true rfl), (Nat.le_of_ble_eq_true rfl)⟩ ⟨rfl, (Nat.le_of_ble_eq_true rfl)⟩ rfl dX5_build_8 ?_
    refine sm_if_ne 16 dX5_build_11 rfl (fun c41 => ?_) (fun c41 => ?_)
    · rw [if_neg c41] at h
      refine sm_aload_n dX5_build_16 rfl ?_
      refine sm_getR lf_RX5_9 fR_4_1 g.2.2.1 (by omega) g.2.2.2.1.2 dX5_build_17 ?_
      refine sm_iload_n dX5_build_20 rfl ?_
      refine sm_bipush dX5_build_21 rfl ?_
      refine sm_imul dX5_build_23 ?_
      refine sm_iload_n dX5_build_24 rfl ?_
      refine sm_iadd dX5_build_25 ?_
      refine sm_iload_n dX5_build_26 rfl ?_
      obtain ⟨q7, h⟩ := sl_guard h
      have xq7 := (sl_ix (m := 144) q7).2
      refine sl_iastk (D := 1) (k := (sm_w ((z1 * 12) + z2)).toNat) g.2.2.2.1.1 rfl (by omega) ⟨hN1, hN2⟩ (sl_ix (m := 144) q7) dX5_build_27 ?_
      obtain ⟨s8, hs9, h⟩ := sl_bind h
      rw [Option.some.inj hs9]
      refine sm_aload_n dX5_build_28 rfl ?_
      refine sm_getR lf_RX5_9 fR_4_1 g.2.2.1 (by omega) g.2.2.2.1.2 dX5_build_29 ?_
      refine sm_iload_n dX5_build_32 rfl ?_
      refine sm_bipush dX5_build_33 rfl ?_
      refine sm_imul dX5_build_35 ?_
      refine sm_iload_n dX5_build_36 rfl ?_
      refine sm_iadd dX5_build_37 ?_
      refine sm_iload_n dX5_build_38 rfl ?_
      obtain ⟨q10, h⟩ := sl_guard h
      have xq10 := (sl_ix (m := 144) q10).2
      refine sl_iastk (D := 1) (k := (sm_w ((z2 * 12) + z1)).toNat) g.2.2.2.1.1 rfl (by omega) ⟨hN1, hN2⟩ (sl_ix (m := 144) q10) dX5_build_39 ?_
      obtain ⟨s11, hs12, h⟩ := sl_bind h
      rw [Option.some.inj hs12]
      refine sm_iconst dX5_build_40 ?_
      refine sm_istore dX5_build_41 (Nat.le_of_ble_eq_true rfl) ?_
      obtain ⟨x38, hy37, h⟩ := sl_bind h
      refine sm_less (lv' := [some (.inr o), some (.inl z1), some (.inl z2), some (.inl z3), some (.inl 0), none, none, none, none]) ⟨rfl, rfl, rfl, rfl, rfl, trivial⟩ (sl_itE (P := qMap_build_l43 G E o mi z1 z2 z3 _) (K := kMap_build_l43 G E o mi z1 z2 z3 _) (fun t q hq hk => bMap_build_l43 g  hq hk) sl_fu _ x38 hy37 ?_)
      show sM (xMap_build G) 145 [some (.inr o), none, none, none, none, none, none, none, none] [] E (sm_gl o 3 x38 mi) _
      refine sm_aload_n dX5_build_145 rfl ?_
      refine sm_dup dX5_build_146 ?_
      refine sl_getI (D := 0) lf_RX5_19 fI_4_0 g.2.2.1 rfl (by omega) hN2 dX5_build_147 ?_
      refine sm_iconst dX5_build_150 ?_
      refine sm_iadd dX5_build_151 ?_
      refine sl_putI (D := 0) lf_RX5_19 fP_4_0 (Or.inl rfl) g.2.2.1 rfl (by omega) ⟨hN1, hN2⟩ dX5_build_152 ?_
      obtain ⟨s39, hs40, h⟩ := sl_bind h
      rw [Option.some.inj hs40]
      refine sm_aload_n dX5_build_155 rfl ?_
      refine sl_getI (D := 0) lf_RX5_19 fI_4_0 g.2.2.1 rfl (by omega) hN2 dX5_build_156 ?_
      refine sm_iconst dX5_build_159 ?_
      refine sm_isub dX5_build_160 ?_
      cases h
      exact sm_ireturn dX5_build_161 (Or.inl rfl)
    · rw [if_pos c41] at h
      refine sm_iconst dX5_build_14 ?_
      cases h
      exact sm_ireturn dX5_build_15 (Or.inl rfl)
abbrev xMap_nextOnWay (G : GT) : XT := (G, yX5_nextOnWay.cls, cX5_nextOnWay, 6, (some .int), decide (yX5_nextOnWay.name = "<init>"), 0, 0)
abbrev qMap_nextOnWay_l38 (G : GT) (E : ET) (o : Nat) (mi : MI) (z1 : Int) (z2 : Int) (z3 : Int) (s : MI) (r : RT) (t : Int) : Prop := sM (xMap_nextOnWay G) 38 [some (.inr o), some (.inl z1), some (.inl z2), some (.inl z3), some (.inl t), none] [] E (sm_gl o 3 s mi) r
abbrev kMap_nextOnWay_l38 (G : GT) (E : ET) (o : Nat) (mi : MI) (z1 : Int) (z2 : Int) (z3 : Int) (s : MI) (r : RT) : (Unit) ⊕ (Int) → Prop := Sum.elim (fun x => sM (xMap_nextOnWay G) 98 [none, none, none, none, none, none] [] E (sm_gl o 3 s mi) r) (fun v => (some (.inl v), E, (sm_gl o 3 s mi)) = r)
def fMap_nextOnWay_j92_l38 (z1 : Int) (z2 : Int) (z3 : Int) (z4 : Int) (s : MI) : Option ((Int) ⊕ ((Unit) ⊕ (Int))) :=
  some (.inl (z4 + 1))
set_option maxRecDepth 100000 in
set_option maxHeartbeats 4000000 in
theorem bMap_nextOnWay_j92_l38 {G : GT} {E : ET} {o : Nat} {s mi : MI} {z1 : Int} {z2 : Int} {z3 : Int} {z4 : Int} {r : RT} {w : (Int) ⊕ ((Unit) ⊕ (Int))} (g : gM E o)  (h : fMap_nextOnWay_j92_l38 z1 z2 z3 z4 s = some w) (hK : Sum.elim (qMap_nextOnWay_l38 G E o mi z1 z2 z3 s r) (kMap_nextOnWay_l38 G E o mi z1 z2 z3 s r) w) : sM (xMap_nextOnWay G) 92 [some (.inr o), some (.inl z1), some (.inl z2), some (.inl z3), some (.inl z4), none] [] E (sm_gl o 3 s mi) r := by
  have hN1 := g.1
  have hN2 := g.2.1
  unfold fMap_nextOnWay_j92_l38 at h
  refine sm_iinc dX5_nextOnWay_92 (Nat.le_of_ble_eq_true rfl) rfl ?_
  refine sm_goto 38 dX5_nextOnWay_95 rfl ?_
  cases h
  exact sm_less (lv' := [some (.inr o), some (.inl z1), some (.inl z2), some (.inl z3), some (.inl (z4 + 1)), none]) ⟨rfl, rfl, rfl, rfl, rfl, trivial⟩ hK
def fMap_nextOnWay_l38 (z1 : Int) (z2 : Int) (z3 : Int) (z4 : Int) (s : MI) : Option ((Int) ⊕ ((Unit) ⊕ (Int))) :=
  (if 12 ≤ sm_w z4 then some (.inr (.inl ())) else (if 1000000 ≤ sm_w z3 then some (.inr (.inl ())) else if 0 ≤ sm_w ((z1 * 12) + z4) ∧ sm_w ((z1 * 12) + z4) < 144 then (if sm_w (s 1 (sm_w ((z1 * 12) + z4)).toNat) ≤ 0 then fMap_nextOnWay_j92_l38 z1 z2 z3 z4 s else if 0 ≤ sm_w ((z4 * 12) + z2) ∧ sm_w ((z4 * 12) + z2) < 144 then (if sm_w ((s 1 (sm_w ((z1 * 12) + z4)).toNat) + (s 2 (sm_w ((z4 * 12) + z2)).toNat)) = sm_w z3 then some (.inr (.inr z4)) else fMap_nextOnWay_j92_l38 z1 z2 z3 z4 s) else none) else none))
set_option maxRecDepth 100000 in
set_option maxHeartbeats 4000000 in
theorem bMap_nextOnWay_l38 {G : GT} {E : ET} {o : Nat} {s mi : MI} {z1 : Int} {z2 : Int} {z3 : Int} {z4 : Int} {r : RT} {w : (Int) ⊕ ((Unit) ⊕ (Int))} (g : gM E o)  (h : fMap_nextOnWay_l38 z1 z2 z3 z4 s = some w) (hK : Sum.elim (qMap_nextOnWay_l38 G E o mi z1 z2 z3 s r) (kMap_nextOnWay_l38 G E o mi z1 z2 z3 s r) w) : qMap_nextOnWay_l38 G E o mi z1 z2 z3 s r z4 := by
  have hN1 := g.1
  have hN2 := g.2.1
  unfold fMap_nextOnWay_l38 at h
  show sM (xMap_nextOnWay G) 38 [some (.inr o), some (.inl z1), some (.inl z2), some (.inl z3), some (.inl z4), none] [] E (sm_gl o 3 s mi) r
  refine sm_iload dX5_nextOnWay_38 rfl ?_
  refine sm_bipush dX5_nextOnWay_40 rfl ?_
  refine sc_icmp_ge (X' := sm_w z4) (Y' := 12) 98 dX5_nextOnWay_42 rfl rfl (by decide) (fun c9 => ?_) (fun c9 => ?_)
  · rw [if_pos c9] at h
    cases h
    exact sm_less (lv' := [none, none, none, none, none, none]) trivial hK
  · rw [if_neg c9] at h
    refine sm_iload_n dX5_nextOnWay_45 rfl ?_
    refine sm_ldc (v := 1000000) rfl lc_RX5_18 dX5_nextOnWay_46 ?_
    refine sc_icmp_ge (X' := sm_w z3) (Y' := 1000000) 98 dX5_nextOnWay_48 rfl rfl (by decide) (fun c8 => ?_) (fun c8 => ?_)
    · rw [if_pos c8] at h
      cases h
      exact sm_less (lv' := [none, none, none, none, none, none]) trivial hK
    · rw [if_neg c8] at h
      refine sm_aload_n dX5_nextOnWay_51 rfl ?_
      refine sm_getR lf_RX5_9 fR_4_1 g.2.2.1 (by omega) g.2.2.2.1.2 dX5_nextOnWay_52 ?_
      refine sm_iload_n dX5_nextOnWay_55 rfl ?_
      refine sm_bipush dX5_nextOnWay_56 rfl ?_
      refine sm_imul dX5_nextOnWay_58 ?_
      refine sm_iload dX5_nextOnWay_59 rfl ?_
      refine sm_iadd dX5_nextOnWay_61 ?_
      obtain ⟨q4, h⟩ := sl_guard h
      have xq4 := (sl_ix (m := 144) q4).2
      refine sl_ialdk (D := 1) (k := (sm_w ((z1 * 12) + z4)).toNat) g.2.2.2.1.1 rfl (by omega) hN2 (sl_ix (m := 144) q4) dX5_nextOnWay_62 ?_
      refine sm_istore dX5_nextOnWay_63 (Nat.le_of_ble_eq_true rfl) ?_
      refine sm_iload dX5_nextOnWay_65 rfl ?_
      refine sm_if_le 92 dX5_nextOnWay_67 rfl (fun c7 => ?_) (fun c7 => ?_)
      · rw [if_pos c7] at h
        exact sm_less (lv' := [some (.inr o), some (.inl z1), some (.inl z2), some (.inl z3), some (.inl z4), none]) ⟨rfl, rfl, rfl, rfl, rfl, trivial⟩ (bMap_nextOnWay_j92_l38 g   h hK)
      · rw [if_neg c7] at h
        refine sm_iload dX5_nextOnWay_70 rfl ?_
        refine sm_aload_n dX5_nextOnWay_72 rfl ?_
        refine sm_getR lf_RX5_15 fR_4_2 g.2.2.1 (by omega) g.2.2.2.2.2 dX5_nextOnWay_73 ?_
        refine sm_iload dX5_nextOnWay_76 rfl ?_
        refine sm_bipush dX5_nextOnWay_78 rfl ?_
        refine sm_imul dX5_nextOnWay_80 ?_
        refine sm_iload_n dX5_nextOnWay_81 rfl ?_
        refine sm_iadd dX5_nextOnWay_82 ?_
        obtain ⟨q5, h⟩ := sl_guard h
        have xq5 := (sl_ix (m := 144) q5).2
        refine sl_ialdk (D := 2) (k := (sm_w ((z4 * 12) + z2)).toNat) g.2.2.2.2.1 rfl (by omega) hN2 (sl_ix (m := 144) q5) dX5_nextOnWay_83 ?_
        refine sm_iadd dX5_nextOnWay_84 ?_
        refine sm_iload_n dX5_nextOnWay_85 rfl ?_
        refine sc_icmp_ne (X' := sm_w ((s 1 (sm_w ((z1 * 12) + z4)).toNat) + (s 2 (sm_w ((z4 * 12) + z2)).toNat))) (Y' := sm_w z3) 92 dX5_nextOnWay_86 rfl rfl rfl (fun c6 => ?_) (fun c6 => ?_)
        · rw [if_neg c6] at h
          exact sm_less (lv' := [some (.inr o), some (.inl z1), some (.inl z2), some (.inl z3), some (.inl z4), none]) ⟨rfl, rfl, rfl, rfl, rfl, trivial⟩ (bMap_nextOnWay_j92_l38 g   h hK)
        · rw [if_pos c6] at h
          refine sm_iload dX5_nextOnWay_89 rfl ?_
          cases h
          have hK : (some (.inl z4), E, (sm_gl o 3 s mi)) = r := hK
          subst hK
          exact sm_ireturn dX5_nextOnWay_91 (Or.inl rfl)
def fMap_nextOnWay (z1 : Int) (z2 : Int) (s : MI) : Option (Int) :=
  (if sm_w z1 < 0 then some (-5) else (if 12 ≤ sm_w z1 then some (-5) else (if sm_w z2 < 0 then some (-5) else (if sm_w z2 < 12 then if 0 ≤ sm_w ((z1 * 12) + z2) ∧ sm_w ((z1 * 12) + z2) < 144 then Option.bind (sl_it (fun (t : Int) => fMap_nextOnWay_l38 z1 z2 (s 2 (sm_w ((z1 * 12) + z2)).toNat) t s) sl_fu 0) (fun y10 => Sum.elim (fun x12 => some (-5)) (fun v13 => some v13) y10) else none else some (-5)))))
set_option maxRecDepth 100000 in
set_option maxHeartbeats 4000000 in
theorem bMap_nextOnWay {G : GT} {E : ET} {o : Nat} {s mi : MI} {z1 : Int} {z2 : Int} {w : Int} (g : gM E o)  (h : fMap_nextOnWay z1 z2 s = some w) : cN G yX5_nextOnWay cX5_nextOnWay 6 (some .int) 0 0 [.inr o, .inl z1, .inl z2] E (sm_gl o 3 s mi) (some (.inl w), E, (sm_gl o 3 s mi)) := by
  have hN1 := g.1
  have hN2 := g.2.1
  unfold fMap_nextOnWay at h
  refine sm_meth (by decide +kernel) (Nat.le_of_ble_eq_true rfl) ?_
  show sM (xMap_nextOnWay G) 0 [some (.inr o), some (.inl z1), some (.inl z2), none, none, none] [] E (sm_gl o 3 s mi) _
  refine sm_iload_n dX5_nextOnWay_0 rfl ?_
  refine sm_if_lt 20 dX5_nextOnWay_1 rfl (fun c17 => ?_) (fun c17 => ?_)
  · rw [if_pos c17] at h
    refine sm_bipush dX5_nextOnWay_20 rfl ?_
    cases h
    exact sm_ireturn dX5_nextOnWay_22 (Or.inl rfl)
  · rw [if_neg c17] at h
    refine sm_iload_n dX5_nextOnWay_4 rfl ?_
    refine sm_bipush dX5_nextOnWay_5 rfl ?_
    refine sc_icmp_ge (X' := sm_w z1) (Y' := 12) 20 dX5_nextOnWay_7 rfl rfl (by decide) (fun c16 => ?_) (fun c16 => ?_)
    · rw [if_pos c16] at h
      refine sm_bipush dX5_nextOnWay_20 rfl ?_
      cases h
      exact sm_ireturn dX5_nextOnWay_22 (Or.inl rfl)
    · rw [if_neg c16] at h
      refine sm_iload_n dX5_nextOnWay_10 rfl ?_
      refine sm_if_lt 20 dX5_nextOnWay_11 rfl (fun c15 => ?_) (fun c15 => ?_)
      · rw [if_pos c15] at h
        refine sm_bipush dX5_nextOnWay_20 rfl ?_
        cases h
        exact sm_ireturn dX5_nextOnWay_22 (Or.inl rfl)
      · rw [if_neg c15] at h
        refine sm_iload_n dX5_nextOnWay_14 rfl ?_
        refine sm_bipush dX5_nextOnWay_15 rfl ?_
        refine sc_icmp_lt (X' := sm_w z2) (Y' := 12) 23 dX5_nextOnWay_17 rfl rfl (by decide) (fun c14 => ?_) (fun c14 => ?_)
        · rw [if_pos c14] at h
          refine sm_aload_n dX5_nextOnWay_23 rfl ?_
          refine sm_getR lf_RX5_15 fR_4_2 g.2.2.1 (by omega) g.2.2.2.2.2 dX5_nextOnWay_24 ?_
          refine sm_iload_n dX5_nextOnWay_27 rfl ?_
          refine sm_bipush dX5_nextOnWay_28 rfl ?_
          refine sm_imul dX5_nextOnWay_30 ?_
          refine sm_iload_n dX5_nextOnWay_31 rfl ?_
          refine sm_iadd dX5_nextOnWay_32 ?_
          obtain ⟨q1, h⟩ := sl_guard h
          have xq1 := (sl_ix (m := 144) q1).2
          refine sl_ialdk (D := 2) (k := (sm_w ((z1 * 12) + z2)).toNat) g.2.2.2.2.1 rfl (by omega) hN2 (sl_ix (m := 144) q1) dX5_nextOnWay_33 ?_
          refine sm_istore_n dX5_nextOnWay_34 (Nat.le_of_ble_eq_true rfl) ?_
          refine sm_iconst dX5_nextOnWay_35 ?_
          refine sm_istore dX5_nextOnWay_36 (Nat.le_of_ble_eq_true rfl) ?_
          obtain ⟨y10, hy11, h⟩ := sl_bind h
          refine sm_less (lv' := [some (.inr o), some (.inl z1), some (.inl z2), some (.inl (s 2 (sm_w ((z1 * 12) + z2)).toNat)), some (.inl 0), none]) ⟨rfl, rfl, rfl, rfl, rfl, trivial⟩ (sl_itE (P := qMap_nextOnWay_l38 G E o mi z1 z2 (s 2 (sm_w ((z1 * 12) + z2)).toNat) s _) (K := kMap_nextOnWay_l38 G E o mi z1 z2 (s 2 (sm_w ((z1 * 12) + z2)).toNat) s _) (fun t q hq hk => bMap_nextOnWay_l38 g  hq hk) sl_fu _ y10 hy11 ?_)
          rcases y10 with x12 | v13
          · show sM (xMap_nextOnWay G) 98 [none, none, none, none, none, none] [] E (sm_gl o 3 s mi) _
            dsimp only [Sum.elim_inl] at h
            refine sm_bipush dX5_nextOnWay_98 rfl ?_
            cases h
            exact sm_ireturn dX5_nextOnWay_100 (Or.inl rfl)
          · dsimp only [Sum.elim_inr] at h
            cases h
            exact rfl
        · rw [if_neg c14] at h
          refine sm_bipush dX5_nextOnWay_20 rfl ?_
          cases h
          exact sm_ireturn dX5_nextOnWay_22 (Or.inl rfl)
