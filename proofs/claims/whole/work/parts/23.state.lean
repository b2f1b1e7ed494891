abbrev xState_copyFrom (G : GT) : XT := (G, yX7_copyFrom.cls, cX7_copyFrom, 3, none, decide (yX7_copyFrom.name = "<init>"), 2, 47)
abbrev qState_copyFrom_l42 (G : GT) (E : ET) (o : Nat) (mi : MI) (o2 : Nat) (s2 : MI)  (r : RT) (t : Int × MI) : Prop := sM (xState_copyFrom G) 42 [some (.inr o), some (.inr o2), some (.inl t.1)] [] E (sm_gl o 61 t.2 mi) r
abbrev kState_copyFrom_l42 (G : GT) (E : ET) (o : Nat) (mi : MI) (o2 : Nat) (s2 : MI)  (r : RT) (x : MI) : Prop := sM (xState_copyFrom G) 77 [some (.inr o), some (.inr o2), none] [] E (sm_gl o 61 x mi) r
def fState_copyFrom_l42 (z2 : Int) (s : MI) (s2 : MI) : Option ((Int × MI) ⊕ (MI)) :=
  (if sm_w (s2 0 4) ≤ sm_w z2 then some (.inr s) else (if 6 ≤ sm_w z2 then some (.inr s) else if 0 ≤ sm_w z2 ∧ sm_w z2 < 6 then Option.bind (fPatrol_copyFrom (sm_lo (10 + (sm_w z2).toNat) s) (sm_lo (10 + (sm_w z2).toNat) s2)) (fun p13 => Option.bind (some (sm_gl (10 + (sm_w z2).toNat) 1 p13 s)) (fun s16 => some (.inl ((z2 + 1), s16)))) else none))
set_option maxRecDepth 100000 in
set_option maxHeartbeats 4000000 in
theorem bState_copyFrom_l42 {G : GT} {E : ET} {o : Nat} {s mi : MI} {o2 : Nat} {s2 : MI} {z2 : Int} {r : RT} {w : (Int × MI) ⊕ (MI)} (g : gS E o) (g' : gS E o2) (h2 : g2 o 61 o2 61 s2 mi)  (h : fState_copyFrom_l42 z2 s s2 = some w) (hK : Sum.elim (qState_copyFrom_l42 G E o mi o2 s2 r) (kState_copyFrom_l42 G E o mi o2 s2 r) w) : qState_copyFrom_l42 G E o mi o2 s2 r (z2, s) := by
  have hN1 := g.1
  have hN2 := g.2.1
  have hM1 := g'.1
  have hM2 := g'.2.1
  unfold fState_copyFrom_l42 at h
  show sM (xState_copyFrom G) 42 [some (.inr o), some (.inr o2), some (.inl z2)] [] E (sm_gl o 61 s mi) r
  refine sm_iload_n dX7_copyFrom_42 rfl ?_
  refine sm_aload_n dX7_copyFrom_43 rfl ?_
  refine sl_getI2 (D := 0) h2 lf_RX7_59 fI_5_4 g'.2.2.1 rfl (by omega) hM2 dX7_copyFrom_44 ?_
  refine sc_icmp_ge (X' := sm_w z2) (Y' := sm_w (s2 0 4)) 77 dX7_copyFrom_47 rfl rfl rfl (fun c19 => ?_) (fun c19 => ?_)
  · rw [if_pos c19] at h
    cases h
    exact sm_less (lv' := [some (.inr o), some (.inr o2), none]) ⟨rfl, rfl, trivial⟩ hK
  · rw [if_neg c19] at h
    refine sm_iload_n dX7_copyFrom_50 rfl ?_
    refine sm_bipush dX7_copyFrom_51 rfl ?_
    refine sc_icmp_ge (X' := sm_w z2) (Y' := 6) 77 dX7_copyFrom_53 rfl rfl (by decide) (fun c18 => ?_) (fun c18 => ?_)
    · rw [if_pos c18] at h
      cases h
      exact sm_less (lv' := [some (.inr o), some (.inr o2), none]) ⟨rfl, rfl, trivial⟩ hK
    · rw [if_neg c18] at h
      refine sm_aload_n dX7_copyFrom_56 rfl ?_
      refine sm_getR lf_RX7_24 fR_5_3 g.2.2.1 (by omega) g.2.2.2.2.2.1.1.2 dX7_copyFrom_57 ?_
      refine sm_iload_n dX7_copyFrom_60 rfl ?_
      obtain ⟨q10, h⟩ := sl_guard h
      have xq10 := (sl_ix (m := 6) q10).2
      have e11 := g.2.2.2.2.2.1.2 (sm_w z2).toNat xq10
      refine sl_aald (k := (sm_w z2).toNat) (Or.inl rfl) g.2.2.2.2.2.1.1.1 (by omega) (sl_ix (m := 6) q10) e11.1 dX7_copyFrom_61 ?_
      refine sm_aload_n dX7_copyFrom_62 rfl ?_
      refine sm_getR lf_RX7_24 fR_5_3 g'.2.2.1 (by omega) g'.2.2.2.2.2.1.1.2 dX7_copyFrom_63 ?_
      refine sm_iload_n dX7_copyFrom_66 rfl ?_
      have e12 := g'.2.2.2.2.2.1.2 (sm_w z2).toNat xq10
      refine sl_aald (k := (sm_w z2).toNat) (Or.inl rfl) g'.2.2.2.2.2.1.1.1 (by omega) (sl_ix (m := 6) q10) e12.1 dX7_copyFrom_67 ?_
      obtain ⟨p13, hp14, h⟩ := sl_bind h
      have hc15 := bPatrol_copyFrom (G := G) (E := E) (o := o + (10 + (sm_w z2).toNat)) (s := (sm_lo (10 + (sm_w z2).toNat) s)) (mi := (sm_gl o 61 s mi)) (o2 := o2 + (10 + (sm_w z2).toNat)) (s2 := (sm_lo (10 + (sm_w z2).toNat) s2)) e11.2 e12.2 (g2_sub h2 (by omega) (by omega))  hp14
      rw [gl_in (o := o) (D := (10 + (sm_w z2).toNat)) (ha := (rfl : o + (10 + (sm_w z2).toNat) = o + (10 + (sm_w z2).toNat))) (hD := (by omega : (10 + (sm_w z2).toNat) + 1 ≤ 61)), gl_out (o := o) (D := (10 + (sm_w z2).toNat)) (ha := (rfl : o + (10 + (sm_w z2).toNat) = o + (10 + (sm_w z2).toNat))) (hD := (by omega : (10 + (sm_w z2).toNat) + 1 ≤ 61))] at hc15
      refine sc_callV0 (avs := [.inr (o2 + (10 + (sm_w z2).toNat))]) (st := []) lk_RX7_63 rfl vf_X4_copyFrom hc15 ⟨(Nat.le_of_ble_eq_true rfl), (Nat.le_of_ble_eq_true rfl)⟩ ⟨rfl, (Nat.le_of_ble_eq_true rfl)⟩ e11.2.2.2 (by omega) rfl dX7_copyFrom_68 ?_
      obtain ⟨s16, hs17, h⟩ := sl_bind h
      rw [Option.some.inj hs17]
      refine sm_iinc dX7_copyFrom_71 (Nat.le_of_ble_eq_true rfl) rfl ?_
      refine sm_goto 42 dX7_copyFrom_74 rfl ?_
      cases h
      exact sm_less (lv' := [some (.inr o), some (.inr o2), some (.inl (z2 + 1))]) ⟨rfl, rfl, rfl, trivial⟩ hK
abbrev qState_copyFrom_l79 (G : GT) (E : ET) (o : Nat) (mi : MI) (o2 : Nat) (s2 : MI)  (r : RT) (t : Int × MI) : Prop := sM (xState_copyFrom G) 79 [some (.inr o), some (.inr o2), some (.inl t.1)] [] E (sm_gl o 61 t.2 mi) r
abbrev kState_copyFrom_l79 (G : GT) (E : ET) (o : Nat) (mi : MI) (o2 : Nat) (s2 : MI)  (r : RT) (x : MI) : Prop := sM (xState_copyFrom G) 113 [some (.inr o), some (.inr o2), none] [] E (sm_gl o 61 x mi) r
def fState_copyFrom_l79 (z2 : Int) (s : MI) (s2 : MI) : Option ((Int × MI) ⊕ (MI)) :=
  (if sm_w (s2 0 6) ≤ sm_w z2 then some (.inr s) else (if 5 ≤ sm_w z2 then some (.inr s) else if 0 ≤ sm_w z2 ∧ sm_w z2 < 5 then Option.bind (fGarage_copyFrom (sm_lo (16 + (sm_w z2).toNat) s) (sm_lo (16 + (sm_w z2).toNat) s2)) (fun p26 => Option.bind (some (sm_gl (16 + (sm_w z2).toNat) 1 p26 s)) (fun s29 => some (.inl ((z2 + 1), s29)))) else none))
set_option maxRecDepth 100000 in
set_option maxHeartbeats 4000000 in
theorem bState_copyFrom_l79 {G : GT} {E : ET} {o : Nat} {s mi : MI} {o2 : Nat} {s2 : MI} {z2 : Int} {r : RT} {w : (Int × MI) ⊕ (MI)} (g : gS E o) (g' : gS E o2) (h2 : g2 o 61 o2 61 s2 mi)  (h : fState_copyFrom_l79 z2 s s2 = some w) (hK : Sum.elim (qState_copyFrom_l79 G E o mi o2 s2 r) (kState_copyFrom_l79 G E o mi o2 s2 r) w) : qState_copyFrom_l79 G E o mi o2 s2 r (z2, s) := by
  have hN1 := g.1
  have hN2 := g.2.1
  have hM1 := g'.1
  have hM2 := g'.2.1
  unfold fState_copyFrom_l79 at h
  show sM (xState_copyFrom G) 79 [some (.inr o), some (.inr o2), some (.inl z2)] [] E (sm_gl o 61 s mi) r
  refine sm_iload_n dX7_copyFrom_79 rfl ?_
  refine sm_aload_n dX7_copyFrom_80 rfl ?_
  refine sl_getI2 (D := 0) h2 lf_RX7_66 fI_5_6 g'.2.2.1 rfl (by omega) hM2 dX7_copyFrom_81 ?_
  refine sc_icmp_ge (X' := sm_w z2) (Y' := sm_w (s2 0 6)) 113 dX7_copyFrom_84 rfl rfl rfl (fun c32 => ?_) (fun c32 => ?_)
  · rw [if_pos c32] at h
    cases h
    exact sm_less (lv' := [some (.inr o), some (.inr o2), none]) ⟨rfl, rfl, trivial⟩ hK
  · rw [if_neg c32] at h
    refine sm_iload_n dX7_copyFrom_87 rfl ?_
    refine sm_iconst dX7_copyFrom_88 ?_
    refine sc_icmp_ge (X' := sm_w z2) (Y' := 5) 113 dX7_copyFrom_89 rfl rfl (by decide) (fun c31 => ?_) (fun c31 => ?_)
    · rw [if_pos c31] at h
      cases h
      exact sm_less (lv' := [some (.inr o), some (.inr o2), none]) ⟨rfl, rfl, trivial⟩ hK
    · rw [if_neg c31] at h
      refine sm_aload_n dX7_copyFrom_92 rfl ?_
      refine sm_getR lf_RX7_30 fR_5_5 g.2.2.1 (by omega) g.2.2.2.2.2.2.1.1.2 dX7_copyFrom_93 ?_
      refine sm_iload_n dX7_copyFrom_96 rfl ?_
      obtain ⟨q23, h⟩ := sl_guard h
      have xq23 := (sl_ix (m := 5) q23).2
      have e24 := g.2.2.2.2.2.2.1.2 (sm_w z2).toNat xq23
      refine sl_aald (k := (sm_w z2).toNat) (Or.inr (Or.inl rfl)) g.2.2.2.2.2.2.1.1.1 (by omega) (sl_ix (m := 5) q23) e24.1 dX7_copyFrom_97 ?_
      refine sm_aload_n dX7_copyFrom_98 rfl ?_
      refine sm_getR lf_RX7_30 fR_5_5 g'.2.2.1 (by omega) g'.2.2.2.2.2.2.1.1.2 dX7_copyFrom_99 ?_
      refine sm_iload_n dX7_copyFrom_102 rfl ?_
      have e25 := g'.2.2.2.2.2.2.1.2 (sm_w z2).toNat xq23
      refine sl_aald (k := (sm_w z2).toNat) (Or.inr (Or.inl rfl)) g'.2.2.2.2.2.2.1.1.1 (by omega) (sl_ix (m := 5) q23) e25.1 dX7_copyFrom_103 ?_
      obtain ⟨p26, hp27, h⟩ := sl_bind h
      have hc28 := bGarage_copyFrom (G := G) (E := E) (o := o + (16 + (sm_w z2).toNat)) (s := (sm_lo (16 + (sm_w z2).toNat) s)) (mi := (sm_gl o 61 s mi)) (o2 := o2 + (16 + (sm_w z2).toNat)) (s2 := (sm_lo (16 + (sm_w z2).toNat) s2)) e24.2 e25.2 (g2_sub h2 (by omega) (by omega))  hp27
      rw [gl_in (o := o) (D := (16 + (sm_w z2).toNat)) (ha := (rfl : o + (16 + (sm_w z2).toNat) = o + (16 + (sm_w z2).toNat))) (hD := (by omega : (16 + (sm_w z2).toNat) + 1 ≤ 61)), gl_out (o := o) (D := (16 + (sm_w z2).toNat)) (ha := (rfl : o + (16 + (sm_w z2).toNat) = o + (16 + (sm_w z2).toNat))) (hD := (by omega : (16 + (sm_w z2).toNat) + 1 ≤ 61))] at hc28
      refine sc_callV0 (avs := [.inr (o2 + (16 + (sm_w z2).toNat))]) (st := []) lk_RX7_69 rfl vf_X3_copyFrom hc28 ⟨(Nat.le_of_ble_eq_true rfl), (Nat.le_of_ble_eq_true rfl)⟩ ⟨rfl, (Nat.le_of_ble_eq_true rfl)⟩ e24.2.2.2 (by omega) rfl dX7_copyFrom_104 ?_
      obtain ⟨s29, hs30, h⟩ := sl_bind h
      rw [Option.some.inj hs30]
      refine sm_iinc dX7_copyFrom_107 (Nat.le_of_ble_eq_true rfl) rfl ?_
      refine sm_goto 79 dX7_copyFrom_110 rfl ?_
      cases h
      exact sm_less (lv' := [some (.inr o), some (.inr o2), some (.inl (z2 + 1))]) ⟨rfl, rfl, rfl, trivial⟩ hK
abbrev qState_copyFrom_l115 (G : GT) (E : ET) (o : Nat) (mi : MI) (o2 : Nat) (s2 : MI)  (r : RT) (t : Int × MI) : Prop := sM (xState_copyFrom G) 115 [some (.inr o), some (.inr o2), some (.inl t.1)] [] E (sm_gl o 61 t.2 mi) r
abbrev kState_copyFrom_l115 (G : GT) (E : ET) (o : Nat) (mi : MI) (o2 : Nat) (s2 : MI)  (r : RT) (x : MI) : Prop := sM (xState_copyFrom G) 150 [some (.inr o), some (.inr o2), none] [] E (sm_gl o 61 x mi) r
def fState_copyFrom_l115 (z2 : Int) (s : MI) (s2 : MI) : Option ((Int × MI) ⊕ (MI)) :=
  (if sm_w (s2 0 8) ≤ sm_w z2 then some (.inr s) else (if 40 ≤ sm_w z2 then some (.inr s) else if 0 ≤ sm_w z2 ∧ sm_w z2 < 40 then Option.bind (fBreakdown_copyFrom (sm_lo (21 + (sm_w z2).toNat) s) (sm_lo (21 + (sm_w z2).toNat) s2)) (fun p39 => Option.bind (some (sm_gl (21 + (sm_w z2).toNat) 1 p39 s)) (fun s42 => some (.inl ((z2 + 1), s42)))) else none))
set_option maxRecDepth 100000 in
set_option maxHeartbeats 4000000 in
theorem bState_copyFrom_l115 {G : GT} {E : ET} {o : Nat} {s mi : MI} {o2 : Nat} {s2 : MI} {z2 : Int} {r : RT} {w : (Int × MI) ⊕ (MI)} (g : gS E o) (g' : gS E o2) (h2 : g2 o 61 o2 61 s2 mi)  (h : fState_copyFrom_l115 z2 s s2 = some w) (hK : Sum.elim (qState_copyFrom_l115 G E o mi o2 s2 r) (kState_copyFrom_l115 G E o mi o2 s2 r) w) : qState_copyFrom_l115 G E o mi o2 s2 r (z2, s) := by
  have hN1 := g.1
  have hN2 := g.2.1
  have hM1 := g'.1
  have hM2 := g'.2.1
  unfold fState_copyFrom_l115 at h
  show sM (xState_copyFrom G) 115 [some (.inr o), some (.inr o2), some (.inl z2)] [] E (sm_gl o 61 s mi) r
  refine sm_iload_n dX7_copyFrom_115 rfl ?_
  refine sm_aload_n dX7_copyFrom_116 rfl ?_
  refine sl_getI2 (D := 0) h2 lf_RX7_72 fI_5_8 g'.2.2.1 rfl (by omega) hM2 dX7_copyFrom_117 ?_
  refine sc_icmp_ge (X' := sm_w z2) (Y' := sm_w (s2 0 8)) 150 dX7_copyFrom_120 rfl rfl rfl (fun c45 => ?_) (fun c45 => ?_)
  · rw [if_pos c45] at h
    cases h
    exact sm_less (lv' := [some (.inr o), some (.inr o2), none]) ⟨rfl, rfl, trivial⟩ hK
  · rw [if_neg c45] at h
    refine sm_iload_n dX7_copyFrom_123 rfl ?_
    refine sm_bipush dX7_copyFrom_124 rfl ?_
    refine sc_icmp_ge (X' := sm_w z2) (Y' := 40) 150 dX7_copyFrom_126 rfl rfl (by decide) (fun c44 => ?_) (fun c44 => ?_)
    · rw [if_pos c44] at h
      cases h
      exact sm_less (lv' := [some (.inr o), some (.inr o2), none]) ⟨rfl, rfl, trivial⟩ hK
    · rw [if_neg c44] at h
      refine sm_aload_n dX7_copyFrom_129 rfl ?_
      refine sm_getR lf_RX7_36 fR_5_7 g.2.2.1 (by omega) g.2.2.2.2.2.2.2.1.1.2 dX7_copyFrom_130 ?_
      refine sm_iload_n dX7_copyFrom_133 rfl ?_
      obtain ⟨q36, h⟩ := sl_guard h
      have xq36 := (sl_ix (m := 40) q36).2
      have e37 := g.2.2.2.2.2.2.2.1.2 (sm_w z2).toNat xq36
      refine sl_aald (k := (sm_w z2).toNat) (Or.inr (Or.inr (Or.inl rfl))) g.2.2.2.2.2.2.2.1.1.1 (by omega) (sl_ix (m := 40) q36) e37.1 dX7_copyFrom_134 ?_
      refine sm_aload_n dX7_copyFrom_135 rfl ?_
      refine sm_getR lf_RX7_36 fR_5_7 g'.2.2.1 (by omega) g'.2.2.2.2.2.2.2.1.1.2 dX7_copyFrom_136 ?_
      refine sm_iload_n dX7_copyFrom_139 rfl ?_
      have e38 := g'.2.2.2.2.2.2.2.1.2 (sm_w z2).toNat xq36
      refine sl_aald (k := (sm_w z2).toNat) (Or.inr (Or.inr (Or.inl rfl))) g'.2.2.2.2.2.2.2.1.1.1 (by omega) (sl_ix (m := 40) q36) e38.1 dX7_copyFrom_140 ?_
      obtain ⟨p39, hp40, h⟩ := sl_bind h
      have hc41 := bBreakdown_copyFrom (G := G) (E := E) (o := o + (21 + (sm_w z2).toNat)) (s := (sm_lo (21 + (sm_w z2).toNat) s)) (mi := (sm_gl o 61 s mi)) (o2 := o2 + (21 + (sm_w z2).toNat)) (s2 := (sm_lo (21 + (sm_w z2).toNat) s2)) e37.2 e38.2 (g2_sub h2 (by omega) (by omega))  hp40
      rw [gl_in (o := o) (D := (21 + (sm_w z2).toNat)) (ha := (rfl : o + (21 + (sm_w z2).toNat) = o + (21 + (sm_w z2).toNat))) (hD := (by omega : (21 + (sm_w z2).toNat) + 1 ≤ 61)), gl_out (o := o) (D := (21 + (sm_w z2).toNat)) (ha := (rfl : o + (21 + (sm_w z2).toNat) = o + (21 + (sm_w z2).toNat))) (hD := (by omega : (21 + (sm_w z2).toNat) + 1 ≤ 61))] at hc41
      refine sc_callV0 (avs := [.inr (o2 + (21 + (sm_w z2).toNat))]) (st := []) lk_RX7_75 rfl vf_X1_copyFrom hc41 ⟨(Nat.le_of_ble_eq_true rfl), (Nat.le_of_ble_eq_true rfl)⟩ ⟨rfl, (Nat.le_of_ble_eq_true rfl)⟩ e37.2.2.2 (by omega) rfl dX7_copyFrom_141 ?_
      obtain ⟨s42, hs43, h⟩ := sl_bind h
      rw [Option.some.inj hs43]
      refine sm_iinc dX7_copyFrom_144 (Nat.le_of_ble_eq_true rfl) rfl ?_
      refine sm_goto 115 dX7_copyFrom_147 rfl ?_
      cases h
      exact sm_less (lv' := [some (.inr o), some (.inr o2), some (.inl (z2 + 1))]) ⟨rfl, rfl, rfl, trivial⟩ hK
def fState_copyFrom_j150  (s : MI) (s2 : MI) : Option (MI) :=
  Option.bind (some (sm_up s 0 2 (s2 0 2))) (fun s49 => Option.bind (some (sm_up s49 0 4 (s2 0 4))) (fun s51 => Option.bind (some (sm_up s51 0 6 (s2 0 6))) (fun s53 => Option.bind (some (sm_up s53 0 8 (s2 0 8))) (fun s55 => Option.bind (some (sm_up s55 0 10 (s2 0 10))) (fun s57 => Option.bind (some (sm_up s57 0 11 (s2 0 11))) (fun s59 => some s59))))))
set_option maxRecDepth 100000 in
set_option maxHeartbeats 4000000 in
theorem bState_copyFrom_j150 {G : GT} {E : ET} {o : Nat} {s mi : MI} {o2 : Nat} {s2 : MI}  {w : MI} (g : gS E o) (g' : gS E o2) (h2 : g2 o 61 o2 61 s2 mi)  (h : fState_copyFrom_j150 s s2 = some w) : sM (xState_copyFrom G) 150 [some (.inr o), some (.inr o2), none] [] E (sm_gl o 61 s mi) (none, E, sm_gl o 61 w mi) := by
  have hN1 := g.1
  have hN2 := g.2.1
  have hM1 := g'.1
  have hM2 := g'.2.1
  unfold fState_copyFrom_j150 at h
  refine sm_aload_n dX7_copyFrom_150 rfl ?_
  refine sm_aload_n dX7_copyFrom_151 rfl ?_
  refine sl_getI2 (D := 0) h2 lf_RX7_78 fI_5_2 g'.2.2.1 rfl (by omega) hM2 dX7_copyFrom_152 ?_
  refine sl_putI (D := 0) lf_RX7_78 fP_5_2 (Or.inl rfl) g.2.2.1 rfl (by omega) ⟨hN1, hN2⟩ dX7_copyFrom_155 ?_
  obtain ⟨s49, hs50, h⟩ := sl_bind h
  rw [Option.some.inj hs50]
  refine sm_aload_n dX7_copyFrom_158 rfl ?_
  refine sm_aload_n dX7_copyFrom_159 rfl ?_
  refine sl_getI2 (D := 0) h2 lf_RX7_59 fI_5_4 g'.2.2.1 rfl (by omega) hM2 dX7_copyFrom_160 ?_
  refine sl_putI (D := 0) lf_RX7_59 fP_5_4 (Or.inl rfl) g.2.2.1 rfl (by omega) ⟨hN1, hN2⟩ dX7_copyFrom_163 ?_
  obtain ⟨s51, hs52, h⟩ := sl_bind h
  rw [Option.some.inj hs52]
  refine sm_aload_n dX7_copyFrom_166 rfl ?_
  refine sm_aload_n dX7_copyFrom_167 rfl ?_
  refine sl_getI2 (D := 0) h2 lf_RX7_66 fI_5_6 g'.2.2.1 rfl (by omega) hM2 dX7_copyFrom_168 ?_
  refine sl_putI (D := 0) lf_RX7_66 fP_5_6 (Or.inl rfl) g.2.2.1 rfl (by omega) ⟨hN1, hN2⟩ dX7_copyFrom_171 ?_
  obtain ⟨s53, hs54, h⟩ := sl_bind h
  rw [Option.some.inj hs54]
  refine sm_aload_n dX7_copyFrom_174 rfl ?_
  refine sm_aload_n dX7_copyFrom_175 rfl ?_
  refine sl_getI2 (D := 0) h2 lf_RX7_72 fI_5_8 g'.2.2.1 rfl (by omega) hM2 dX7_copyFrom_176 ?_
  refine sl_putI (D := 0) lf_RX7_72 fP_5_8 (Or.inl rfl) g.2.2.1 rfl (by omega) ⟨hN1, hN2⟩ dX7_copyFrom_179 ?_
  obtain ⟨s55, hs56, h⟩ := sl_bind h
  rw [Option.some.inj hs56]
  refine sm_aload_n dX7_copyFrom_182 rfl ?_
  refine sm_aload_n dX7_copyFrom_183 rfl ?_
  refine sl_getI2 (D := 0) h2 lf_RX7_81 fI_5_10 g'.2.2.1 rfl (by omega) hM2 dX7_copyFrom_184 ?_
  refine sl_putI (D := 0) lf_RX7_81 fP_5_10 (Or.inl rfl) g.2.2.1 rfl (by omega) ⟨hN1, hN2⟩ dX7_copyFrom_187 ?_
  obtain ⟨s57, hs58, h⟩ := sl_bind h
  rw [Option.some.inj hs58]
  refine sm_aload_n dX7_copyFrom_190 rfl ?_
  refine sm_aload_n dX7_copyFrom_191 rfl ?_
  refine sl_getI2 (D := 0) h2 lf_RX7_84 fI_5_11 g'.2.2.1 rfl (by omega) hM2 dX7_copyFrom_192 ?_
  refine sl_putI (D := 0) lf_RX7_84 fP_5_11 (Or.inl rfl) g.2.2.1 rfl (by omega) ⟨hN1, hN2⟩ dX7_copyFrom_195 ?_
  obtain ⟨s59, hs60, h⟩ := sl_bind h
  rw [Option.some.inj hs60]
  cases h
  exact sm_return rfl dX7_copyFrom_198
def fState_copyFrom_j113  (s : MI) (s2 : MI) : Option (MI) :=
  Option.bind (sl_it (fun (t : Int × MI) => fState_copyFrom_l115 t.1 t.2 s2) sl_fu (0, s)) (fun x48 => fState_copyFrom_j150 x48 s2)
set_option maxRecDepth 100000 in
set_option maxHeartbeats 4000000 in
theorem bState_copyFrom_j113 {G : GT} {E : ET} {o : Nat} {s mi : MI} {o2 : Nat} {s2 : MI}  {w : MI} (g : gS E o) (g' : gS E o2) (h2 : g2 o 61 o2 61 s2 mi)  (h : fState_copyFrom_j113 s s2 = some w) : sM (xState_copyFrom G) 113 [some (.inr o), some (.inr o2), none] [] E (sm_gl o 61 s mi) (none, E, sm_gl o 61 w mi) := by
  have hN1 := g.1
  have hN2 := g.2.1
  have hM1 := g'.1
  have hM2 := g'.2.1
  unfold fState_copyFrom_j113 at h
  refine sm_iconst dX7_copyFrom_113 ?_
  refine sm_istore_n dX7_copyFrom_114 (Nat.le_of_ble_eq_true rfl) ?_
  obtain ⟨x48, hy47, h⟩ := sl_bind h
  refine sm_less (lv' := [some (.inr o), some (.inr o2), some (.inl 0)]) ⟨rfl, rfl, rfl, trivial⟩ (sl_itE (P := qState_copyFrom_l115 G E o mi o2 s2 _) (K := kState_copyFrom_l115 G E o mi o2 s2 _) (fun t q hq hk => bState_copyFrom_l115 g g' h2  hq hk) sl_fu _ x48 hy47 ?_)
  show sM (xState_copyFrom G) 150 [some (.inr o), some (.inr o2), none] [] E (sm_gl o 61 x48 mi) _
  exact sm_less (lv' := [some (.inr o), some (.inr o2), none]) ⟨rfl, rfl, trivial⟩ (bState_copyFrom_j150 g g' h2   h)
def fState_copyFrom_j77  (s : MI) (s2 : MI) : Option (MI) :=
  Option.bind (sl_it (fun (t : Int × MI) => fState_copyFrom_l79 t.1 t.2 s2) sl_fu (0, s)) (fun x35 => fState_copyFrom_j113 x35 s2)
set_option maxRecDepth 100000 in
set_option maxHeartbeats 4000000 in
theorem bState_copyFrom_j77 {G : GT} {E : ET} {o : Nat} {s mi : MI} {o2 : Nat} {s2 : MI}  {w : MI} (g : gS E o) (g' : gS E o2) (h2 : g2 o 61 o2 61 s2 mi)  (h : fState_copyFrom_j77 s s2 = some w) : sM (xState_copyFrom G) 77 [some (.inr o), some (.inr o2), none] [] E (sm_gl o 61 s mi) (none, E, sm_gl o 61 w mi) := by
  have hN1 := g.1
  have hN2 := g.2.1
  have hM1 := g'.1
  have hM2 := g'.2.1
  unfold fState_copyFrom_j77 at h
  refine sm_iconst dX7_copyFrom_77 ?_
  refine sm_istore_n dX7_copyFrom_78 (Nat.le_of_ble_eq_true rfl) ?_
  obtain ⟨x35, hy34, h⟩ := sl_bind h
  refine sm_less (lv' := [some (.inr o), some (.inr o2), some (.inl 0)]) ⟨rfl, rfl, rfl, trivial⟩ (sl_itE (P := qState_copyFrom_l79 G E o mi o2 s2 _) (K := kState_copyFrom_l79 G E o mi o2 s2 _) (fun t q hq hk => bState_copyFrom_l79 g g' h2  hq hk) sl_fu _ x35 hy34 ?_)
  show sM (xState_copyFrom G) 113 [some (.inr o), some (.inr o2), none] [] E (sm_gl o 61 x35 mi) _
  exact sm_less (lv' := [some (.inr o), some (.inr o2), none]) ⟨rfl, rfl, trivial⟩ (bState_copyFrom_j113 g g' h2   h)
def fState_copyFrom  (s : MI) (s2 : MI) : Option (MI) :=
  Option.bind (fMap_copyFrom (sm_lo 1 s) (sm_lo 1 s2)) (fun p1 => Option.bind (some (sm_gl 1 3 p1 s)) (fun s4 => Option.bind (some (sl_cp s4 s2 4 4 0 0 20)) (fun s6 => Option.bind (some (sl_cp s6 s2 8 8 0 0 3)) (fun s8 => Option.bind (sl_it (fun (t : Int × MI) => fState_copyFrom_l42 t.1 t.2 s2) sl_fu (0, s8)) (fun x22 => fState_copyFrom_j77 x22 s2)))))
set_option maxRecDepth 100000 in
set_option maxHeartbeats 4000000 in
theorem bState_copyFrom {G : GT} {E : ET} {o : Nat} {s mi : MI} {o2 : Nat} {s2 : MI}  {w : MI} (g : gS E o) (g' : gS E o2) (h2 : g2 o 61 o2 61 s2 mi)  (h : fState_copyFrom s s2 = some w) : cN G yX7_copyFrom cX7_copyFrom 3 none 2 47 [.inr o, .inr o2] E (sm_gl o 61 s mi) (none, E, sm_gl o 61 w mi) := by
  have hN1 := g.1
  have hN2 := g.2.1
  have hM1 := g'.1
  have hM2 := g'.2.1
  unfold fState_copyFrom at h
  refine sm_meth (by decide +kernel) (Nat.le_of_ble_eq_true rfl) ?_
  show sM (xState_copyFrom G) 0 [some (.inr o), some (.inr o2), none] [] E (sm_gl o 61 s mi) _
  refine sm_aload_n dX7_copyFrom_0 rfl ?_
  refine sm_getR lf_RX7_12 fR_5_0 g.2.2.1 (by omega) g.2.2.2.1.2 dX7_copyFrom_1 ?_
  refine sm_aload_n dX7_copyFrom_4 rfl ?_
  refine sm_getR lf_RX7_12 fR_5_0 g'.2.2.1 (by omega) g'.2.2.2.1.2 dX7_copyFrom_5 ?_
  obtain ⟨p1, hp2, h⟩ := sl_bind h
  have hc3 := bMap_copyFrom (G := G) (E := E) (o := o + 1) (s := (sm_lo 1 s)) (mi := (sm_gl o 61 s mi)) (o2 := o2 + 1) (s2 := (sm_lo 1 s2)) g.2.2.2.1.1 g'.2.2.2.1.1 (g2_sub h2 (by omega) (by omega))  hp2
  rw [gl_in (o := o) (D := 1) (ha := (rfl : o + 1 = o + 1)) (hD := (by omega : 1 + 3 ≤ 61)), gl_out (o := o) (D := 1) (ha := (rfl : o + 1 = o + 1)) (hD := (by omega : 1 + 3 ≤ 61))] at hc3
  refine sc_callV0 (avs := [.inr (o2 + 1)]) (st := []) lk_RX7_49 rfl vf_X5_copyFrom hc3 ⟨(Nat.le_of_ble_eq_true rfl), (Nat.le_of_ble_eq_true rfl)⟩ ⟨rfl, (Nat.le_of_ble_eq_true rfl)⟩ g.2.2.2.1.1.2.2.1 (by omega) rfl dX7_copyFrom_8 ?_
  obtain ⟨s4, hs5, h⟩ := sl_bind h
  rw [Option.some.inj hs5]
  refine sm_aload_n dX7_copyFrom_11 rfl ?_
  refine sm_getR lf_RX7_18 fR_5_1 g'.2.2.1 (by omega) g'.2.2.2.2.1.2 dX7_copyFrom_12 ?_
  refine sm_iconst dX7_copyFrom_15 ?_
  refine sm_aload_n dX7_copyFrom_16 rfl ?_
  refine sm_getR lf_RX7_18 fR_5_1 g.2.2.1 (by omega) g.2.2.2.2.1.2 dX7_copyFrom_17 ?_
  refine sm_iconst dX7_copyFrom_20 ?_
  refine sm_bipush dX7_copyFrom_21 rfl ?_
  refine sl_copy2 (D := 4) (D2 := 4) h2 lx_RX7_53 ⟨(Nat.le_of_ble_eq_true rfl), (Nat.le_of_ble_eq_true rfl)⟩ g'.2.2.2.2.1.1 g.2.2.2.2.1.1 rfl (by omega) ⟨hM1, hM2⟩ rfl (by omega) ⟨hN1, hN2⟩ ⟨by decide, by decide, by decide, by decide, by decide⟩ dX7_copyFrom_23 ?_
  show sM _ _ _ _ _ (sm_gl o 61 (sl_cp s4 s2 4 4 0 0 20) mi) _
  obtain ⟨s6, hs7, h⟩ := sl_bind h
  rw [Option.some.inj hs7]
  refine sm_aload_n dX7_copyFrom_26 rfl ?_
  refine sm_getR lf_RX7_40 fR_5_9 g'.2.2.1 (by omega) g'.2.2.2.2.2.2.2.2.1.2 dX7_copyFrom_27 ?_
  refine sm_iconst dX7_copyFrom_30 ?_
  refine sm_aload_n dX7_copyFrom_31 rfl ?_
  refine sm_getR lf_RX7_40 fR_5_9 g.2.2.1 (by omega) g.2.2.2.2.2.2.2.2.1.2 dX7_copyFrom_32 ?_
  refine sm_iconst dX7_copyFrom_35 ?_
  refine sm_iconst dX7_copyFrom_36 ?_
  refine sl_copy2 (D := 8) (D2 := 8) h2 lx_RX7_53 ⟨(Nat.le_of_ble_eq_true rfl), (Nat.le_of_ble_eq_true rfl)⟩ g'.2.2.2.2.2.2.2.2.1.1 g.2.2.2.2.2.2.2.2.1.1 rfl (by omega) ⟨hM1, hM2⟩ rfl (by omega) ⟨hN1, hN2⟩ ⟨by decide, by decide, by decide, by decide, by decide⟩ dX7_copyFrom_37 ?_
  show sM _ _ _ _ _ (sm_gl o 61 (sl_cp s6 s2 8 8 0 0 3) mi) _
  obtain ⟨s8, hs9, h⟩ := sl_bind h
  rw [Option.some.inj hs9]
  refine sm_iconst dX7_copyFrom_40 ?_
  refine sm_istore_n dX7_copyFrom_41 (Nat.le_of_ble_eq_true rfl) ?_
  obtain ⟨x22, hy21, h⟩ := sl_bind h
  refine sm_less (lv' := [some (.inr o), some (.inr o2), some (.inl 0)]) ⟨rfl, rfl, rfl, trivial⟩ (sl_itE (P := qState_copyFrom_l42 G E o mi o2 s2 _) (K := kState_copyFrom_l42 G E o mi o2 s2 _) (fun t q hq hk => bState_copyFrom_l42 g g' h2  hq hk) sl_fu _ x22 hy21 ?_)
  show sM (xState_copyFrom G) 77 [some (.inr o), some (.inr o2), none] [] E (sm_gl o 61 x22 mi) _
  exact sm_less (lv' := [some (.inr o), some (.inr o2), none]) ⟨rfl, rfl, trivial⟩ (bState_copyFrom_j77 g g' h2   h)
abbrev xState_enrol (G : GT) : XT := (G, yX7_enrol.cls, cX7_enrol, 2, (some .int), decide (yX7_enrol.name = "<init>"), 0, 0)
def fState_enrol (z1 : Int) (s : MI) : Option (Int × MI) :=
  (if sm_w (s 0 2) < 20 then if 0 ≤ sm_w (s 0 2) ∧ sm_w (s 0 2) < 20 then Option.bind (some (sm_up s 4 (sm_w (s 0 2)).toNat z1)) (fun s2 => Option.bind (some (sm_up s2 0 2 ((s2 0 2) + 1))) (fun s4 => some (((s4 0 2) - 1), s4))) else none else some ((-3), s))
set_option maxRecDepth 100000 in
set_option maxHeartbeats 4000000 in
theorem bState_enrol {G : GT} {E : ET} {o : Nat} {s mi : MI} {z1 : Int} {w : Int × MI} (g : gS E o)  (h : fState_enrol z1 s = some w) : cN G yX7_enrol cX7_enrol 2 (some .int) 0 0 [.inr o, .inl z1] E (sm_gl o 61 s mi) (some (.inl w.1), E, sm_gl o 61 w.2 mi) := by
  have hN1 := g.1
  have hN2 := g.2.1
  unfold fState_enrol at h
  refine sm_meth (by decide +kernel) (Nat.le_of_ble_eq_true rfl) ?_
  show sM (xState_enrol G) 0 [some (.inr o), some (.inl z1)] [] E (sm_gl o 61 s mi) _
  refine sm_aload_n dX7_enrol_0 rfl ?_
  refine sl_getI (D := 0) lf_RX7_78 fI_5_2 g.2.2.1 rfl (by omega) hN2 dX7_enrol_1 ?_
  refine sm_bipush dX7_enrol_4 rfl ?_
  refine sc_icmp_lt (X' := sm_w (s 0 2)) (Y' := 20) 12 dX7_enrol_6 rfl rfl (by decide) (fun c6 => ?_) (fun c6 => ?_)
  · rw [if_pos c6] at h
    refine sm_aload_n dX7_enrol_12 rfl ?_
    refine sm_getR lf_RX7_18 fR_5_1 g.2.2.1 (by omega) g.2.2.2.2.1.2 dX7_enrol_13 ?_
    refine sm_aload_n dX7_enrol_16 rfl ?_
    refine sl_getI (D := 0) lf_RX7_78 fI_5_2 g.2.2.1 rfl (by omega) hN2 dX7_enrol_17 ?_
    refine sm_iload_n dX7_enrol_20 rfl ?_
    obtain ⟨q1, h⟩ := sl_guard h
    have xq1 := (sl_ix (m := 20) q1).2
    refine sl_iastk (D := 4) (k := (sm_w (s 0 2)).toNat) g.2.2.2.2.1.1 rfl (by omega) ⟨hN1, hN2⟩ (sl_ix (m := 20) q1) dX7_enrol_21 ?_
    obtain ⟨s2, hs3, h⟩ := sl_bind h
    rw [Option.some.inj hs3]
    refine sm_aload_n dX7_enrol_22 rfl ?_
    refine sm_dup dX7_enrol_23 ?_
    refine sl_getI (D := 0) lf_RX7_78 fI_5_2 g.2.2.1 rfl (by omega) hN2 dX7_enrol_24 ?_
    refine sm_iconst dX7_enrol_27 ?_
    refine sm_iadd dX7_enrol_28 ?_
    refine sl_putI (D := 0) lf_RX7_78 fP_5_2 (Or.inl rfl) g.2.2.1 rfl (by omega) ⟨hN1, hN2⟩ dX7_enrol_29 ?_
    obtain ⟨s4, hs5, h⟩ := sl_bind h
    rw [Option.some.inj hs5]
    refine sm_aload_n dX7_enrol_32 rfl ?_
    refine sl_getI (D := 0) lf_RX7_78 fI_5_2 g.2.2.1 rfl (by omega) hN2 dX7_enrol_33 ?_
    refine sm_iconst dX7_enrol_36 ?_
    refine sm_isub dX7_enrol_37 ?_
    cases h
    exact sm_ireturn dX7_enrol_38 (Or.inl rfl)
  · rw [if_neg c6] at h
    refine sm_bipush dX7_enrol_9 rfl ?_
    cases h
    exact sm_ireturn dX7_enrol_11 (Or.inl rfl)
abbrev xState_hire (G : GT) : XT := (G, yX7_hire.cls, cX7_hire, 4, (some .int), decide (yX7_hire.name = "<init>"), 2, 43)
def fState_hire (z1 : Int) (z2 : Int) (z3 : Int) (s : MI) : Option (Int × MI) :=
  (if sm_w (s 0 4) < 6 then if 0 ≤ sm_w (s 0 4) ∧ sm_w (s 0 4) < 6 then Option.bind (fPatrol_begin z1 z2 z3 (sm_lo (10 + (sm_w (s 0 4)).toNat) s)) (fun p3 => Option.bind (some (sm_gl (10 + (sm_w (s 0 4)).toNat) 1 p3 s)) (fun s6 => Option.bind (some (sm_up s6 0 4 ((s6 0 4) + 1))) (fun s8 => some (((s8 0 4) - 1), s8)))) else none else some ((-3), s))
set_option maxRecDepth 100000 in
set_option maxHeartbeats 4000000 in
theorem bState_hire {G : GT} {E : ET} {o : Nat} {s mi : MI} {z1 : Int} {z2 : Int} {z3 : Int} {w : Int × MI} (g : gS E o)  (h : fState_hire z1 z2 z3 s = some w) : cN G yX7_hire cX7_hire 4 (some .int) 2 43 [.inr o, .inl z1, .inl z2, .inl z3] E (sm_gl o 61 s mi) (some (.inl w.1), E, sm_gl o 61 w.2 mi) := by
  have hN1 := g.1
  have hN2 := g.2.1
  unfold fState_hire at h
  refine sm_meth (by decide +kernel) (Nat.le_of_ble_eq_true rfl) ?_
  show sM (xState_hire G) 0 [some (.inr o), some (.inl z1), some (.inl z2), some (.inl z3)] [] E (sm_gl o 61 s mi) _
  refine sm_aload_n dX7_hire_0 rfl ?_
  refine sl_getI (D := 0) lf_RX7_59 fI_5_4 g.2.2.1 rfl (by omega) hN2 dX7_hire_1 ?_
  refine sm_bipush dX7_hire_4 rfl ?_
  refine sc_icmp_lt (X' := sm_w (s 0 4)) (Y' := 6) 12 dX7_hire_6 rfl rfl (by decide) (fun c10 => ?_) (fun c10 => ?_)
  · rw [if_pos c10] at h
    refine sm_aload_n dX7_hire_12 rfl ?_
    refine sm_getR lf_RX7_24 fR_5_3 g.2.2.1 (by omega) g.2.2.2.2.2.1.1.2 dX7_hire_13 ?_
    refine sm_aload_n dX7_hire_16 rfl ?_
    refine sl_getI (D := 0) lf_RX7_59 fI_5_4 g.2.2.1 rfl (by omega) hN2 dX7_hire_17 ?_
    obtain ⟨q1, h⟩ := sl_guard h
    have xq1 := (sl_ix (m := 6) q1).2
    have e2 := g.2.2.2.2.2.1.2 (sm_w (s 0 4)).toNat xq1
    refine sl_aald (k := (sm_w (s 0 4)).toNat) (Or.inl rfl) g.2.2.2.2.2.1.1.1 (by omega) (sl_ix (m := 6) q1) e2.1 dX7_hire_20 ?_
    refine sm_iload_n dX7_hire_21 rfl ?_
    refine sm_iload_n dX7_hire_22 rfl ?_
    refine sm_iload_n dX7_hire_23 rfl ?_
    obtain ⟨p3, hp4, h⟩ := sl_bind h
    have hc5 := bPatrol_begin (G := G) (E := E) (o := o + (10 + (sm_w (s 0 4)).toNat)) (s := (sm_lo (10 + (sm_w (s 0 4)).toNat) s)) (mi := (sm_gl o 61 s mi)) e2.2  hp4
    rw [gl_in (o := o) (D := (10 + (sm_w (s 0 4)).toNat)) (ha := (rfl : o + (10 + (sm_w (s 0 4)).toNat) = o + (10 + (sm_w (s 0 4)).toNat))) (hD := (by omega : (10 + (sm_w (s 0 4)).toNat) + 1 ≤ 61)), gl_out (o := o) (D := (10 + (sm_w (s 0 4)).toNat)) (ha := (rfl : o + (10 + (sm_w (s 0 4)).toNat) = o + (10 + (sm_w (s 0 4)).toNat))) (hD := (by omega : (10 + (sm_w (s 0 4)).toNat) + 1 ≤ 61))] at hc5
    refine sc_callV0 (avs := [.inl z1, .inl z2, .inl z3]) (st := []) lk_RX7_87 rfl vf_X4_begin hc5 ⟨(Nat.le_of_ble_eq_true rfl), (Nat.le_of_ble_eq_true rfl)⟩ ⟨rfl, (Nat.le_of_ble_eq_true rfl)⟩ e2.2.2.2 (by omega) rfl dX7_hire_24 ?_
    obtain ⟨s6, hs7, h⟩ := sl_bind h
    rw [Option.some.inj hs7]
    refine sm_aload_n dX7_hire_27 rfl ?_
    refine sm_dup dX7_hire_28 ?_
    refine sl_getI (D := 0) lf_RX7_59 fI_5_4 g.2.2.1 rfl (by omega) hN2 dX7_hire_29 ?_
    refine sm_iconst dX7_hire_32 ?_
    refine sm_iadd dX7_hire_33 ?_
    refine sl_putI (D := 0) lf_RX7_59 fP_5_4 (Or.inl rfl) g.2.2.1 rfl (by omega) ⟨hN1, hN2⟩ dX7_hire_34 ?_
    obtain ⟨s8, hs9, h⟩ := sl_bind h
    rw [Option.some.inj hs9]
    refine sm_aload_n dX7_hire_37 rfl ?_
    refine sl_getI (D := 0) lf_RX7_59 fI_5_4 g.2.2.1 rfl (by omega) hN2 dX7_hire_38 ?_
    refine sm_iconst dX7_hire_41 ?_
    refine sm_isub dX7_hire_42 ?_
    cases h
    exact sm_ireturn dX7_hire_43 (Or.inl rfl)
  · rw [if_neg c10] at h
    refine sm_bipush dX7_hire_9 rfl ?_
    cases h
    exact sm_ireturn dX7_hire_11 (Or.inl rfl)
abbrev xState_open (G : GT) : XT := (G, yX7_open.cls, cX7_open, 3, (some .int), decide (yX7_open.name = "<init>"), 1, 22)
def fState_open (z1 : Int) (z2 : Int) (s : MI) : Option (Int × MI) :=
  (if sm_w (s 0 6) < 5 then if 0 ≤ sm_w (s 0 6) ∧ sm_w (s 0 6) < 5 then Option.bind (fGarage_begin z1 z2 (sm_lo (16 + (sm_w (s 0 6)).toNat) s)) (fun p3 => Option.bind (some (sm_gl (16 + (sm_w (s 0 6)).toNat) 1 p3 s)) (fun s6 => Option.bind (some (sm_up s6 0 6 ((s6 0 6) + 1))) (fun s8 => some (((s8 0 6) - 1), s8)))) else none else some ((-3), s))
set_option maxRecDepth 100000 in
set_option maxHeartbeats 4000000 in
theorem bState_open {G : GT} {E : ET} {o : Nat} {s mi : MI} {z1 : Int} {z2 : Int} {w : Int × MI} (g : gS E o)  (h : fState_open z1 z2 s = some w) : cN G yX7_open cX7_open 3 (some .int) 1 22 [.inr o, .inl z1, .inl z2] E (sm_gl o 61 s mi) (some (.inl w.1), E, sm_gl o 61 w.2 mi) := by
  have hN1 := g.1
  have hN2 := g.2.1
  unfold fState_open at h
  refine sm_meth (by decide +kernel) (Nat.le_of_ble_eq_true rfl) ?_
  show sM (xState_open G) 0 [some (.inr o), some (.inl z1), some (.inl z2)] [] E (sm_gl o 61 s mi) _
  refine sm_aload_n dX7_open_0 rfl ?_
  refine sl_getI (D := 0) lf_RX7_66 fI_5_6 g.2.2.1 rfl (by omega) hN2 dX7_open_1 ?_
  refine sm_iconst dX7_open_4 ?_
  refine sc_icmp_lt (X' := sm_w (s 0 6)) (Y' := 5) 11 dX7_open_5 rfl rfl (by decide) (fun c10 => ?_) (fun c10 => ?_)
  · rw [if_pos c10] at h
    refine sm_aload_n dX7_open_11 rfl ?_
    refine sm_getR lf_RX7_30 fR_5_5 g.2.2.1 (by omega) g.2.2.2.2.2.2.1.1.2 dX7_open_12 ?_
    refine sm_aload_n dX7_open_15 rfl ?_
    refine sl_getI (D := 0) lf_RX7_66 fI_5_6 g.2.2.1 rfl (by omega) hN2 dX7_open_16 ?_
    obtain ⟨q1, h⟩ := sl_guard h
    have xq1 := (sl_ix (m := 5) q1).2
    have e2 := g.2.2.2.2.2.2.1.2 (sm_w (s 0 6)).toNat xq1
    refine sl_aald (k := (sm_w (s 0 6)).toNat) (Or.inr (Or.inl rfl)) g.2.2.2.2.2.2.1.1.1 (by omega) (sl_ix (m := 5) q1) e2.1 dX7_open_19 ?_
    refine sm_iload_n dX7_open_20 rfl ?_
    refine sm_iload_n dX7_open_21 rfl ?_
    obtain ⟨p3, hp4, h⟩ := sl_bind h
    have hc5 := bGarage_begin (G := G) (E := E) (o := o + (16 + (sm_w (s 0 6)).toNat)) (s := (sm_lo (16 + (sm_w (s 0 6)).toNat) s)) (mi := (sm_gl o 61 s mi)) e2.2  hp4
    rw [gl_in (o := o) (D := (16 + (sm_w (s 0 6)).toNat)) (ha := (rfl : o + (16 + (sm_w (s 0 6)).toNat) = o + (16 + (sm_w (s 0 6)).toNat))) (hD := (by omega : (16 + (sm_w (s 0 6)).toNat) + 1 ≤ 61)), gl_out (o := o) (D := (16 + (sm_w (s 0 6)).toNat)) (ha := (rfl : o + (16 + (sm_w (s 0 6)).toNat) = o + (16 + (sm_w (s 0 6)).toNat))) (hD := (by omega : (16 + (sm_w (s 0 6)).toNat) + 1 ≤ 61))] at hc5
    refine sc_callV0 (avs := [.inl z1, .inl z2]) (st := []) lk_RX7_91 rfl vf_X3_begin hc5 ⟨(Nat.le_of_ble_eq_true rfl), (Nat.le_of_ble_eq_true rfl)⟩ ⟨rfl, (Nat.le_of_ble_eq_true rfl)⟩ e2.2.2.2 (by omega) rfl dX7_open_22 ?_
    obtain ⟨s6, hs7, h⟩ := sl_bind h
    rw [Option.some.inj hs7]
    refine sm_aload_n dX7_open_25 rfl ?_
    refine sm_dup dX7_open_26 ?_
    refine sl_getI (D := 0) lf_RX7_66 fI_5_6 g.2.2.1 rfl (by omega) hN2 dX7_open_27 ?_
    refine sm_iconst dX7_open_30 ?_
    refine sm_iadd dX7_open_31 ?_
    refine sl_putI (D := 0) lf_RX7_66 fP_5_6 (Or.inl rfl) g.2.2.1 rfl (by omega) ⟨hN1, hN2⟩ dX7_open_32 ?_
    obtain ⟨s8, hs9, h⟩ := sl_bind h
    rw [Option.some.inj hs9]
    refine sm_aload_n dX7_open_35 rfl ?_
    refine sl_getI (D := 0) lf_RX7_66 fI_5_6 g.2.2.1 rfl (by omega) hN2 dX7_open_36 ?_
    refine sm_iconst dX7_open_39 ?_
    refine sm_isub dX7_open_40 ?_
    cases h
    exact sm_ireturn dX7_open_41 (Or.inl rfl)
  · rw [if_neg c10] at h
    refine sm_bipush dX7_open_8 rfl ?_
    cases h
    exact sm_ireturn dX7_open_10 (Or.inl rfl)
abbrev xState_isMember (G : GT) : XT := (G, yX7_isMember.cls, cX7_isMember, 2, (some .boolean), decide (yX7_isMember.name = "<init>"), 0, 0)
def fState_isMember (z1 : Int) (s : MI) : Option (Int) :=
  (if sm_w z1 < 0 then some 0 else (if sm_w (s 0 2) ≤ sm_w z1 then some 0 else (if 20 ≤ sm_w z1 then some 0 else some 1)))
set_option maxRecDepth 100000 in
set_option maxHeartbeats 4000000 in
theorem bState_isMember {G : GT} {E : ET} {o : Nat} {s mi : MI} {z1 : Int} {w : Int} (g : gS E o)  (h : fState_isMember z1 s = some w) : cN G yX7_isMember cX7_isMember 2 (some .boolean) 0 0 [.inr o, .inl z1] E (sm_gl o 61 s mi) (some (.inl w), E, (sm_gl o 61 s mi)) := by
  have hN1 := g.1
  have hN2 := g.2.1
  unfold fState_isMember at h
  refine sm_meth (by decide +kernel) (Nat.le_of_ble_eq_true rfl) ?_
  show sM (xState_isMember G) 0 [some (.inr o), some (.inl z1)] [] E (sm_gl o 61 s mi) _
  refine sm_iload_n dX7_isMember_0 rfl ?_
  refine sm_if_lt 22 dX7_isMember_1 rfl (fun c3 => ?_) (fun c3 => ?_)
  · rw [if_pos c3] at h
    refine sm_iconst dX7_isMember_22 ?_
    cases h
    exact sm_ireturn dX7_isMember_23 (Or.inr ⟨rfl, Or.inl rfl⟩)
  · rw [if_neg c3] at h
    refine sm_iload_n dX7_isMember_4 rfl ?_
    refine sm_aload_n dX7_isMember_5 rfl ?_
    refine sl_getI (D := 0) lf_RX7_78 fI_5_2 g.2.2.1 rfl (by omega) hN2 dX7_isMember_6 ?_
    refine sc_icmp_ge (X' := sm_w z1) (Y' := sm_w (s 0 2)) 22 dX7_isMember_9 rfl rfl rfl (fun c2 => ?_) (fun c2 => ?_)
    · rw [if_pos c2] at h
      refine sm_iconst dX7_isMember_22 ?_
      cases h
      exact sm_ireturn dX7_isMember_23 (Or.inr ⟨rfl, Or.inl rfl⟩)
    · rw [if_neg c2] at h
      refine sm_iload_n dX7_isMember_12 rfl ?_
      refine sm_bipush dX7_isMember_13 rfl ?_
      refine sc_icmp_ge (X' := sm_w z1) (Y' := 20) 22 dX7_isMember_15 rfl rfl (by decide) (fun c1 => ?_) (fun c1 => ?_)
      · rw [if_pos c1] at h
        refine sm_iconst dX7_isMember_22 ?_
        cases h
        exact sm_ireturn dX7_isMember_23 (Or.inr ⟨rfl, Or.inl rfl⟩)
      · rw [if_neg c1] at h
        refine sm_iconst dX7_isMember_18 ?_
        refine sm_goto 23 dX7_isMember_19 rfl ?_
        cases h
        exact sm_ireturn dX7_isMember_23 (Or.inr ⟨rfl, Or.inr rfl⟩)
abbrev xState_openCallOf (G : GT) : XT := (G, yX7_openCallOf.cls, cX7_openCallOf, 3, (some .int), decide (yX7_openCallOf.name = "<init>"), 1, 20)
abbrev qState_openCallOf_l2 (G : GT) (E : ET) (o : Nat) (mi : MI) (z1 : Int) (s : MI) (r : RT) (t : Int) : Prop := sM (xState_openCallOf G) 2 [some (.inr o), some (.inl z1), some (.inl t)] [] E (sm_gl o 61 s mi) r
abbrev kState_openCallOf_l2 (G : GT) (E : ET) (o : Nat) (mi : MI) (z1 : Int) (s : MI) (r : RT) : (Unit) ⊕ (Int) → Prop := Sum.elim (fun x => sM (xState_openCallOf G) 49 [none, none, none] [] E (sm_gl o 61 s mi) r) (fun v => (some (.inl v), E, (sm_gl o 61 s mi)) = r)
def fState_openCallOf_j43_l2 (z1 : Int) (z2 : Int) (s : MI) : Option ((Int) ⊕ ((Unit) ⊕ (Int))) :=
  some (.inl (z2 + 1))
set_option maxRecDepth 100000 in
set_option maxHeartbeats 4000000 in
theorem bState_openCallOf_j43_l2 {G : GT} {E : ET} {o : Nat} {s mi : MI} {z1 : Int} {z2 : Int} {r : RT} {w : (Int) ⊕ ((Unit) ⊕ (Int))} (g : gS E o)  (h : fState_openCallOf_j43_l2 z1 z2 s = some w) (hK : Sum.elim (qState_openCallOf_l2 G E o mi z1 s r) (kState_openCallOf_l2 G E o mi z1 s r) w) : sM (xState_openCallOf G) 43 [some (.inr o), some (.inl z1), some (.inl z2)] [] E (sm_gl o 61 s mi) r := by
  have hN1 := g.1
  have hN2 := g.2.1
  unfold fState_openCallOf_j43_l2 at h
  refine sm_iinc dX7_openCallOf_43 (Nat.le_of_ble_eq_true rfl) rfl ?_
  refine sm_goto 2 dX7_openCallOf_46 rfl ?_
  cases h
  exact sm_less (lv' := [some (.inr o), some (.inl z1), some (.inl (z2 + 1))]) ⟨rfl, rfl, rfl, trivial⟩ hK
def fState_openCallOf_l2 (z1 : Int) (z2 : Int) (s : MI) : Option ((Int) ⊕ ((Unit) ⊕ (Int))) :=
  (if sm_w (s 0 8) ≤ sm_w z2 then some (.inr (.inl ())) else (if 40 ≤ sm_w z2 then some (.inr (.inl ())) else if 0 ≤ sm_w z2 ∧ sm_w z2 < 40 then (if sm_w (s (21 + (sm_w z2).toNat) 0) = sm_w z1 then Option.bind (fBreakdown_isOpen (sm_lo (21 + (sm_w z2).toNat) s)) (fun p10 => (if sm_w p10 = 0 then fState_openCallOf_j43_l2 z1 z2 s else some (.inr (.inr z2)))) else fState_openCallOf_j43_l2 z1 z2 s) else none))
set_option maxRecDepth 100000 in
set_option maxHeartbeats 4000000 in
theorem bState_openCallOf_l2 {G : GT} {E : ET} {o : Nat} {s mi : MI} {z1 : Int} {z2 : Int} {r : RT} {w : (Int) ⊕ ((Unit) ⊕ (Int))} (g : gS E o)  (h : fState_openCallOf_l2 z1 z2 s = some w) (hK : Sum.elim (qState_openCallOf_l2 G E o mi z1 s r) (kState_openCallOf_l2 G E o mi z1 s r) w) : qState_openCallOf_l2 G E o mi z1 s r z2 := by
  have hN1 := g.1
  have hN2 := g.2.1
  unfold fState_openCallOf_l2 at h
  show sM (xState_openCallOf G) 2 [some (.inr o), some (.inl z1), some (.inl z2)] [] E (sm_gl o 61 s mi) r
  refine sm_iload_n dX7_openCallOf_2 rfl ?_
  refine sm_aload_n dX7_openCallOf_3 rfl ?_
  refine sl_getI (D := 0) lf_RX7_72 fI_5_8 g.2.2.1 rfl (by omega) hN2 dX7_openCallOf_4 ?_
  refine sc_icmp_ge (X' := sm_w z2) (Y' := sm_w (s 0 8)) 49 dX7_openCallOf_7 rfl rfl rfl (fun c16 => ?_) (fun c16 => ?_)
  · rw [if_pos c16] at h
    cases h
    exact sm_less (lv' := [none, none, none]) trivial hK
  · rw [if_neg c16] at h
    refine sm_iload_n dX7_openCallOf_10 rfl ?_
    refine sm_bipush dX7_openCallOf_11 rfl ?_
    refine sc_icmp_ge (X' := sm_w z2) (Y' := 40) 49 dX7_openCallOf_13 rfl rfl (by decide) (fun c15 => ?_) (fun c15 => ?_)
    · rw [if_pos c15] at h
      cases h
      exact sm_less (lv' := [none, none, none]) trivial hK
    · rw [if_neg c15] at h
      refine sm_aload_n dX7_openCallOf_16 rfl ?_
      refine sm_getR lf_RX7_36 fR_5_7 g.2.2.1 (by omega) g.2.2.2.2.2.2.2.1.1.2 dX7_openCallOf_17 ?_
      refine sm_iload_n dX7_openCallOf_20 rfl ?_
      obtain ⟨q7, h⟩ := sl_guard h
      have xq7 := (sl_ix (m := 40) q7).2
      have e8 := g.2.2.2.2.2.2.2.1.2 (sm_w z2).toNat xq7
      refine sl_aald (k := (sm_w z2).toNat) (Or.inr (Or.inr (Or.inl rfl))) g.2.2.2.2.2.2.2.1.1.1 (by omega) (sl_ix (m := 40) q7) e8.1 dX7_openCallOf_21 ?_
      refine sl_getI (D := (21 + (sm_w z2).toNat)) lf_RX7_130 fI_0_0 e8.2.2.2 rfl (by omega) hN2 dX7_openCallOf_22 ?_
      refine sm_iload_n dX7_openCallOf_25 rfl ?_
      refine sc_icmp_ne (X' := sm_w (s (21 + (sm_w z2).toNat) 0)) (Y' := sm_w z1) 43 dX7_openCallOf_26 rfl rfl rfl (fun c14 => ?_) (fun c14 => ?_)
      · rw [if_neg c14] at h
        exact sm_less (lv' := [some (.inr o), some (.inl z1), some (.inl z2)]) ⟨rfl, rfl, rfl, trivial⟩ (bState_openCallOf_j43_l2 g   h hK)
      · rw [if_pos c14] at h
        refine sm_aload_n dX7_openCallOf_29 rfl ?_
        refine sm_getR lf_RX7_36 fR_5_7 g.2.2.1 (by omega) g.2.2.2.2.2.2.2.1.1.2 dX7_openCallOf_30 ?_
        refine sm_iload_n dX7_openCallOf_33 rfl ?_
        have e9 := g.2.2.2.2.2.2.2.1.2 (sm_w z2).toNat xq7
        refine sl_aald (k := (sm_w z2).toNat) (Or.inr (Or.inr (Or.inl rfl))) g.2.2.2.2.2.2.2.1.1.1 (by omega) (sl_ix (m := 40) q7) e9.1 dX7_openCallOf_34 ?_
        obtain ⟨p10, hp11, h⟩ := sl_bind h
        have hc12 := bBreakdown_isOpen (G := G) (E := E) (o := o + (21 + (sm_w z2).toNat)) (s := (sm_lo (21 + (sm_w z2).toNat) s)) (mi := (sm_gl o 61 s mi)) e9.2  hp11
        rw [gl_in (o := o) (D := (21 + (sm_w z2).toNat)) (ha := (rfl : o + (21 + (sm_w z2).toNat) = o + (21 + (sm_w z2).toNat))) (hD := (by omega : (21 + (sm_w z2).toNat) + 1 ≤ 61))] at hc12
        refine sc_callV1 (avs := []) (st := []) lk_RX7_145 rfl vf_X1_isOpen hc12 ⟨(Nat.le_of_ble_eq_true rfl), (Nat.le_of_ble_eq_true rfl)⟩ ⟨rfl, (Nat.le_of_ble_eq_true rfl)⟩ e9.2.2.2 (by omega) rfl dX7_openCallOf_35 ?_
        refine sm_if_eq 43 dX7_openCallOf_38 rfl (fun c13 => ?_) (fun c13 => ?_)
        · rw [if_pos c13] at h
          exact sm_less (lv' := [some (.inr o), some (.inl z1), some (.inl z2)]) ⟨rfl, rfl, rfl, trivial⟩ (bState_openCallOf_j43_l2 g   h hK)
        · rw [if_neg c13] at h
          refine sm_iload_n dX7_openCallOf_41 rfl ?_
          cases h
          have hK : (some (.inl z2), E, (sm_gl o 61 s mi)) = r := hK
          subst hK
          exact sm_ireturn dX7_openCallOf_42 (Or.inl rfl)
def fState_openCallOf (z1 : Int) (s : MI) : Option (Int) :=
  Option.bind (sl_it (fun (t : Int) => fState_openCallOf_l2 z1 t s) sl_fu 0) (fun y17 => Sum.elim (fun x19 => some (-5)) (fun v20 => some v20) y17)
set_option maxRecDepth 100000 in
set_option maxHeartbeats 4000000 in
theorem bState_openCallOf {G : GT} {E : ET} {o : Nat} {s mi : MI} {z1 : Int} {w : Int} (g : gS E o)  (h : fState_openCallOf z1 s = some w) : cN G yX7_openCallOf cX7_openCallOf 3 (some .int) 1 20 [.inr o, .inl z1] E (sm_gl o 61 s mi) (some (.inl w), E, (sm_gl o 61 s mi)) := by
  have hN1 := g.1
  have hN2 := g.2.1
  unfold fState_openCallOf at h
  refine sm_meth (by decide +kernel) (Nat.le_of_ble_eq_true rfl) ?_
  show sM (xState_openCallOf G) 0 [some (.inr o), some (.inl z1), none] [] E (sm_gl o 61 s mi) _
  refine sm_iconst dX7_openCallOf_0 ?_
  refine sm_istore_n dX7_openCallOf_1 (Nat.le_of_ble_eq_true rfl) ?_
  obtain ⟨y17, hy18, h⟩ := sl_bind h
  refine sm_less (lv' := [some (.inr o), some (.inl z1), some (.inl 0)]) ⟨rfl, rfl, rfl, trivial⟩ (sl_itE (P := qState_openCallOf_l2 G E o mi z1 s _) (K := kState_openCallOf_l2 G E o mi z1 s _) (fun t q hq hk => bState_openCallOf_l2 g  hq hk) sl_fu _ y17 hy18 ?_)
  rcases y17 with x19 | v20
  · show sM (xState_openCallOf G) 49 [none, none, none] [] E (sm_gl o 61 s mi) _
    dsimp only [Sum.elim_inl] at h
    refine sm_bipush dX7_openCallOf_49 rfl ?_
    cases h
    exact sm_ireturn dX7_openCallOf_51 (Or.inl rfl)
  · dsimp only [Sum.elim_inr] at h
    cases h
    exact rfl
abbrev xState_refusal (G : GT) : XT := (G, yX7_refusal.cls, cX7_refusal, 4, (some .int), decide (yX7_refusal.name = "<init>"), 2, 42)
def fState_refusal (z1 : Int) (z2 : Int) (z3 : Int) (s : MI) : Option (Int) :=
  Option.bind (fState_isMember z1 s) (fun p1 => (if sm_w p1 = 0 then some (-1) else Option.bind (fDesk_isArea z2) (fun p4 => (if sm_w p4 = 0 then some (-1) else (if sm_w z3 < 1 then some (-2) else (if sm_w z3 ≤ 12 then Option.bind (fState_openCallOf z1 s) (fun p7 => (if sm_w p7 = (-5) then (if sm_w (s 0 8) < 40 then some 0 else some (-3)) else some (-4))) else some (-2)))))))
set_option maxRecDepth 100000 in
set_option maxHeartbeats 4000000 in
theorem bState_refusal {G : GT} {E : ET} {o : Nat} {s mi : MI} {z1 : Int} {z2 : Int} {z3 : Int} {w : Int} (g : gS E o)  (h : fState_refusal z1 z2 z3 s = some w) : cN G yX7_refusal cX7_refusal 4 (some .int) 2 42 [.inr o, .inl z1, .inl z2, .inl z3] E (sm_gl o 61 s mi) (some (.inl w), E, (sm_gl o 61 s mi)) := by
  have hN1 := g.1
  have hN2 := g.2.1
  unfold fState_refusal at h
  refine sm_meth (by decide +kernel) (Nat.le_of_ble_eq_true rfl) ?_
  show sM (xState_refusal G) 0 [some (.inr o), some (.inl z1), some (.inl z2), some (.inl z3)] [] E (sm_gl o 61 s mi) _
  refine sm_aload_n dX7_refusal_0 rfl ?_
  refine sm_iload_n dX7_refusal_1 rfl ?_
  obtain ⟨p1, hp2, h⟩ := sl_bind h
  have hc3 := bState_isMember (G := G) (E := E) (o := o) (s := s) (mi := mi) g  hp2
  refine sc_callV1 (avs := [.inl z1]) (st := []) lk_RX7_94 rfl vf_X7_isMember hc3 ⟨(Nat.le_of_ble_eq_true rfl), (Nat.le_of_ble_eq_true rfl)⟩ ⟨rfl, (Nat.le_of_ble_eq_true rfl)⟩ g.2.2.1 (by omega) rfl dX7_refusal_2 ?_
  refine sm_if_eq 15 dX7_refusal_5 rfl (fun c15 => ?_) (fun c15 => ?_)
  · rw [if_pos c15] at h
    refine sm_iconst dX7_refusal_15 ?_
    cases h
    exact sm_ireturn dX7_refusal_16 (Or.inl rfl)
  · rw [if_neg c15] at h
    refine sm_iload_n dX7_refusal_8 rfl ?_
    obtain ⟨p4, hp5, h⟩ := sl_bind h
    have hc6 := bDesk_isArea (G := G) (E := E) (mi := (sm_gl o 61 s mi))   hp5
    refine sc_callS1 (avs := [.inl z2]) (st := []) lk_RX7_98 rfl sf_X9_isArea hc6 ⟨(Nat.le_of_ble_eq_true rfl), (Nat.le_of_ble_eq_true rfl)⟩ ⟨rfl, (Nat.le_of_ble_eq_true rfl)⟩ rfl dX7_refusal_9 ?_
    refine sm_if_ne 17 dX7_refusal_12 rfl (fun c14 => ?_) (fun c14 => ?_)
    · rw [if_neg c14] at h
      refine sm_iload_n dX7_refusal_17 rfl ?_
      refine sm_iconst dX7_refusal_18 ?_
      refine sc_icmp_lt (X' := sm_w z3) (Y' := 1) 28 dX7_refusal_19 rfl rfl (by decide) (fun c13 => ?_) (fun c13 => ?_)
      · rw [if_pos c13] at h
        refine sm_bipush dX7_refusal_28 rfl ?_
        cases h
        exact sm_ireturn dX7_refusal_30 (Or.inl rfl)
      · rw [if_neg c13] at h
        refine sm_iload_n dX7_refusal_22 rfl ?_
        refine sm_bipush dX7_refusal_23 rfl ?_
        refine sc_icmp_le (X' := sm_w z3) (Y' := 12) 31 dX7_refusal_25 rfl rfl (by decide) (fun c12 => ?_) (fun c12 => ?_)
        · rw [if_pos c12] at h
          refine sm_aload_n dX7_refusal_31 rfl ?_
          refine sm_iload_n dX7_refusal_32 rfl ?_
          obtain ⟨p7, hp8, h⟩ := sl_bind h
          have hc9 := bState_openCallOf (G := G) (E := E) (o := o) (s := s) (mi := mi) g  hp8
          refine sc_callV1 (avs := [.inl z1]) (st := []) lk_RX7_101 rfl vf_X7_openCallOf hc9 ⟨(Nat.le_of_ble_eq_true rfl), (Nat.le_of_ble_eq_true rfl)⟩ ⟨rfl, (Nat.le_of_ble_eq_true rfl)⟩ g.2.2.1 (by omega) rfl dX7_refusal_33 ?_
          refine sm_bipush dX7_refusal_36 rfl ?_
          refine sc_icmp_eq (X' := sm_w p7) (Y' := (-5)) 44 dX7_refusal_38 rfl rfl (by decide) (fun c11 => ?_) (fun c11 => ?_)
          · rw [if_pos c11] at h
            refine sm_aload_n dX7_refusal_44 rfl ?_
            refine sl_getI (D := 0) lf_RX7_72 fI_5_8 g.2.2.1 rfl (by omega) hN2 dX7_refusal_45 ?_
            refine sm_bipush dX7_refusal_48 rfl ?_
            refine sc_icmp_lt (X' := sm_w (s 0 8)) (Y' := 40) 58 dX7_refusal_50 rfl rfl (by decide) (fun c10 => ?_) (fun c10 => ?_)
            · rw [if_pos c10] at h
              refine sm_iconst dX7_refusal_58 ?_
              cases h
              exact sm_ireturn dX7_refusal_59 (Or.inl rfl)
            · rw [if_neg c10] at h
              refine sm_bipush dX7_refusal_53 rfl ?_
              refine sm_goto 59 dX7_refusal_55 rfl ?_
              cases h
              exact sm_ireturn dX7_refusal_59 (Or.inl rfl)
          · rw [if_neg c11] at h
            refine sm_bipush dX7_refusal_41 rfl ?_
            cases h
            exact sm_ireturn dX7_refusal_43 (Or.inl rfl)
        · rw [if_neg c12] at h
          refine sm_bipush dX7_refusal_28 rfl ?_
          cases h
          exact sm_ireturn dX7_refusal_30 (Or.inl rfl)
    · rw [if_pos c14] at h
      refine sm_iconst dX7_refusal_15 ?_
      cases h
      exact sm_ireturn dX7_refusal_16 (Or.inl rfl)
abbrev xState_repairedBefore (G : GT) : XT := (G, yX7_repairedBefore.cls, cX7_repairedBefore, 3, (some .int), decide (yX7_repairedBefore.name = "<init>"), 0, 0)
abbrev qState_repairedBefore_l7 (G : GT) (E : ET) (o : Nat) (mi : MI) (z1 : Int) (s : MI) (r : RT) (t : Int) : Prop := sM (xState_repairedBefore G) 7 [some (.inr o), some (.inl z1), some (.inl t)] [] E (sm_gl o 61 s mi) r
abbrev kState_repairedBefore_l7 (G : GT) (E : ET) (o : Nat) (mi : MI) (z1 : Int) (s : MI) (r : RT) : (Unit) ⊕ (Int) → Prop := Sum.elim (fun x => sM (xState_repairedBefore G) 75 [none, none, none] [] E (sm_gl o 61 s mi) r) (fun v => (some (.inl v), E, (sm_gl o 61 s mi)) = r)
def fState_repairedBefore_j69_l7 (z1 : Int) (z2 : Int) (s : MI) : Option ((Int) ⊕ ((Unit) ⊕ (Int))) :=
  some (.inl (z2 + (-1)))
set_option maxRecDepth 100000 in
set_option maxHeartbeats 4000000 in
theorem bState_repairedBefore_j69_l7 {G : GT} {E : ET} {o : Nat} {s mi : MI} {z1 : Int} {z2 : Int} {r : RT} {w : (Int) ⊕ ((Unit) ⊕ (Int))} (g : gS E o)  (h : fState_repairedBefore_j69_l7 z1 z2 s = some w) (hK : Sum.elim (qState_repairedBefore_l7 G E o mi z1 s r) (kState_repairedBefore_l7 G E o mi z1 s r) w) : sM (xState_repairedBefore G) 69 [some (.inr o), some (.inl z1), some (.inl z2)] [] E (sm_gl o 61 s mi) r := by
  have hN1 := g.1
  have hN2 := g.2.1
  unfold fState_repairedBefore_j69_l7 at h
  refine sm_iinc dX7_repairedBefore_69 (Nat.le_of_ble_eq_true rfl) rfl ?_
  refine sm_goto 7 dX7_repairedBefore_72 rfl ?_
  cases h
  exact sm_less (lv' := [some (.inr o), some (.inl z1), some (.inl (z2 + (-1)))]) ⟨rfl, rfl, rfl, trivial⟩ hK
def fState_repairedBefore_l7 (z1 : Int) (z2 : Int) (s : MI) : Option ((Int) ⊕ ((Unit) ⊕ (Int))) :=
  (if sm_w z2 < 0 then some (.inr (.inl ())) else (if 40 ≤ sm_w z2 then some (.inr (.inl ())) else if 0 ≤ sm_w z2 ∧ sm_w z2 < 40 then (if sm_w (s (21 + (sm_w z2).toNat) 0) = sm_w z1 then (if sm_w (s (21 + (sm_w z2).toNat) 5) = 5 then (if 120 < sm_w ((s 0 11) - (s (21 + (sm_w z2).toNat) 8)) then some (.inr (.inr (-5))) else some (.inr (.inr z2))) else fState_repairedBefore_j69_l7 z1 z2 s) else fState_repairedBefore_j69_l7 z1 z2 s) else none))
set_option maxRecDepth 100000 in
set_option maxHeartbeats 4000000 in
theorem bState_repairedBefore_l7 {G : GT} {E : ET} {o : Nat} {s mi : MI} {z1 : Int} {z2 : Int} {r : RT} {w : (Int) ⊕ ((Unit) ⊕ (Int))} (g : gS E o)  (h : fState_repairedBefore_l7 z1 z2 s = some w) (hK : Sum.elim (qState_repairedBefore_l7 G E o mi z1 s r) (kState_repairedBefore_l7 G E o mi z1 s r) w) : qState_repairedBefore_l7 G E o mi z1 s r z2 := by
  have hN1 := g.1
  have hN2 := g.2.1
  unfold fState_repairedBefore_l7 at h
  show sM (xState_repairedBefore G) 7 [some (.inr o), some (.inl z1), some (.inl z2)] [] E (sm_gl o 61 s mi) r
  refine sm_iload_n dX7_repairedBefore_7 rfl ?_
  refine sm_if_lt 75 dX7_repairedBefore_8 rfl (fun c13 => ?_) (fun c13 => ?_)
  · rw [if_pos c13] at h
    cases h
    exact sm_less (lv' := [none, none, none]) trivial hK
  · rw [if_neg c13] at h
    refine sm_iload_n dX7_repairedBefore_11 rfl ?_
    refine sm_bipush dX7_repairedBefore_12 rfl ?_
    refine sc_icmp_ge (X' := sm_w z2) (Y' := 40) 75 dX7_repairedBefore_14 rfl rfl (by decide) (fun c12 => ?_) (fun c12 => ?_)
    · rw [if_pos c12] at h
      cases h
      exact sm_less (lv' := [none, none, none]) trivial hK
    · rw [if_neg c12] at h
      refine sm_aload_n dX7_repairedBefore_17 rfl ?_
      refine sm_getR lf_RX7_36 fR_5_7 g.2.2.1 (by omega) g.2.2.2.2.2.2.2.1.1.2 dX7_repairedBefore_18 ?_
      refine sm_iload_n dX7_repairedBefore_21 rfl ?_
      obtain ⟨q5, h⟩ := sl_guard h
      have xq5 := (sl_ix (m := 40) q5).2
      have e6 := g.2.2.2.2.2.2.2.1.2 (sm_w z2).toNat xq5
      refine sl_aald (k := (sm_w z2).toNat) (Or.inr (Or.inr (Or.inl rfl))) g.2.2.2.2.2.2.2.1.1.1 (by omega) (sl_ix (m := 40) q5) e6.1 dX7_repairedBefore_22 ?_
      refine sl_getI (D := (21 + (sm_w z2).toNat)) lf_RX7_130 fI_0_0 e6.2.2.2 rfl (by omega) hN2 dX7_repairedBefore_23 ?_
      refine sm_iload_n dX7_repairedBefore_26 rfl ?_
      refine sc_icmp_ne (X' := sm_w (s (21 + (sm_w z2).toNat) 0)) (Y' := sm_w z1) 69 dX7_repairedBefore_27 rfl rfl rfl (fun c11 => ?_) (fun c11 => ?_)
      · rw [if_neg c11] at h
        exact sm_less (lv' := [some (.inr o), some (.inl z1), some (.inl z2)]) ⟨rfl, rfl, rfl, trivial⟩ (bState_repairedBefore_j69_l7 g   h hK)
      · rw [if_pos c11] at h
        refine sm_aload_n dX7_repairedBefore_30 rfl ?_
        refine sm_getR lf_RX7_36 fR_5_7 g.2.2.1 (by omega) g.2.2.2.2.2.2.2.1.1.2 dX7_repairedBefore_31 ?_
        refine sm_iload_n dX7_repairedBefore_34 rfl ?_
        have e7 := g.2.2.2.2.2.2.2.1.2 (sm_w z2).toNat xq5
        refine sl_aald (k := (sm_w z2).toNat) (Or.inr (Or.inr (Or.inl rfl))) g.2.2.2.2.2.2.2.1.1.1 (by omega) (sl_ix (m := 40) q5) e7.1 dX7_repairedBefore_35 ?_
        refine sl_getI (D := (21 + (sm_w z2).toNat)) lf_RX7_133 fI_0_5 e7.2.2.2 rfl (by omega) hN2 dX7_repairedBefore_36 ?_
        refine sm_iconst dX7_repairedBefore_39 ?_
        refine sc_icmp_ne (X' := sm_w (s (21 + (sm_w z2).toNat) 5)) (Y' := 5) 69 dX7_repairedBefore_40 rfl rfl (by decide) (fun c10 => ?_) (fun c10 => ?_)
        · rw [if_neg c10] at h
          exact sm_less (lv' := [some (.inr o), some (.inl z1), some (.inl z2)]) ⟨rfl, rfl, rfl, trivial⟩ (bState_repairedBefore_j69_l7 g   h hK)
        · rw [if_pos c10] at h
          refine sm_aload_n dX7_repairedBefore_43 rfl ?_
          refine sl_getI (D := 0) lf_RX7_84 fI_5_11 g.2.2.1 rfl (by omega) hN2 dX7_repairedBefore_44 ?_
          refine sm_aload_n dX7_repairedBefore_47 rfl ?_
          refine sm_getR lf_RX7_36 fR_5_7 g.2.2.1 (by omega) g.2.2.2.2.2.2.2.1.1.2 dX7_repairedBefore_48 ?_
          refine sm_iload_n dX7_repairedBefore_51 rfl ?_
          have e8 := g.2.2.2.2.2.2.2.1.2 (sm_w z2).toNat xq5
          refine sl_aald (k := (sm_w z2).toNat) (Or.inr (Or.inr (Or.inl rfl))) g.2.2.2.2.2.2.2.1.1.1 (by omega) (sl_ix (m := 40) q5) e8.1 dX7_repairedBefore_52 ?_
          refine sl_getI (D := (21 + (sm_w z2).toNat)) lf_RX7_136 fI_0_8 e8.2.2.2 rfl (by omega) hN2 dX7_repairedBefore_53 ?_
          refine sm_isub dX7_repairedBefore_56 ?_
          refine sm_bipush dX7_repairedBefore_57 rfl ?_
          refine sc_icmp_gt (X' := sm_w ((s 0 11) - (s (21 + (sm_w z2).toNat) 8))) (Y' := 120) 66 dX7_repairedBefore_59 rfl rfl (by decide) (fun c9 => ?_) (fun c9 => ?_)
          · rw [if_pos c9] at h
            refine sm_bipush dX7_repairedBefore_66 rfl ?_
            cases h
            have hK : (some (.inl (-5)), E, (sm_gl o 61 s mi)) = r := hK
            subst hK
            exact sm_ireturn dX7_repairedBefore_68 (Or.inl rfl)
          · rw [if_neg c9] at h
            refine sm_iload_n dX7_repairedBefore_62 rfl ?_
            refine sm_goto 68 dX7_repairedBefore_63 rfl ?_
            cases h
            have hK : (some (.inl z2), E, (sm_gl o 61 s mi)) = r := hK
            subst hK
            exact sm_ireturn dX7_repairedBefore_68 (Or.inl rfl)
def fState_repairedBefore (z1 : Int) (s : MI) : Option (Int) :=
  Option.bind (sl_it (fun (t : Int) => fState_repairedBefore_l7 z1 t s) sl_fu ((s 0 8) - 1)) (fun y14 => Sum.elim (fun x16 => some (-5)) (fun v17 => some v17) y14)
set_option maxRecDepth 100000 in
set_option maxHeartbeats 4000000 in
theorem bState_repairedBefore {G : GT} {E : ET} {o : Nat} {s mi : MI} {z1 : Int} {w : Int} (g : gS E o)  (h : fState_repairedBefore z1 s = some w) : cN G yX7_repairedBefore cX7_repairedBefore 3 (some .int) 0 0 [.inr o, .inl z1] E (sm_gl o 61 s mi) (some (.inl w), E, (sm_gl o 61 s mi)) := by
  have hN1 := g.1
  have hN2 := g.2.1
  unfold fState_repairedBefore at h
  refine sm_meth (by decide +kernel) (Nat.le_of_ble_eq_true rfl) ?_
  show sM (xState_repairedBefore G) 0 [some (.inr o), some (.inl z1), none] [] E (sm_gl o 61 s mi) _
  refine sm_aload_n dX7_repairedBefore_0 rfl ?_
  refine sl_getI (D := 0) lf_RX7_72 fI_5_8 g.2.2.1 rfl (by omega) hN2 dX7_repairedBefore_1 ?_
  refine sm_iconst dX7_repairedBefore_4 ?_
  refine sm_isub dX7_repairedBefore_5 ?_
  refine sm_istore_n dX7_repairedBefore_6 (Nat.le_of_ble_eq_true rfl) ?_
  obtain ⟨y14, hy15, h⟩ := sl_bind h
  refine sm_less (lv' := [some (.inr o), some (.inl z1), some (.inl ((s 0 8) - 1))]) ⟨rfl, rfl, rfl, trivial⟩ (sl_itE (P := qState_repairedBefore_l7 G E o mi z1 s _) (K := kState_repairedBefore_l7 G E o mi z1 s _) (fun t q hq hk => bState_repairedBefore_l7 g  hq hk) sl_fu _ y14 hy15 ?_)
  rcases y14 with x16 | v17
  · show sM (xState_repairedBefore G) 75 [none, none, none] [] E (sm_gl o 61 s mi) _
    dsimp only [Sum.elim_inl] at h
    refine sm_bipush dX7_repairedBefore_75 rfl ?_
    cases h
    exact sm_ireturn dX7_repairedBefore_77 (Or.inl rfl)
  · dsimp only [Sum.elim_inr] at h
    cases h
    exact rfl
abbrev xState_tierOf (G : GT) : XT := (G, yX7_tierOf.cls, cX7_tierOf, 2, (some .int), decide (yX7_tierOf.name = "<init>"), 1, 21)
def fState_tierOf (z1 : Int) (s : MI) : Option (Int) :=
  Option.bind (fState_isMember z1 s) (fun p1 => (if sm_w p1 = 0 then some (-5) else if 0 ≤ sm_w z1 ∧ sm_w z1 < 20 then some (s 4 (sm_w z1).toNat) else none))
set_option maxRecDepth 100000 in
set_option maxHeartbeats 4000000 in
theorem bState_tierOf {G : GT} {E : ET} {o : Nat} {s mi : MI} {z1 : Int} {w : Int} (g : gS E o)  (h : fState_tierOf z1 s = some w) : cN G yX7_tierOf cX7_tierOf 2 (some .int) 1 21 [.inr o, .inl z1] E (sm_gl o 61 s mi) (some (.inl w), E, (sm_gl o 61 s mi)) := by
  have hN1 := g.1
  have hN2 := g.2.1
  unfold fState_tierOf at h
  refine sm_meth (by decide +kernel) (Nat.le_of_ble_eq_true rfl) ?_
  show sM (xState_tierOf G) 0 [some (.inr o), some (.inl z1)] [] E (sm_gl o 61 s mi) _
  refine sm_aload_n dX7_tierOf_0 rfl ?_
  refine sm_iload_n dX7_tierOf_1 rfl ?_
  obtain ⟨p1, hp2, h⟩ := sl_bind h
  have hc3 := bState_isMember (G := G) (E := E) (o := o) (s := s) (mi := mi) g  hp2
  refine sc_callV1 (avs := [.inl z1]) (st := []) lk_RX7_94 rfl vf_X7_isMember hc3 ⟨(Nat.le_of_ble_eq_true rfl), (Nat.le_of_ble_eq_true rfl)⟩ ⟨rfl, (Nat.le_of_ble_eq_true rfl)⟩ g.2.2.1 (by omega) rfl dX7_tierOf_2 ?_
  refine sm_if_eq 17 dX7_tierOf_5 rfl (fun c5 => ?_) (fun c5 => ?_)
  · rw [if_pos c5] at h
    refine sm_bipush dX7_tierOf_17 rfl ?_
    cases h
    exact sm_ireturn dX7_tierOf_19 (Or.inl rfl)
  · rw [if_neg c5] at h
    refine sm_aload_n dX7_tierOf_8 rfl ?_
    refine sm_getR lf_RX7_18 fR_5_1 g.2.2.1 (by omega) g.2.2.2.2.1.2 dX7_tierOf_9 ?_
    refine sm_iload_n dX7_tierOf_12 rfl ?_
    obtain ⟨q4, h⟩ := sl_guard h
    have xq4 := (sl_ix (m := 20) q4).2
    refine sl_ialdk (D := 4) (k := (sm_w z1).toNat) g.2.2.2.2.1.1 rfl (by omega) hN2 (sl_ix (m := 20) q4) dX7_tierOf_13 ?_
    refine sm_goto 19 dX7_tierOf_14 rfl ?_
    cases h
    exact sm_ireturn dX7_tierOf_19 (Or.inl rfl)
abbrev xState_promiseOf (G : GT) : XT := (G, yX7_promiseOf.cls, cX7_promiseOf, 3, (some .int), decide (yX7_promiseOf.name = "<init>"), 2, 42)
def fState_promiseOf (z1 : Int) (s : MI) : Option (Int) :=
  Option.bind (fState_tierOf z1 s) (fun p1 => Option.bind (fDesk_isTier p1) (fun p4 => (if sm_w p4 = 0 then some 0 else if 0 ≤ sm_w p1 ∧ sm_w p1 < 3 then some (s 8 (sm_w p1).toNat) else none)))
set_option maxRecDepth 100000 in
set_option maxHeartbeats 4000000 in
theorem bState_promiseOf {G : GT} {E : ET} {o : Nat} {s mi : MI} {z1 : Int} {w : Int} (g : gS E o)  (h : fState_promiseOf z1 s = some w) : cN G yX7_promiseOf cX7_promiseOf 3 (some .int) 2 42 [.inr o, .inl z1] E (sm_gl o 61 s mi) (some (.inl w), E, (sm_gl o 61 s mi)) := by
  have hN1 := g.1
  have hN2 := g.2.1
  unfold fState_promiseOf at h
  refine sm_meth (by decide +kernel) (Nat.le_of_ble_eq_true rfl) ?_
  show sM (xState_promiseOf G) 0 [some (.inr o), some (.inl z1), none] [] E (sm_gl o 61 s mi) _
  refine sm_aload_n dX7_promiseOf_0 rfl ?_
  refine sm_iload_n dX7_promiseOf_1 rfl ?_
  obtain ⟨p1, hp2, h⟩ := sl_bind h
  have hc3 := bState_tierOf (G := G) (E := E) (o := o) (s := s) (mi := mi) g  hp2
  refine sc_callV1 (avs := [.inl z1]) (st := []) lk_RX7_139 rfl vf_X7_tierOf hc3 ⟨(Nat.le_of_ble_eq_true rfl), (Nat.le_of_ble_eq_true rfl)⟩ ⟨rfl, (Nat.le_of_ble_eq_true rfl)⟩ g.2.2.1 (by omega) rfl dX7_promiseOf_2 ?_
  refine sm_istore_n dX7_promiseOf_5 (Nat.le_of_ble_eq_true rfl) ?_
  refine sm_iload_n dX7_promiseOf_6 rfl ?_
  obtain ⟨p4, hp5, h⟩ := sl_bind h
  have hc6 := bDesk_isTier (G := G) (E := E) (mi := (sm_gl o 61 s mi))   hp5
  refine sc_callS1 (avs := [.inl p1]) (st := []) lk_RX7_142 rfl sf_X9_isTier hc6 ⟨(Nat.le_of_ble_eq_true rfl), (Nat.le_of_ble_eq_true rfl)⟩ ⟨rfl, (Nat.le_of_ble_eq_true rfl)⟩ rfl dX7_promiseOf_7 ?_
  refine sm_if_eq 22 dX7_promiseOf_10 rfl (fun c8 => ?_) (fun c8 => ?_)
  · rw [if_pos c8] at h
    refine sm_iconst dX7_promiseOf_22 ?_
    cases h
    exact sm_ireturn dX7_promiseOf_23 (Or.inl rfl)
  · rw [if_neg c8] at h
    refine sm_aload_n dX7_promiseOf_13 rfl ?_
    refine sm_getR lf_RX7_40 fR_5_9 g.2.2.1 (by omega) g.2.2.2.2.2.2.2.2.1.2 dX7_promiseOf_14 ?_
    refine sm_iload_n dX7_promiseOf_17 rfl ?_
    obtain ⟨q7, h⟩ := sl_guard h
    have xq7 := (sl_ix (m := 3) q7).2
    refine sl_ialdk (D := 8) (k := (sm_w p1).toNat) g.2.2.2.2.2.2.2.2.1.1 rfl (by omega) hN2 (sl_ix (m := 3) q7) dX7_promiseOf_18 ?_
    refine sm_goto 23 dX7_promiseOf_19 rfl ?_
    cases h
    exact sm_ireturn dX7_promiseOf_23 (Or.inl rfl)
abbrev xState_isCall (G : GT) : XT := (G, yX7_isCall.cls, cX7_isCall, 2, (some .boolean), decide (yX7_isCall.name = "<init>"), 0, 0)
def fState_isCall (z1 : Int) (s : MI) : Option (Int) :=
  (if sm_w z1 < 0 then some 0 else (if sm_w (s 0 8) ≤ sm_w z1 then some 0 else (if 40 ≤ sm_w z1 then some 0 else some 1)))
set_option maxRecDepth 100000 in
set_option maxHeartbeats 4000000 in
theorem bState_isCall {G : GT} {E : ET} {o : Nat} {s mi : MI} {z1 : Int} {w : Int} (g : gS E o)  (h : fState_isCall z1 s = some w) : cN G yX7_isCall cX7_isCall 2 (some .boolean) 0 0 [.inr o, .inl z1] E (sm_gl o 61 s mi) (some (.inl w), E, (sm_gl o 61 s mi)) := by
  have hN1 := g.1
  have hN2 := g.2.1
  unfold fState_isCall at h
  refine sm_meth (by decide +kernel) (Nat.le_of_ble_eq_true rfl) ?_
  show sM (xState_isCall G) 0 [some (.inr o), some (.inl z1)] [] E (sm_gl o 61 s mi) _
  refine sm_iload_n dX7_isCall_0 rfl ?_
  refine sm_if_lt 22 dX7_isCall_1 rfl (fun c3 => ?_) (fun c3 => ?_)
  · rw [if_pos c3] at h
    refine sm_iconst dX7_isCall_22 ?_
    cases h
    exact sm_ireturn dX7_isCall_23 (Or.inr ⟨rfl, Or.inl rfl⟩)
  · rw [if_neg c3] at h
    refine sm_iload_n dX7_isCall_4 rfl ?_
    refine sm_aload_n dX7_isCall_5 rfl ?_
    refine sl_getI (D := 0) lf_RX7_72 fI_5_8 g.2.2.1 rfl (by omega) hN2 dX7_isCall_6 ?_
    refine sc_icmp_ge (X' := sm_w z1) (Y' := sm_w (s 0 8)) 22 dX7_isCall_9 rfl rfl rfl (fun c2 => ?_) (fun c2 => ?_)
    · rw [if_pos c2] at h
      refine sm_iconst dX7_isCall_22 ?_
      cases h
      exact sm_ireturn dX7_isCall_23 (Or.inr ⟨rfl, Or.inl rfl⟩)
    · rw [if_neg c2] at h
      refine sm_iload_n dX7_isCall_12 rfl ?_
      refine sm_bipush dX7_isCall_13 rfl ?_
      refine sc_icmp_ge (X' := sm_w z1) (Y' := 40) 22 dX7_isCall_15 rfl rfl (by decide) (fun c1 => ?_) (fun c1 => ?_)
      · rw [if_pos c1] at h
        refine sm_iconst dX7_isCall_22 ?_
        cases h
        exact sm_ireturn dX7_isCall_23 (Or.inr ⟨rfl, Or.inl rfl⟩)
      · rw [if_neg c1] at h
        refine sm_iconst dX7_isCall_18 ?_
        refine sm_goto 23 dX7_isCall_19 rfl ?_
        cases h
        exact sm_ireturn dX7_isCall_23 (Or.inr ⟨rfl, Or.inr rfl⟩)
abbrev xState_isPatrol (G : GT) : XT := (G, yX7_isPatrol.cls, cX7_isPatrol, 2, (some .boolean), decide (yX7_isPatrol.name = "<init>"), 0, 0)
def fState_isPatrol (z1 : Int) (s : MI) : Option (Int) :=
  (if sm_w z1 < 0 then some 0 else (if sm_w (s 0 4) ≤ sm_w z1 then some 0 else (if 6 ≤ sm_w z1 then some 0 else some 1)))
set_option maxRecDepth 100000 in
set_option maxHeartbeats 4000000 in
theorem bState_isPatrol {G : GT} {E : ET} {o : Nat} {s mi : MI} {z1 : Int} {w : Int} (g : gS E o)  (h : fState_isPatrol z1 s = some w) : cN G yX7_isPatrol cX7_isPatrol 2 (some .boolean) 0 0 [.inr o, .inl z1] E (sm_gl o 61 s mi) (some (.inl w), E, (sm_gl o 61 s mi)) := by
  have hN1 := g.1
  have hN2 := g.2.1
  unfold fState_isPatrol at h
  refine sm_meth (by decide +kernel) (Nat.le_of_ble_eq_true rfl) ?_
  show sM (xState_isPatrol G) 0 [some (.inr o), some (.inl z1)] [] E (sm_gl o 61 s mi) _
  refine sm_iload_n dX7_isPatrol_0 rfl ?_
  refine sm_if_lt 22 dX7_isPatrol_1 rfl (fun c3 => ?_) (fun c3 => ?_)
  · rw [if_pos c3] at h
    refine sm_iconst dX7_isPatrol_22 ?_
    cases h
    exact sm_ireturn dX7_isPatrol_23 (Or.inr ⟨rfl, Or.inl rfl⟩)
  · rw [if_neg c3] at h
    refine sm_iload_n dX7_isPatrol_4 rfl ?_
    refine sm_aload_n dX7_isPatrol_5 rfl ?_
    refine sl_getI (D := 0) lf_RX7_59 fI_5_4 g.2.2.1 rfl (by omega) hN2 dX7_isPatrol_6 ?_
    refine sc_icmp_ge (X' := sm_w z1) (Y' := sm_w (s 0 4)) 22 dX7_isPatrol_9 rfl rfl rfl (fun c2 => ?_) (fun c2 => ?_)
    · rw [if_pos c2] at h
      refine sm_iconst dX7_isPatrol_22 ?_
      cases h
      exact sm_ireturn dX7_isPatrol_23 (Or.inr ⟨rfl, Or.inl rfl⟩)
    · rw [if_neg c2] at h
      refine sm_iload_n dX7_isPatrol_12 rfl ?_
      refine sm_bipush dX7_isPatrol_13 rfl ?_
      refine sc_icmp_ge (X' := sm_w z1) (Y' := 6) 22 dX7_isPatrol_15 rfl rfl (by decide) (fun c1 => ?_) (fun c1 => ?_)
      · rw [if_pos c1] at h
        refine sm_iconst dX7_isPatrol_22 ?_
        cases h
        exact sm_ireturn dX7_isPatrol_23 (Or.inr ⟨rfl, Or.inl rfl⟩)
      · rw [if_neg c1] at h
        refine sm_iconst dX7_isPatrol_18 ?_
        refine sm_goto 23 dX7_isPatrol_19 rfl ?_
        cases h
        exact sm_ireturn dX7_isPatrol_23 (Or.inr ⟨rfl, Or.inr rfl⟩)
abbrev xState_take (G : GT) : XT := (G, yX7_take.cls, cX7_take, 8, (some .int), decide (yX7_take.name = "<init>"), 3, 64)
def fState_take_j119  (s : MI) : Option (Int × MI) :=
  Option.bind (some (sm_up s 0 8 ((s 0 8) + 1))) (fun s20 => some (((s20 0 8) - 1), s20))
set_option maxRecDepth 100000 in
set_option maxHeartbeats 4000000 in
theorem bState_take_j119 {G : GT} {E : ET} {o : Nat} {s mi : MI}  {w : Int × MI} (g : gS E o)  (h : fState_take_j119 s = some w) : sM (xState_take G) 119 [some (.inr o), none, none, none, none, none, none, none] [] E (sm_gl o 61 s mi) (some (.inl w.1), E, sm_gl o 61 w.2 mi) := by
  have hN1 := g.1
  have hN2 := g.2.1
  unfold fState_take_j119 at h
  refine sm_aload_n dX7_take_119 rfl ?_
  refine sm_dup dX7_take_120 ?_
  refine sl_getI (D := 0) lf_RX7_72 fI_5_8 g.2.2.1 rfl (by omega) hN2 dX7_take_121 ?_
  refine sm_iconst dX7_take_124 ?_
  refine sm_iadd dX7_take_125 ?_
  refine sl_putI (D := 0) lf_RX7_72 fP_5_8 (Or.inl rfl) g.2.2.1 rfl (by omega) ⟨hN1, hN2⟩ dX7_take_126 ?_
  obtain ⟨s20, hs21, h⟩ := sl_bind h
  rw [Option.some.inj hs21]
  refine sm_aload_n dX7_take_129 rfl ?_
  refine sl_getI (D := 0) lf_RX7_72 fI_5_8 g.2.2.1 rfl (by omega) hN2 dX7_take_130 ?_
  refine sm_iconst dX7_take_133 ?_
  refine sm_isub dX7_take_134 ?_
  cases h
  exact sm_ireturn dX7_take_135 (Or.inl rfl)
def fState_take (z1 : Int) (z2 : Int) (z3 : Int) (s : MI) : Option (Int × MI) :=
  Option.bind (fState_isMember z1 s) (fun p1 => (if sm_w p1 = 0 then some ((-3), s) else (if sm_w (s 0 8) < 40 then Option.bind (fState_repairedBefore z1 s) (fun p4 => Option.bind (fState_promiseOf z1 s) (fun p7 => if 0 ≤ sm_w (s 0 8) ∧ sm_w (s 0 8) < 40 then Option.bind (fBreakdown_begin z1 z2 z3 (p7 + (10 * (s 0 10))) (s 0 11) (sm_lo (21 + (sm_w (s 0 8)).toNat) s)) (fun p12 => Option.bind (some (sm_gl (21 + (sm_w (s 0 8)).toNat) 1 p12 s)) (fun s15 => Option.bind (fState_isCall p4 s15) (fun p17 => (if sm_w p17 = 0 then fState_take_j119 s15 else Option.bind (some (sm_up s15 (21 + (sm_w (s 0 8)).toNat) 10 1)) (fun s22 => if 0 ≤ sm_w p4 ∧ sm_w p4 < 40 then Option.bind (fState_isPatrol (s22 (21 + (sm_w p4).toNat) 6) s22) (fun p26 => (if sm_w p26 = 0 then fState_take_j119 s22 else if 0 ≤ sm_w (s22 (21 + (sm_w p4).toNat) 6) ∧ sm_w (s22 (21 + (sm_w p4).toNat) 6) < 6 then Option.bind (some (sm_up s22 (10 + (sm_w (s22 (21 + (sm_w p4).toNat) 6)).toNat) 11 ((s22 (10 + (sm_w (s22 (21 + (sm_w p4).toNat) 6)).toNat) 11) + 1))) (fun s31 => fState_take_j119 s31) else none)) else none))))) else none)) else some ((-3), s))))
set_option maxRecDepth 100000 in
set_option maxHeartbeats 4000000 in
theorem bState_take {G : GT} {E : ET} {o : Nat} {s mi : MI} {z1 : Int} {z2 : Int} {z3 : Int} {w : Int × MI} (g : gS E o)  (h : fState_take z1 z2 z3 s = some w) : cN G yX7_take cX7_take 8 (some .int) 3 64 [.inr o, .inl z1, .inl z2, .inl z3] E (sm_gl o 61 s mi) (some (.inl w.1), E, sm_gl o 61 w.2 mi) := by
  have hN1 := g.1
  have hN2 := g.2.1
  unfold fState_take at h
  refine sm_meth (by decide +kernel) (Nat.le_of_ble_eq_true rfl) ?_
  show sM (xState_take G) 0 [some (.inr o), some (.inl z1), some (.inl z2), some (.inl z3), none, none, none, none] [] E (sm_gl o 61 s mi) _
  refine sm_aload_n dX7_take_0 rfl ?_
  refine sm_iload_n dX7_take_1 rfl ?_
  obtain ⟨p1, hp2, h⟩ := sl_bind h
  have hc3 := bState_isMember (G := G) (E := E) (o := o) (s := s) (mi := mi) g  hp2
  refine sc_callV1 (avs := [.inl z1]) (st := []) lk_RX7_94 rfl vf_X7_isMember hc3 ⟨(Nat.le_of_ble_eq_true rfl), (Nat.le_of_ble_eq_true rfl)⟩ ⟨rfl, (Nat.le_of_ble_eq_true rfl)⟩ g.2.2.1 (by omega) rfl dX7_take_2 ?_
  refine sm_if_eq 17 dX7_take_5 rfl (fun c36 => ?_) (fun c36 => ?_)
  · rw [if_pos c36] at h
    refine sm_bipush dX7_take_17 rfl ?_
    cases h
    exact sm_ireturn dX7_take_19 (Or.inl rfl)
  · rw [if_neg c36] at h
    refine sm_aload_n dX7_take_8 rfl ?_
    refine sl_getI (D := 0) lf_RX7_72 fI_5_8 g.2.2.1 rfl (by omega) hN2 dX7_take_9 ?_
    refine sm_bipush dX7_take_12 rfl ?_
    refine sc_icmp_lt (X' := sm_w (s 0 8)) (Y' := 40) 20 dX7_take_14 rfl rfl (by decide) (fun c35 => ?_) (fun c35 => ?_)
    · rw [if_pos c35] at h
      refine sm_aload_n dX7_take_20 rfl ?_
      refine sm_iload_n dX7_take_21 rfl ?_
      obtain ⟨p4, hp5, h⟩ := sl_bind h
      have hc6 := bState_repairedBefore (G := G) (E := E) (o := o) (s := s) (mi := mi) g  hp5
      refine sc_callV1 (avs := [.inl z1]) (st := []) lk_RX7_105 rfl vf_X7_repairedBefore hc6 ⟨(Nat.le_of_ble_eq_true rfl), (Nat.le_of_ble_eq_true rfl)⟩ ⟨rfl, (Nat.le_of_ble_eq_true rfl)⟩ g.2.2.1 (by omega) rfl dX7_take_22 ?_
      refine sm_istore dX7_take_25 (Nat.le_of_ble_eq_true rfl) ?_
      refine sm_aload_n dX7_take_27 rfl ?_
      refine sm_iload_n dX7_take_28 rfl ?_
      obtain ⟨p7, hp8, h⟩ := sl_bind h
      have hc9 := bState_promiseOf (G := G) (E := E) (o := o) (s := s) (mi := mi) g  hp8
      refine sc_callV1 (avs := [.inl z1]) (st := []) lk_RX7_108 rfl vf_X7_promiseOf hc9 ⟨(Nat.le_of_ble_eq_true rfl), (Nat.le_of_ble_eq_true rfl)⟩ ⟨rfl, (Nat.le_of_ble_eq_true rfl)⟩ g.2.2.1 (by omega) rfl dX7_take_29 ?_
      refine sm_bipush dX7_take_32 rfl ?_
      refine sm_aload_n dX7_take_34 rfl ?_
      refine sl_getI (D := 0) lf_RX7_81 fI_5_10 g.2.2.1 rfl (by omega) hN2 dX7_take_35 ?_
      refine sm_imul dX7_take_38 ?_
      refine sm_iadd dX7_take_39 ?_
      refine sm_istore dX7_take_40 (Nat.le_of_ble_eq_true rfl) ?_
      refine sm_aload_n dX7_take_42 rfl ?_
      refine sm_getR lf_RX7_36 fR_5_7 g.2.2.1 (by omega) g.2.2.2.2.2.2.2.1.1.2 dX7_take_43 ?_
      refine sm_aload_n dX7_take_46 rfl ?_
      refine sl_getI (D := 0) lf_RX7_72 fI_5_8 g.2.2.1 rfl (by omega) hN2 dX7_take_47 ?_
      obtain ⟨q10, h⟩ := sl_guard h
      have xq10 := (sl_ix (m := 40) q10).2
      have e11 := g.2.2.2.2.2.2.2.1.2 (sm_w (s 0 8)).toNat xq10
      refine sl_aald (k := (sm_w (s 0 8)).toNat) (Or.inr (Or.inr (Or.inl rfl))) g.2.2.2.2.2.2.2.1.1.1 (by omega) (sl_ix (m := 40) q10) e11.1 dX7_take_50 ?_
      refine sm_astore dX7_take_51 (Nat.le_of_ble_eq_true rfl) ?_
      refine sm_aload dX7_take_53 rfl ?_
      refine sm_iload_n dX7_take_55 rfl ?_
      refine sm_iload_n dX7_take_56 rfl ?_
      refine sm_iload_n dX7_take_57 rfl ?_
      refine sm_iload dX7_take_58 rfl ?_
      refine sm_aload_n dX7_take_60 rfl ?_
      refine sl_getI (D := 0) lf_RX7_84 fI_5_11 g.2.2.1 rfl (by omega) hN2 dX7_take_61 ?_
      obtain ⟨p12, hp13, h⟩ := sl_bind h
      have hc14 := bBreakdown_begin (G := G) (E := E) (o := o + (21 + (sm_w (s 0 8)).toNat)) (s := (sm_lo (21 + (sm_w (s 0 8)).toNat) s)) (mi := (sm_gl o 61 s mi)) e11.2  hp13
      rw [gl_in (o := o) (D := (21 + (sm_w (s 0 8)).toNat)) (ha := (rfl : o + (21 + (sm_w (s 0 8)).toNat) = o + (21 + (sm_w (s 0 8)).toNat))) (hD := (by omega : (21 + (sm_w (s 0 8)).toNat) + 1 ≤ 61)), gl_out (o := o) (D := (21 + (sm_w (s 0 8)).toNat)) (ha := (rfl : o + (21 + (sm_w (s 0 8)).toNat) = o + (21 + (sm_w (s 0 8)).toNat))) (hD := (by omega : (21 + (sm_w (s 0 8)).toNat) + 1 ≤ 61))] at hc14
      refine sc_callV0 (avs := [.inl z1, .inl z2, .inl z3, .inl (p7 + (10 * (s 0 10))), .inl (s 0 11)]) (st := []) lk_RX7_111 rfl vf_X1_begin hc14 ⟨(Nat.le_of_ble_eq_true rfl), (Nat.le_of_ble_eq_true rfl)⟩ ⟨rfl, (Nat.le_of_ble_eq_true rfl)⟩ e11.2.2.2 (by omega) rfl dX7_take_64 ?_
      obtain ⟨s15, hs16, h⟩ := sl_bind h
      rw [Option.some.inj hs16]
      refine sm_aload_n dX7_take_67 rfl ?_
      refine sm_iload dX7_take_68 rfl ?_
      obtain ⟨p17, hp18, h⟩ := sl_bind h
      have hc19 := bState_isCall (G := G) (E := E) (o := o) (s := s15) (mi := mi) g  hp18
      refine sc_callV1 (avs := [.inl p4]) (st := []) lk_RX7_114 rfl vf_X7_isCall hc19 ⟨(Nat.le_of_ble_eq_true rfl), (Nat.le_of_ble_eq_true rfl)⟩ ⟨rfl, (Nat.le_of_ble_eq_true rfl)⟩ g.2.2.1 (by omega) rfl dX7_take_70 ?_
      refine sm_if_eq 119 dX7_take_73 rfl (fun c34 => ?_) (fun c34 => ?_)
      · rw [if_pos c34] at h
        exact sm_less (lv' := [some (.inr o), none, none, none, none, none, none, none]) ⟨rfl, trivial⟩ (bState_take_j119 g   h)
      · rw [if_neg c34] at h
        refine sm_aload dX7_take_76 rfl ?_
        refine sm_iconst dX7_take_78 ?_
        refine sl_putI (D := (21 + (sm_w (s 0 8)).toNat)) lf_RX7_117 fP_0_10 (Or.inr ⟨rfl, Or.inr rfl⟩) e11.2.2.2 rfl (by omega) ⟨hN1, hN2⟩ dX7_take_79 ?_
        obtain ⟨s22, hs23, h⟩ := sl_bind h
        rw [Option.some.inj hs23]
        refine sm_aload_n dX7_take_82 rfl ?_
        refine sm_getR lf_RX7_36 fR_5_7 g.2.2.1 (by omega) g.2.2.2.2.2.2.2.1.1.2 dX7_take_83 ?_
        refine sm_iload dX7_take_86 rfl ?_
        obtain ⟨q24, h⟩ := sl_guard h
        have xq24 := (sl_ix (m := 40) q24).2
        have e25 := g.2.2.2.2.2.2.2.1.2 (sm_w p4).toNat xq24
        refine sl_aald (k := (sm_w p4).toNat) (Or.inr (Or.inr (Or.inl rfl))) g.2.2.2.2.2.2.2.1.1.1 (by omega) (sl_ix (m := 40) q24) e25.1 dX7_take_88 ?_
        refine sl_getI (D := (21 + (sm_w p4).toNat)) lf_RX7_121 fI_0_6 e25.2.2.2 rfl (by omega) hN2 dX7_take_89 ?_
        refine sm_istore dX7_take_92 (Nat.le_of_ble_eq_true rfl) ?_
        refine sm_aload_n dX7_take_94 rfl ?_
        refine sm_iload dX7_take_95 rfl ?_
        obtain ⟨p26, hp27, h⟩ := sl_bind h
        have hc28 := bState_isPatrol (G := G) (E := E) (o := o) (s := s22) (mi := mi) g  hp27
        refine sc_callV1 (avs := [.inl (s22 (21 + (sm_w p4).toNat) 6)]) (st := []) lk_RX7_124 rfl vf_X7_isPatrol hc28 ⟨(Nat.le_of_ble_eq_true rfl), (Nat.le_of_ble_eq_true rfl)⟩ ⟨rfl, (Nat.le_of_ble_eq_true rfl)⟩ g.2.2.1 (by omega) rfl dX7_take_97 ?_
        refine sm_if_eq 119 dX7_take_100 rfl (fun c33 => ?_) (fun c33 => ?_)
        · rw [if_pos c33] at h
          exact sm_less (lv' := [some (.inr o), none, none, none, none, none, none, none]) ⟨rfl, trivial⟩ (bState_take_j119 g   h)
        · rw [if_neg c33] at h
          refine sm_aload_n dX7_take_103 rfl ?_
          refine sm_getR lf_RX7_24 fR_5_3 g.2.2.1 (by omega) g.2.2.2.2.2.1.1.2 dX7_take_104 ?_
          refine sm_iload dX7_take_107 rfl ?_
          obtain ⟨q29, h⟩ := sl_guard h
          have xq29 := (sl_ix (m := 6) q29).2
          have e30 := g.2.2.2.2.2.1.2 (sm_w (s22 (21 + (sm_w p4).toNat) 6)).toNat xq29
          refine sl_aald (k := (sm_w (s22 (21 + (sm_w p4).toNat) 6)).toNat) (Or.inl rfl) g.2.2.2.2.2.1.1.1 (by omega) (sl_ix (m := 6) q29) e30.1 dX7_take_109 ?_
          refine sm_dup dX7_take_110 ?_
          refine sl_getI (D := (10 + (sm_w (s22 (21 + (sm_w p4).toNat) 6)).toNat)) lf_RX7_127 fI_3_11 e30.2.2.2 rfl (by omega) hN2 dX7_take_111 ?_
          refine sm_iconst dX7_take_114 ?_
          refine sm_iadd dX7_take_115 ?_
          refine sl_putI (D := (10 + (sm_w (s22 (21 + (sm_w p4).toNat) 6)).toNat)) lf_RX7_127 fP_3_11 (Or.inl rfl) e30.2.2.2 rfl (by omega) ⟨hN1, hN2⟩ dX7_take_116 ?_
          obtain ⟨s31, hs32, h⟩ := sl_bind h
          rw [Option.some.inj hs32]
          exact sm_less (lv' := [some (.inr o), none, none, none, none, none, none, none]) ⟨rfl, trivial⟩ (bState_take_j119 g   h)
    · rw [if_neg c35] at h
      refine sm_bipush dX7_take_17 rfl ?_
      cases h
      exact sm_ireturn dX7_take_19 (Or.inl rfl)
abbrev xState_patrolOf (G : GT) : XT := (G, yX7_patrolOf.cls, cX7_patrolOf, 3, (some .int), decide (yX7_patrolOf.name = "<init>"), 0, 0)
abbrev qState_patrolOf_l2 (G : GT) (E : ET) (o : Nat) (mi : MI) (z1 : Int) (s : MI) (r : RT) (t : Int) : Prop := sM (xState_patrolOf G) 2 [some (.inr o), some (.inl z1), some (.inl t)] [] E (sm_gl o 61 s mi) r
abbrev kState_patrolOf_l2 (G : GT) (E : ET) (o : Nat) (mi : MI) (z1 : Int) (s : MI) (r : RT) : (Unit) ⊕ (Int) → Prop := Sum.elim (fun x => sM (xState_patrolOf G) 37 [none, none, none] [] E (sm_gl o 61 s mi) r) (fun v => (some (.inl v), E, (sm_gl o 61 s mi)) = r)
def fState_patrolOf_l2 (z1 : Int) (z2 : Int) (s : MI) : Option ((Int) ⊕ ((Unit) ⊕ (Int))) :=
  (if sm_w (s 0 4) ≤ sm_w z2 then some (.inr (.inl ())) else (if 6 ≤ sm_w z2 then some (.inr (.inl ())) else if 0 ≤ sm_w z2 ∧ sm_w z2 < 6 then (if sm_w (s (10 + (sm_w z2).toNat) 5) = sm_w z1 then some (.inr (.inr z2)) else some (.inl (z2 + 1))) else none))
set_option maxRecDepth 100000 in
set_option maxHeartbeats 4000000 in
theorem bState_patrolOf_l2 {G : GT} {E : ET} {o : Nat} {s mi : MI} {z1 : Int} {z2 : Int} {r : RT} {w : (Int) ⊕ ((Unit) ⊕ (Int))} (g : gS E o)  (h : fState_patrolOf_l2 z1 z2 s = some w) (hK : Sum.elim (qState_patrolOf_l2 G E o mi z1 s r) (kState_patrolOf_l2 G E o mi z1 s r) w) : qState_patrolOf_l2 G E o mi z1 s r z2 := by
  have hN1 := g.1
  have hN2 := g.2.1
  unfold fState_patrolOf_l2 at h
  show sM (xState_patrolOf G) 2 [some (.inr o), some (.inl z1), some (.inl z2)] [] E (sm_gl o 61 s mi) r
  refine sm_iload_n dX7_patrolOf_2 rfl ?_
  refine sm_aload_n dX7_patrolOf_3 rfl ?_
  refine sl_getI (D := 0) lf_RX7_59 fI_5_4 g.2.2.1 rfl (by omega) hN2 dX7_patrolOf_4 ?_
  refine sc_icmp_ge (X' := sm_w z2) (Y' := sm_w (s 0 4)) 37 dX7_patrolOf_7 rfl rfl rfl (fun c7 => ?_) (fun c7 => ?_)
  · rw [if_pos c7] at h
    cases h
    exact sm_less (lv' := [none, none, none]) trivial hK
  · rw [if_neg c7] at h
    refine sm_iload_n dX7_patrolOf_10 rfl ?_
    refine sm_bipush dX7_patrolOf_11 rfl ?_
    refine sc_icmp_ge (X' := sm_w z2) (Y' := 6) 37 dX7_patrolOf_13 rfl rfl (by decide) (fun c6 => ?_) (fun c6 => ?_)
    · rw [if_pos c6] at h
      cases h
      exact sm_less (lv' := [none, none, none]) trivial hK
    · rw [if_neg c6] at h
      refine sm_aload_n dX7_patrolOf_16 rfl ?_
      refine sm_getR lf_RX7_24 fR_5_3 g.2.2.1 (by omega) g.2.2.2.2.2.1.1.2 dX7_patrolOf_17 ?_
      refine sm_iload_n dX7_patrolOf_20 rfl ?_
      obtain ⟨q3, h⟩ := sl_guard h
      have xq3 := (sl_ix (m := 6) q3).2
      have e4 := g.2.2.2.2.2.1.2 (sm_w z2).toNat xq3
      refine sl_aald (k := (sm_w z2).toNat) (Or.inl rfl) g.2.2.2.2.2.1.1.1 (by omega) (sl_ix (m := 6) q3) e4.1 dX7_patrolOf_21 ?_
      refine sl_getI (D := (10 + (sm_w z2).toNat)) lf_RX7_149 fI_3_5 e4.2.2.2 rfl (by omega) hN2 dX7_patrolOf_22 ?_
      refine sm_iload_n dX7_patrolOf_25 rfl ?_
      refine sc_icmp_ne (X' := sm_w (s (10 + (sm_w z2).toNat) 5)) (Y' := sm_w z1) 31 dX7_patrolOf_26 rfl rfl rfl (fun c5 => ?_) (fun c5 => ?_)
      · rw [if_neg c5] at h
        refine sm_iinc dX7_patrolOf_31 (Nat.le_of_ble_eq_true rfl) rfl ?_
        refine sm_goto 2 dX7_patrolOf_34 rfl ?_
        cases h
        exact sm_less (lv' := [some (.inr o), some (.inl z1), some (.inl (z2 + 1))]) ⟨rfl, rfl, rfl, trivial⟩ hK
      · rw [if_pos c5] at h
        refine sm_iload_n dX7_patrolOf_29 rfl ?_
        cases h
        have hK : (some (.inl z2), E, (sm_gl o 61 s mi)) = r := hK
        subst hK
        exact sm_ireturn dX7_patrolOf_30 (Or.inl rfl)
def fState_patrolOf (z1 : Int) (s : MI) : Option (Int) :=
  Option.bind (sl_it (fun (t : Int) => fState_patrolOf_l2 z1 t s) sl_fu 0) (fun y8 => Sum.elim (fun x10 => some (-5)) (fun v11 => some v11) y8)
set_option maxRecDepth 100000 in
set_option maxHeartbeats 4000000 in
theorem bState_patrolOf {G : GT} {E : ET} {o : Nat} {s mi : MI} {z1 : Int} {w : Int} (g : gS E o)  (h : fState_patrolOf z1 s = some w) : cN G yX7_patrolOf cX7_patrolOf 3 (some .int) 0 0 [.inr o, .inl z1] E (sm_gl o 61 s mi) (some (.inl w), E, (sm_gl o 61 s mi)) := by
  have hN1 := g.1
  have hN2 := g.2.1
  unfold fState_patrolOf at h
  refine sm_meth (by decide +kernel) (Nat.le_of_ble_eq_true rfl) ?_
  show sM (xState_patrolOf G) 0 [some (.inr o), some (.inl z1), none] [] E (sm_gl o 61 s mi) _
  refine sm_iconst dX7_patrolOf_0 ?_
  refine sm_istore_n dX7_patrolOf_1 (Nat.le_of_ble_eq_true rfl) ?_
  obtain ⟨y8, hy9, h⟩ := sl_bind h
  refine sm_less (lv' := [some (.inr o), some (.inl z1), some (.inl 0)]) ⟨rfl, rfl, rfl, trivial⟩ (sl_itE (P := qState_patrolOf_l2 G E o mi z1 s _) (K := kState_patrolOf_l2 G E o mi z1 s _) (fun t q hq hk => bState_patrolOf_l2 g  hq hk) sl_fu _ y8 hy9 ?_)
  rcases y8 with x10 | v11
  · show sM (xState_patrolOf G) 37 [none, none, none] [] E (sm_gl o 61 s mi) _
    dsimp only [Sum.elim_inl] at h
    refine sm_bipush dX7_patrolOf_37 rfl ?_
    cases h
    exact sm_ireturn dX7_patrolOf_39 (Or.inl rfl)
  · dsimp only [Sum.elim_inr] at h
    cases h
    exact rfl
abbrev xState_patrolsOnDuty (G : GT) : XT := (G, yX7_patrolsOnDuty.cls, cX7_patrolsOnDuty, 3, (some .int), decide (yX7_patrolsOnDuty.name = "<init>"), 0, 0)
abbrev qState_patrolsOnDuty_l4 (G : GT) (E : ET) (o : Nat) (mi : MI)  (s : MI) (r : RT) (t : Int × Int) : Prop := sM (xState_patrolsOnDuty G) 4 [some (.inr o), some (.inl t.1), some (.inl t.2)] [] E (sm_gl o 61 s mi) r
abbrev kState_patrolsOnDuty_l4 (G : GT) (E : ET) (o : Nat) (mi : MI)  (s : MI) (r : RT) (x : Int) : Prop := sM (xState_patrolsOnDuty G) 40 [none, some (.inl x), none] [] E (sm_gl o 61 s mi) r
def fState_patrolsOnDuty_j34_l4 (z1 : Int) (z2 : Int) (s : MI) : Option ((Int × Int) ⊕ (Int)) :=
  some (.inl (z1, (z2 + 1)))
set_option maxRecDepth 100000 in
set_option maxHeartbeats 4000000 in
theorem bState_patrolsOnDuty_j34_l4 {G : GT} {E : ET} {o : Nat} {s mi : MI} {z1 : Int} {z2 : Int} {r : RT} {w : (Int × Int) ⊕ (Int)} (g : gS E o)  (h : fState_patrolsOnDuty_j34_l4 z1 z2 s = some w) (hK : Sum.elim (qState_patrolsOnDuty_l4 G E o mi s r) (kState_patrolsOnDuty_l4 G E o mi s r) w) : sM (xState_patrolsOnDuty G) 34 [some (.inr o), some (.inl z1), some (.inl z2)] [] E (sm_gl o 61 s mi) r := by
  have hN1 := g.1
  have hN2 := g.2.1
  unfold fState_patrolsOnDuty_j34_l4 at h
  refine sm_iinc dX7_patrolsOnDuty_34 (Nat.le_of_ble_eq_true rfl) rfl ?_
  refine sm_goto 4 dX7_patrolsOnDuty_37 rfl ?_
  cases h
  exact sm_less (lv' := [some (.inr o), some (.inl z1), some (.inl (z2 + 1))]) ⟨rfl, rfl, rfl, trivial⟩ hK
def fState_patrolsOnDuty_l4 (z1 : Int) (z2 : Int) (s : MI) : Option ((Int × Int) ⊕ (Int)) :=
  (if sm_w (s 0 4) ≤ sm_w z2 then some (.inr z1) else (if 6 ≤ sm_w z2 then some (.inr z1) else if 0 ≤ sm_w z2 ∧ sm_w z2 < 6 then (if sm_w (s (10 + (sm_w z2).toNat) 3) = 4 then fState_patrolsOnDuty_j34_l4 z1 z2 s else fState_patrolsOnDuty_j34_l4 (z1 + 1) z2 s) else none))
set_option maxRecDepth 100000 in
set_option maxHeartbeats 4000000 in
theorem bState_patrolsOnDuty_l4 {G : GT} {E : ET} {o : Nat} {s mi : MI} {z1 : Int} {z2 : Int} {r : RT} {w : (Int × Int) ⊕ (Int)} (g : gS E o)  (h : fState_patrolsOnDuty_l4 z1 z2 s = some w) (hK : Sum.elim (qState_patrolsOnDuty_l4 G E o mi s r) (kState_patrolsOnDuty_l4 G E o mi s r) w) : qState_patrolsOnDuty_l4 G E o mi s r (z1, z2) := by
  have hN1 := g.1
  have hN2 := g.2.1
  unfold fState_patrolsOnDuty_l4 at h
  show sM (xState_patrolsOnDuty G) 4 [some (.inr o), some (.inl z1), some (.inl z2)] [] E (sm_gl o 61 s mi) r
  refine sm_iload_n dX7_patrolsOnDuty_4 rfl ?_
  refine sm_aload_n dX7_patrolsOnDuty_5 rfl ?_
  refine sl_getI (D := 0) lf_RX7_59 fI_5_4 g.2.2.1 rfl (by omega) hN2 dX7_patrolsOnDuty_6 ?_
  refine sc_icmp_ge (X' := sm_w z2) (Y' := sm_w (s 0 4)) 40 dX7_patrolsOnDuty_9 rfl rfl rfl (fun c5 => ?_) (fun c5 => ?_)
  · rw [if_pos c5] at h
    cases h
    exact sm_less (lv' := [none, some (.inl z1), none]) ⟨rfl, trivial⟩ hK
  · rw [if_neg c5] at h
    refine sm_iload_n dX7_patrolsOnDuty_12 rfl ?_
    refine sm_bipush dX7_patrolsOnDuty_13 rfl ?_
    refine sc_icmp_ge (X' := sm_w z2) (Y' := 6) 40 dX7_patrolsOnDuty_15 rfl rfl (by decide) (fun c4 => ?_) (fun c4 => ?_)
    · rw [if_pos c4] at h
      cases h
      exact sm_less (lv' := [none, some (.inl z1), none]) ⟨rfl, trivial⟩ hK
    · rw [if_neg c4] at h
      refine sm_aload_n dX7_patrolsOnDuty_18 rfl ?_
      refine sm_getR lf_RX7_24 fR_5_3 g.2.2.1 (by omega) g.2.2.2.2.2.1.1.2 dX7_patrolsOnDuty_19 ?_
      refine sm_iload_n dX7_patrolsOnDuty_22 rfl ?_
      obtain ⟨q1, h⟩ := sl_guard h
      have xq1 := (sl_ix (m := 6) q1).2
      have e2 := g.2.2.2.2.2.1.2 (sm_w z2).toNat xq1
      refine sl_aald (k := (sm_w z2).toNat) (Or.inl rfl) g.2.2.2.2.2.1.1.1 (by omega) (sl_ix (m := 6) q1) e2.1 dX7_patrolsOnDuty_23 ?_
      refine sl_getI (D := (10 + (sm_w z2).toNat)) lf_RX7_152 fI_3_3 e2.2.2.2 rfl (by omega) hN2 dX7_patrolsOnDuty_24 ?_
      refine sm_iconst dX7_patrolsOnDuty_27 ?_
      refine sc_icmp_eq (X' := sm_w (s (10 + (sm_w z2).toNat) 3)) (Y' := 4) 34 dX7_patrolsOnDuty_28 rfl rfl (by decide) (fun c3 => ?_) (fun c3 => ?_)
      · rw [if_pos c3] at h
        exact sm_less (lv' := [some (.inr o), some (.inl z1), some (.inl z2)]) ⟨rfl, rfl, rfl, trivial⟩ (bState_patrolsOnDuty_j34_l4 g   h hK)
      · rw [if_neg c3] at h
        refine sm_iinc dX7_patrolsOnDuty_31 (Nat.le_of_ble_eq_true rfl) rfl ?_
        exact sm_less (lv' := [some (.inr o), some (.inl (z1 + 1)), some (.inl z2)]) ⟨rfl, rfl, rfl, trivial⟩ (bState_patrolsOnDuty_j34_l4 g   h hK)
def fState_patrolsOnDuty  (s : MI) : Option (Int) :=
  Option.bind (sl_it (fun (t : Int × Int) => fState_patrolsOnDuty_l4 t.1 t.2 s) sl_fu (0, 0)) (fun x8 => some x8)
set_option maxRecDepth 100000 in
set_option maxHeartbeats 4000000 in
theorem bState_patrolsOnDuty {G : GT} {E : ET} {o : Nat} {s mi : MI}  {w : Int} (g : gS E o)  (h : fState_patrolsOnDuty s = some w) : cN G yX7_patrolsOnDuty cX7_patrolsOnDuty 3 (some .int) 0 0 [.inr o] E (sm_gl o 61 s mi) (some (.inl w), E, (sm_gl o 61 s mi)) := by
  have hN1 := g.1
  have hN2 := g.2.1
  unfold fState_patrolsOnDuty at h
  refine sm_meth (by decide +kernel) (Nat.le_of_ble_eq_true rfl) ?_
  show sM (xState_patrolsOnDuty G) 0 [some (.inr o), none, none] [] E (sm_gl o 61 s mi) _
  refine sm_iconst dX7_patrolsOnDuty_0 ?_
  refine sm_istore_n dX7_patrolsOnDuty_1 (Nat.le_of_ble_eq_true rfl) ?_
  refine sm_iconst dX7_patrolsOnDuty_2 ?_
  refine sm_istore_n dX7_patrolsOnDuty_3 (Nat.le_of_ble_eq_true rfl) ?_
  obtain ⟨x8, hy7, h⟩ := sl_bind h
  refine sm_less (lv' := [some (.inr o), some (.inl 0), some (.inl 0)]) ⟨rfl, rfl, rfl, trivial⟩ (sl_itE (P := qState_patrolsOnDuty_l4 G E o mi s _) (K := kState_patrolsOnDuty_l4 G E o mi s _) (fun t q hq hk => bState_patrolsOnDuty_l4 g  hq hk) sl_fu _ x8 hy7 ?_)
  show sM (xState_patrolsOnDuty G) 40 [none, some (.inl x8), none] [] E (sm_gl o 61 s mi) _
  refine sm_iload_n dX7_patrolsOnDuty_40 rfl ?_
  cases h
  exact sm_ireturn dX7_patrolsOnDuty_41 (Or.inl rfl)
abbrev xState_isGarage (G : GT) : XT := (G, yX7_isGarage.cls, cX7_isGarage, 2, (some .boolean), decide (yX7_isGarage.name = "<init>"), 0, 0)
def fState_isGarage (z1 : Int) (s : MI) : Option (Int) :=
  (if sm_w z1 < 0 then some 0 else (if sm_w (s 0 6) ≤ sm_w z1 then some 0 else (if 5 ≤ sm_w z1 then some 0 else some 1)))
set_option maxRecDepth 100000 in
set_option maxHeartbeats 4000000 in
theorem bState_isGarage {G : GT} {E : ET} {o : Nat} {s mi : MI} {z1 : Int} {w : Int} (g : gS E o)  (h : fState_isGarage z1 s = some w) : cN G yX7_isGarage cX7_isGarage 2 (some .boolean) 0 0 [.inr o, .inl z1] E (sm_gl o 61 s mi) (some (.inl w), E, (sm_gl o 61 s mi)) := by
  have hN1 := g.1
  have hN2 := g.2.1
  unfold fState_isGarage at h
  refine sm_meth (by decide +kernel) (Nat.le_of_ble_eq_true rfl) ?_
  show sM (xState_isGarage G) 0 [some (.inr o), some (.inl z1)] [] E (sm_gl o 61 s mi) _
  refine sm_iload_n dX7_isGarage_0 rfl ?_
  refine sm_if_lt 21 dX7_isGarage_1 rfl (fun c3 => ?_) (fun c3 => ?_)
  · rw [if_pos c3] at h
    refine sm_iconst dX7_isGarage_21 ?_
    cases h
    exact sm_ireturn dX7_isGarage_22 (Or.inr ⟨rfl, Or.inl rfl⟩)
  · rw [if_neg c3] at h
    refine sm_iload_n dX7_isGarage_4 rfl ?_
    refine sm_aload_n dX7_isGarage_5 rfl ?_
    refine sl_getI (D := 0) lf_RX7_66 fI_5_6 g.2.2.1 rfl (by omega) hN2 dX7_isGarage_6 ?_
    refine sc_icmp_ge (X' := sm_w z1) (Y' := sm_w (s 0 6)) 21 dX7_isGarage_9 rfl rfl rfl (fun c2 => ?_) (fun c2 => ?_)
    · rw [if_pos c2] at h
      refine sm_iconst dX7_isGarage_21 ?_
      cases h
      exact sm_ireturn dX7_isGarage_22 (Or.inr ⟨rfl, Or.inl rfl⟩)
    · rw [if_neg c2] at h
      refine sm_iload_n dX7_isGarage_12 rfl ?_
      refine sm_iconst dX7_isGarage_13 ?_
      refine sc_icmp_ge (X' := sm_w z1) (Y' := 5) 21 dX7_isGarage_14 rfl rfl (by decide) (fun c1 => ?_) (fun c1 => ?_)
      · rw [if_pos c1] at h
        refine sm_iconst dX7_isGarage_21 ?_
        cases h
        exact sm_ireturn dX7_isGarage_22 (Or.inr ⟨rfl, Or.inl rfl⟩)
      · rw [if_neg c1] at h
        refine sm_iconst dX7_isGarage_17 ?_
        refine sm_goto 22 dX7_isGarage_18 rfl ?_
        cases h
        exact sm_ireturn dX7_isGarage_22 (Or.inr ⟨rfl, Or.inr rfl⟩)
abbrev xState_callsIn (G : GT) : XT := (G, yX7_callsIn.cls, cX7_callsIn, 4, (some .int), decide (yX7_callsIn.name = "<init>"), 0, 0)
abbrev qState_callsIn_l4 (G : GT) (E : ET) (o : Nat) (mi : MI) (z1 : Int) (s : MI) (r : RT) (t : Int × Int) : Prop := sM (xState_callsIn G) 4 [some (.inr o), some (.inl z1), some (.inl t.1), some (.inl t.2)] [] E (sm_gl o 61 s mi) r
abbrev kState_callsIn_l4 (G : GT) (E : ET) (o : Nat) (mi : MI) (z1 : Int) (s : MI) (r : RT) (x : Int) : Prop := sM (xState_callsIn G) 40 [none, none, some (.inl x), none] [] E (sm_gl o 61 s mi) r
def fState_callsIn_j34_l4 (z1 : Int) (z2 : Int) (z3 : Int) (s : MI) : Option ((Int × Int) ⊕ (Int)) :=
  some (.inl (z2, (z3 + 1)))
set_option maxRecDepth 100000 in
set_option maxHeartbeats 4000000 in
theorem bState_callsIn_j34_l4 {G : GT} {E : ET} {o : Nat} {s mi : MI} {z1 : Int} {z2 : Int} {z3 : Int} {r : RT} {w : (Int × Int) ⊕ (Int)} (g : gS E o)  (h : fState_callsIn_j34_l4 z1 z2 z3 s = some w) (hK : Sum.elim (qState_callsIn_l4 G E o mi z1 s r) (kState_callsIn_l4 G E o mi z1 s r) w) : sM (xState_callsIn G) 34 [some (.inr o), some (.inl z1), some (.inl z2), some (.inl z3)] [] E (sm_gl o 61 s mi) r := by
  have hN1 := g.1
  have hN2 := g.2.1
  unfold fState_callsIn_j34_l4 at h
  refine sm_iinc dX7_callsIn_34 (Nat.le_of_ble_eq_true rfl) rfl ?_
  refine sm_goto 4 dX7_callsIn_37 rfl ?_
  cases h
  exact sm_less (lv' := [some (.inr o), some (.inl z1), some (.inl z2), some (.inl (z3 + 1))]) ⟨rfl, rfl, rfl, rfl, trivial⟩ hK
def fState_callsIn_l4 (z1 : Int) (z2 : Int) (z3 : Int) (s : MI) : Option ((Int × Int) ⊕ (Int)) :=
  (if sm_w (s 0 8) ≤ sm_w z3 then some (.inr z2) else (if 40 ≤ sm_w z3 then some (.inr z2) else if 0 ≤ sm_w z3 ∧ sm_w z3 < 40 then (if sm_w (s (21 + (sm_w z3).toNat) 5) = sm_w z1 then fState_callsIn_j34_l4 z1 (z2 + 1) z3 s else fState_callsIn_j34_l4 z1 z2 z3 s) else none))
set_option maxRecDepth 100000 in
set_option maxHeartbeats 4000000 in
theorem bState_callsIn_l4 {G : GT} {E : ET} {o : Nat} {s mi : MI} {z1 : Int} {z2 : Int} {z3 : Int} {r : RT} {w : (Int × Int) ⊕ (Int)} (g : gS E o)  (h : fState_callsIn_l4 z1 z2 z3 s = some w) (hK : Sum.elim (qState_callsIn_l4 G E o mi z1 s r) (kState_callsIn_l4 G E o mi z1 s r) w) : qState_callsIn_l4 G E o mi z1 s r (z2, z3) := by
  have hN1 := g.1
  have hN2 := g.2.1
  unfold fState_callsIn_l4 at h
  show sM (xState_callsIn G) 4 [some (.inr o), some (.inl z1), some (.inl z2), some (.inl z3)] [] E (sm_gl o 61 s mi) r
  refine sm_iload_n dX7_callsIn_4 rfl ?_
  refine sm_aload_n dX7_callsIn_5 rfl ?_
  refine sl_getI (D := 0) lf_RX7_72 fI_5_8 g.2.2.1 rfl (by omega) hN2 dX7_callsIn_6 ?_
  refine sc_icmp_ge (X' := sm_w z3) (Y' := sm_w (s 0 8)) 40 dX7_callsIn_9 rfl rfl rfl (fun c5 => ?_) (fun c5 => ?_)
  · rw [if_pos c5] at h
    cases h
    exact sm_less (lv' := [none, none, some (.inl z2), none]) ⟨rfl, trivial⟩ hK
  · rw [if_neg c5] at h
    refine sm_iload_n dX7_callsIn_12 rfl ?_
    refine sm_bipush dX7_callsIn_13 rfl ?_
    refine sc_icmp_ge (X' := sm_w z3) (Y' := 40) 40 dX7_callsIn_15 rfl rfl (by decide) (fun c4 => ?_) (fun c4 => ?_)
    · rw [if_pos c4] at h
      cases h
      exact sm_less (lv' := [none, none, some (.inl z2), none]) ⟨rfl, trivial⟩ hK
    · rw [if_neg c4] at h
      refine sm_aload_n dX7_callsIn_18 rfl ?_
      refine sm_getR lf_RX7_36 fR_5_7 g.2.2.1 (by omega) g.2.2.2.2.2.2.2.1.1.2 dX7_callsIn_19 ?_
      refine sm_iload_n dX7_callsIn_22 rfl ?_
      obtain ⟨q1, h⟩ := sl_guard h
      have xq1 := (sl_ix (m := 40) q1).2
      have e2 := g.2.2.2.2.2.2.2.1.2 (sm_w z3).toNat xq1
      refine sl_aald (k := (sm_w z3).toNat) (Or.inr (Or.inr (Or.inl rfl))) g.2.2.2.2.2.2.2.1.1.1 (by omega) (sl_ix (m := 40) q1) e2.1 dX7_callsIn_23 ?_
      refine sl_getI (D := (21 + (sm_w z3).toNat)) lf_RX7_133 fI_0_5 e2.2.2.2 rfl (by omega) hN2 dX7_callsIn_24 ?_
      refine sm_iload_n dX7_callsIn_27 rfl ?_
      refine sc_icmp_ne (X' := sm_w (s (21 + (sm_w z3).toNat) 5)) (Y' := sm_w z1) 34 dX7_callsIn_28 rfl rfl rfl (fun c3 => ?_) (fun c3 => ?_)
      · rw [if_neg c3] at h
        exact sm_less (lv' := [some (.inr o), some (.inl z1), some (.inl z2), some (.inl z3)]) ⟨rfl, rfl, rfl, rfl, trivial⟩ (bState_callsIn_j34_l4 g   h hK)
      · rw [if_pos c3] at h
        refine sm_iinc dX7_callsIn_31 (Nat.le_of_ble_eq_true rfl) rfl ?_
        exact sm_less (lv' := [some (.inr o), some (.inl z1), some (.inl (z2 + 1)), some (.inl z3)]) ⟨rfl, rfl, rfl, rfl, trivial⟩ (bState_callsIn_j34_l4 g   h hK)
def fState_callsIn (z1 : Int) (s : MI) : Option (Int) :=
  Option.bind (sl_it (fun (t : Int × Int) => fState_callsIn_l4 z1 t.1 t.2 s) sl_fu (0, 0)) (fun x8 => some x8)
set_option maxRecDepth 100000 in
set_option maxHeartbeats 4000000 in
theorem bState_callsIn {G : GT} {E : ET} {o : Nat} {s mi : MI} {z1 : Int} {w : Int} (g : gS E o)  (h : fState_callsIn z1 s = some w) : cN G yX7_callsIn cX7_callsIn 4 (some .int) 0 0 [.inr o, .inl z1] E (sm_gl o 61 s mi) (some (.inl w), E, (sm_gl o 61 s mi)) := by
  have hN1 := g.1
  have hN2 := g.2.1
  unfold fState_callsIn at h
  refine sm_meth (by decide +kernel) (Nat.le_of_ble_eq_true rfl) ?_
  show sM (xState_callsIn G) 0 [some (.inr o), some (.inl z1), none, none] [] E (sm_gl o 61 s mi) _
  refine sm_iconst dX7_callsIn_0 ?_
  refine sm_istore_n dX7_callsIn_1 (Nat.le_of_ble_eq_true rfl) ?_
  refine sm_iconst dX7_callsIn_2 ?_
  refine sm_istore_n dX7_callsIn_3 (Nat.le_of_ble_eq_true rfl) ?_
  obtain ⟨x8, hy7, h⟩ := sl_bind h
  refine sm_less (lv' := [some (.inr o), some (.inl z1), some (.inl 0), some (.inl 0)]) ⟨rfl, rfl, rfl, rfl, trivial⟩ (sl_itE (P := qState_callsIn_l4 G E o mi z1 s _) (K := kState_callsIn_l4 G E o mi z1 s _) (fun t q hq hk => bState_callsIn_l4 g  hq hk) sl_fu _ x8 hy7 ?_)
  show sM (xState_callsIn G) 40 [none, none, some (.inl x8), none] [] E (sm_gl o 61 s mi) _
  refine sm_iload_n dX7_callsIn_40 rfl ?_
  cases h
  exact sm_ireturn dX7_callsIn_41 (Or.inl rfl)
