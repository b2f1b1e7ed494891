abbrev xSending_waits (G : GT) : XT := (G, yX6_waits.cls, cX6_waits, 3, (some .boolean), decide (yX6_waits.name = "<init>"), 1, 22)
def fSending_waits_j39  (s : MI) : Option (Int) :=
  some 1
set_option maxRecDepth 100000 in
set_option maxHeartbeats 4000000 in
theorem bSending_waits_j39 {G : GT} {E : ET} {o : Nat} {s mi : MI}  {w : Int} (g : gS E o)  (h : fSending_waits_j39 s = some w) : sM (xSending_waits G) 39 [none, none, none] [] E (sm_gl o 61 s mi) (some (.inl w), E, (sm_gl o 61 s mi)) := by
  have hN1 := g.1
  have hN2 := g.2.1
  unfold fSending_waits_j39 at h
  refine sm_iconst dX6_waits_39 ?_
  refine sm_goto 44 dX6_waits_40 rfl ?_
  cases h
  exact sm_ireturn dX6_waits_44 (Or.inr ⟨rfl, Or.inr rfl⟩)
def fSending_waits (z1 : Int) (s : MI) : Option (Int) :=
  Option.bind (fState_isCall z1 s) (fun p1 => (if sm_w p1 = 0 then some 0 else if 0 ≤ sm_w z1 ∧ sm_w z1 < 40 then (if sm_w (s (21 + (sm_w z1).toNat) 5) = 0 then fSending_waits_j39 s else (if sm_w (s (21 + (sm_w z1).toNat) 5) = 3 then Option.bind (fState_patrolOf z1 s) (fun p6 => (if sm_w p6 = (-5) then fSending_waits_j39 s else some 0)) else some 0)) else none))
set_option maxRecDepth 100000 in
set_option maxHeartbeats 4000000 in
theorem bSending_waits {G : GT} {E : ET} {o : Nat} {s mi : MI} {z1 : Int} {w : Int} (g : gS E o)  (h : fSending_waits z1 s = some w) : cN G yX6_waits cX6_waits 3 (some .boolean) 1 22 [.inr o, .inl z1] E (sm_gl o 61 s mi) (some (.inl w), E, (sm_gl o 61 s mi)) := by
  have hN1 := g.1
  have hN2 := g.2.1
  unfold fSending_waits at h
  refine sm_meth (by decide +kernel) (Nat.le_of_ble_eq_true rfl) ?_
  show sM (xSending_waits G) 0 [some (.inr o), some (.inl z1), none] [] E (sm_gl o 61 s mi) _
  refine sm_aload_n dX6_waits_0 rfl ?_
  refine sm_iload_n dX6_waits_1 rfl ?_
  obtain ⟨p1, hp2, h⟩ := sl_bind h
  have hc3 := bState_isCall (G := G) (E := E) (o := o) (s := s) (mi := mi) g  hp2
  refine sc_callV1 (avs := [.inl z1]) (st := []) lk_RX6_9 rfl vf_X7_isCall hc3 ⟨(Nat.le_of_ble_eq_true rfl), (Nat.le_of_ble_eq_true rfl)⟩ ⟨rfl, (Nat.le_of_ble_eq_true rfl)⟩ g.2.2.1 (by omega) rfl dX6_waits_2 ?_
  refine sm_if_ne 10 dX6_waits_5 rfl (fun c12 => ?_) (fun c12 => ?_)
  · rw [if_neg c12] at h
    refine sm_aload_n dX6_waits_10 rfl ?_
    refine sm_getR lf_RX6_15 fR_5_7 g.2.2.1 (by omega) g.2.2.2.2.2.2.2.1.1.2 dX6_waits_11 ?_
    refine sm_iload_n dX6_waits_14 rfl ?_
    obtain ⟨q4, h⟩ := sl_guard h
    have xq4 := (sl_ix (m := 40) q4).2
    have e5 := g.2.2.2.2.2.2.2.1.2 (sm_w z1).toNat xq4
    refine sl_aald (k := (sm_w z1).toNat) (Or.inr (Or.inr (Or.inl rfl))) g.2.2.2.2.2.2.2.1.1.1 (by omega) (sl_ix (m := 40) q4) e5.1 dX6_waits_15 ?_
    refine sl_getI (D := (21 + (sm_w z1).toNat)) lf_RX6_19 fI_0_5 e5.2.2.2 rfl (by omega) hN2 dX6_waits_16 ?_
    refine sm_istore_n dX6_waits_19 (Nat.le_of_ble_eq_true rfl) ?_
    refine sm_iload_n dX6_waits_20 rfl ?_
    refine sm_if_eq 39 dX6_waits_21 rfl (fun c11 => ?_) (fun c11 => ?_)
    · rw [if_pos c11] at h
      exact sm_less (lv' := [none, none, none]) trivial (bSending_waits_j39 g   h)
    · rw [if_neg c11] at h
      refine sm_iload_n dX6_waits_24 rfl ?_
      refine sm_iconst dX6_waits_25 ?_
      refine sc_icmp_ne (X' := sm_w (s (21 + (sm_w z1).toNat) 5)) (Y' := 3) 43 dX6_waits_26 rfl rfl (by decide) (fun c10 => ?_) (fun c10 => ?_)
      · rw [if_neg c10] at h
        refine sm_iconst dX6_waits_43 ?_
        cases h
        exact sm_ireturn dX6_waits_44 (Or.inr ⟨rfl, Or.inl rfl⟩)
      · rw [if_pos c10] at h
        refine sm_aload_n dX6_waits_29 rfl ?_
        refine sm_iload_n dX6_waits_30 rfl ?_
        obtain ⟨p6, hp7, h⟩ := sl_bind h
        have hc8 := bState_patrolOf (G := G) (E := E) (o := o) (s := s) (mi := mi) g  hp7
        refine sc_callV1 (avs := [.inl z1]) (st := []) lk_RX6_25 rfl vf_X7_patrolOf hc8 ⟨(Nat.le_of_ble_eq_true rfl), (Nat.le_of_ble_eq_true rfl)⟩ ⟨rfl, (Nat.le_of_ble_eq_true rfl)⟩ g.2.2.1 (by omega) rfl dX6_waits_31 ?_
        refine sm_bipush dX6_waits_34 rfl ?_
        refine sc_icmp_ne (X' := sm_w p6) (Y' := (-5)) 43 dX6_waits_36 rfl rfl (by decide) (fun c9 => ?_) (fun c9 => ?_)
        · rw [if_neg c9] at h
          refine sm_iconst dX6_waits_43 ?_
          cases h
          exact sm_ireturn dX6_waits_44 (Or.inr ⟨rfl, Or.inl rfl⟩)
        · rw [if_pos c9] at h
          exact sm_less (lv' := [none, none, none]) trivial (bSending_waits_j39 g   h)
  · rw [if_pos c12] at h
    refine sm_iconst dX6_waits_8 ?_
    cases h
    exact sm_ireturn dX6_waits_9 (Or.inr ⟨rfl, Or.inl rfl⟩)
abbrev xSending_isAheadOf (G : GT) : XT := (G, yX6_isAheadOf.cls, cX6_isAheadOf, 5, (some .boolean), decide (yX6_isAheadOf.name = "<init>"), 2, 42)
def fSending_isAheadOf (z1 : Int) (z2 : Int) (s : MI) : Option (Int) :=
  Option.bind (fState_isCall z1 s) (fun p1 => (if sm_w p1 = 0 then some 0 else Option.bind (fState_isCall z2 s) (fun p4 => (if sm_w p4 = 0 then some 0 else if 0 ≤ sm_w z1 ∧ sm_w z1 < 40 then if 0 ≤ sm_w z2 ∧ sm_w z2 < 40 then Option.bind (fBreakdown_due (sm_lo (21 + (sm_w z1).toNat) s)) (fun p11 => Option.bind (fBreakdown_due (sm_lo (21 + (sm_w z2).toNat) s)) (fun p14 => (if sm_w p11 = sm_w p14 then Option.bind (fState_tierOf (s (21 + (sm_w z1).toNat) 0) s) (fun p17 => Option.bind (fState_tierOf (s (21 + (sm_w z2).toNat) 0) s) (fun p20 => (if sm_w p17 ≤ sm_w p20 then some 0 else some 1))) else Option.bind (fBreakdown_due (sm_lo (21 + (sm_w z1).toNat) s)) (fun p24 => Option.bind (fBreakdown_due (sm_lo (21 + (sm_w z2).toNat) s)) (fun p27 => (if sm_w p27 ≤ sm_w p24 then some 0 else some 1)))))) else none else none))))
set_option maxRecDepth 100000 in
set_option maxHeartbeats 4000000 in
theorem bSending_isAheadOf {G : GT} {E : ET} {o : Nat} {s mi : MI} {z1 : Int} {z2 : Int} {w : Int} (g : gS E o)  (h : fSending_isAheadOf z1 z2 s = some w) : cN G yX6_isAheadOf cX6_isAheadOf 5 (some .boolean) 2 42 [.inr o, .inl z1, .inl z2] E (sm_gl o 61 s mi) (some (.inl w), E, (sm_gl o 61 s mi)) := by
  have hN1 := g.1
  have hN2 := g.2.1
  unfold fSending_isAheadOf at h
  refine sm_meth (by decide +kernel) (Nat.le_of_ble_eq_true rfl) ?_
  show sM (xSending_isAheadOf G) 0 [some (.inr o), some (.inl z1), some (.inl z2), none, none] [] E (sm_gl o 61 s mi) _
  refine sm_aload_n dX6_isAheadOf_0 rfl ?_
  refine sm_iload_n dX6_isAheadOf_1 rfl ?_
  obtain ⟨p1, hp2, h⟩ := sl_bind h
  have hc3 := bState_isCall (G := G) (E := E) (o := o) (s := s) (mi := mi) g  hp2
  refine sc_callV1 (avs := [.inl z1]) (st := []) lk_RX6_9 rfl vf_X7_isCall hc3 ⟨(Nat.le_of_ble_eq_true rfl), (Nat.le_of_ble_eq_true rfl)⟩ ⟨rfl, (Nat.le_of_ble_eq_true rfl)⟩ g.2.2.1 (by omega) rfl dX6_isAheadOf_2 ?_
  refine sm_if_eq 16 dX6_isAheadOf_5 rfl (fun c33 => ?_) (fun c33 => ?_)
  · rw [if_pos c33] at h
    refine sm_iconst dX6_isAheadOf_16 ?_
    cases h
    exact sm_ireturn dX6_isAheadOf_17 (Or.inr ⟨rfl, Or.inl rfl⟩)
  · rw [if_neg c33] at h
    refine sm_aload_n dX6_isAheadOf_8 rfl ?_
    refine sm_iload_n dX6_isAheadOf_9 rfl ?_
    obtain ⟨p4, hp5, h⟩ := sl_bind h
    have hc6 := bState_isCall (G := G) (E := E) (o := o) (s := s) (mi := mi) g  hp5
    refine sc_callV1 (avs := [.inl z2]) (st := []) lk_RX6_9 rfl vf_X7_isCall hc6 ⟨(Nat.le_of_ble_eq_true rfl), (Nat.le_of_ble_eq_true rfl)⟩ ⟨rfl, (Nat.le_of_ble_eq_true rfl)⟩ g.2.2.1 (by omega) rfl dX6_isAheadOf_10 ?_
    refine sm_if_ne 18 dX6_isAheadOf_13 rfl (fun c32 => ?_) (fun c32 => ?_)
    · rw [if_neg c32] at h
      refine sm_aload_n dX6_isAheadOf_18 rfl ?_
      refine sm_getR lf_RX6_15 fR_5_7 g.2.2.1 (by omega) g.2.2.2.2.2.2.2.1.1.2 dX6_isAheadOf_19 ?_
      refine sm_iload_n dX6_isAheadOf_22 rfl ?_
      obtain ⟨q7, h⟩ := sl_guard h
      have xq7 := (sl_ix (m := 40) q7).2
      have e8 := g.2.2.2.2.2.2.2.1.2 (sm_w z1).toNat xq7
      refine sl_aald (k := (sm_w z1).toNat) (Or.inr (Or.inr (Or.inl rfl))) g.2.2.2.2.2.2.2.1.1.1 (by omega) (sl_ix (m := 40) q7) e8.1 dX6_isAheadOf_23 ?_
      refine sm_astore_n dX6_isAheadOf_24 (Nat.le_of_ble_eq_true rfl) ?_
      refine sm_aload_n dX6_isAheadOf_25 rfl ?_
      refine sm_getR lf_RX6_15 fR_5_7 g.2.2.1 (by omega) g.2.2.2.2.2.2.2.1.1.2 dX6_isAheadOf_26 ?_
      refine sm_iload_n dX6_isAheadOf_29 rfl ?_
      obtain ⟨q9, h⟩ := sl_guard h
      have xq9 := (sl_ix (m := 40) q9).2
      have e10 := g.2.2.2.2.2.2.2.1.2 (sm_w z2).toNat xq9
      refine sl_aald (k := (sm_w z2).toNat) (Or.inr (Or.inr (Or.inl rfl))) g.2.2.2.2.2.2.2.1.1.1 (by omega) (sl_ix (m := 40) q9) e10.1 dX6_isAheadOf_30 ?_
      refine sm_astore dX6_isAheadOf_31 (Nat.le_of_ble_eq_true rfl) ?_
      refine sm_aload_n dX6_isAheadOf_33 rfl ?_
      obtain ⟨p11, hp12, h⟩ := sl_bind h
      have hc13 := bBreakdown_due (G := G) (E := E) (o := o + (21 + (sm_w z1).toNat)) (s := (sm_lo (21 + (sm_w z1).toNat) s)) (mi := (sm_gl o 61 s mi)) e8.2  hp12
      rw [gl_in (o := o) (D := (21 + (sm_w z1).toNat)) (ha := (rfl : o + (21 + (sm_w z1).toNat) = o + (21 + (sm_w z1).toNat))) (hD := (by omega : (21 + (sm_w z1).toNat) + 1 ≤ 61))] at hc13
      refine sc_callV1 (avs := []) (st := []) lk_RX6_46 rfl vf_X1_due hc13 ⟨(Nat.le_of_ble_eq_true rfl), (Nat.le_of_ble_eq_true rfl)⟩ ⟨rfl, (Nat.le_of_ble_eq_true rfl)⟩ e8.2.2.2 (by omega) rfl dX6_isAheadOf_34 ?_
      refine sm_aload dX6_isAheadOf_37 rfl ?_
      obtain ⟨p14, hp15, h⟩ := sl_bind h
      have hc16 := bBreakdown_due (G := G) (E := E) (o := o + (21 + (sm_w z2).toNat)) (s := (sm_lo (21 + (sm_w z2).toNat) s)) (mi := (sm_gl o 61 s mi)) e10.2  hp15
      rw [gl_in (o := o) (D := (21 + (sm_w z2).toNat)) (ha := (rfl : o + (21 + (sm_w z2).toNat) = o + (21 + (sm_w z2).toNat))) (hD := (by omega : (21 + (sm_w z2).toNat) + 1 ≤ 61))] at hc16
      refine sc_callV1 (avs := []) (st := [.inl p11]) lk_RX6_46 rfl vf_X1_due hc16 ⟨(Nat.le_of_ble_eq_true rfl), (Nat.le_of_ble_eq_true rfl)⟩ ⟨rfl, (Nat.le_of_ble_eq_true rfl)⟩ e10.2.2.2 (by omega) rfl dX6_isAheadOf_39 ?_
      refine sc_icmp_eq (X' := sm_w p11) (Y' := sm_w p14) 63 dX6_isAheadOf_42 rfl rfl rfl (fun c31 => ?_) (fun c31 => ?_)
      · rw [if_pos c31] at h
        refine sm_aload_n dX6_isAheadOf_63 rfl ?_
        refine sm_aload_n dX6_isAheadOf_64 rfl ?_
        refine sl_getI (D := (21 + (sm_w z1).toNat)) lf_RX6_50 fI_0_0 e8.2.2.2 rfl (by omega) hN2 dX6_isAheadOf_65 ?_
        obtain ⟨p17, hp18, h⟩ := sl_bind h
        have hc19 := bState_tierOf (G := G) (E := E) (o := o) (s := s) (mi := mi) g  hp18
        refine sc_callV1 (avs := [.inl (s (21 + (sm_w z1).toNat) 0)]) (st := []) lk_RX6_53 rfl vf_X7_tierOf hc19 ⟨(Nat.le_of_ble_eq_true rfl), (Nat.le_of_ble_eq_true rfl)⟩ ⟨rfl, (Nat.le_of_ble_eq_true rfl)⟩ g.2.2.1 (by omega) rfl dX6_isAheadOf_68 ?_
        refine sm_aload_n dX6_isAheadOf_71 rfl ?_
        refine sm_aload dX6_isAheadOf_72 rfl ?_
        refine sl_getI (D := (21 + (sm_w z2).toNat)) lf_RX6_50 fI_0_0 e10.2.2.2 rfl (by omega) hN2 dX6_isAheadOf_74 ?_
        obtain ⟨p20, hp21, h⟩ := sl_bind h
        have hc22 := bState_tierOf (G := G) (E := E) (o := o) (s := s) (mi := mi) g  hp21
        refine sc_callV1 (avs := [.inl (s (21 + (sm_w z2).toNat) 0)]) (st := [.inl p17]) lk_RX6_53 rfl vf_X7_tierOf hc22 ⟨(Nat.le_of_ble_eq_true rfl), (Nat.le_of_ble_eq_true rfl)⟩ ⟨rfl, (Nat.le_of_ble_eq_true rfl)⟩ g.2.2.1 (by omega) rfl dX6_isAheadOf_77 ?_
        refine sc_icmp_le (X' := sm_w p17) (Y' := sm_w p20) 87 dX6_isAheadOf_80 rfl rfl rfl (fun c23 => ?_) (fun c23 => ?_)
        · rw [if_pos c23] at h
          refine sm_iconst dX6_isAheadOf_87 ?_
          cases h
          exact sm_ireturn dX6_isAheadOf_88 (Or.inr ⟨rfl, Or.inl rfl⟩)
        · rw [if_neg c23] at h
          refine sm_iconst dX6_isAheadOf_83 ?_
          refine sm_goto 88 dX6_isAheadOf_84 rfl ?_
          cases h
          exact sm_ireturn dX6_isAheadOf_88 (Or.inr ⟨rfl, Or.inr rfl⟩)
      · rw [if_neg c31] at h
        refine sm_aload_n dX6_isAheadOf_45 rfl ?_
        obtain ⟨p24, hp25, h⟩ := sl_bind h
        have hc26 := bBreakdown_due (G := G) (E := E) (o := o + (21 + (sm_w z1).toNat)) (s := (sm_lo (21 + (sm_w z1).toNat) s)) (mi := (sm_gl o 61 s mi)) e8.2  hp25
        rw [gl_in (o := o) (D := (21 + (sm_w z1).toNat)) (ha := (rfl : o + (21 + (sm_w z1).toNat) = o + (21 + (sm_w z1).toNat))) (hD := (by omega : (21 + (sm_w z1).toNat) + 1 ≤ 61))] at hc26
        refine sc_callV1 (avs := []) (st := []) lk_RX6_46 rfl vf_X1_due hc26 ⟨(Nat.le_of_ble_eq_true rfl), (Nat.le_of_ble_eq_true rfl)⟩ ⟨rfl, (Nat.le_of_ble_eq_true rfl)⟩ e8.2.2.2 (by omega) rfl dX6_isAheadOf_46 ?_
        refine sm_aload dX6_isAheadOf_49 rfl ?_
        obtain ⟨p27, hp28, h⟩ := sl_bind h
        have hc29 := bBreakdown_due (G := G) (E := E) (o := o + (21 + (sm_w z2).toNat)) (s := (sm_lo (21 + (sm_w z2).toNat) s)) (mi := (sm_gl o 61 s mi)) e10.2  hp28
        rw [gl_in (o := o) (D := (21 + (sm_w z2).toNat)) (ha := (rfl : o + (21 + (sm_w z2).toNat) = o + (21 + (sm_w z2).toNat))) (hD := (by omega : (21 + (sm_w z2).toNat) + 1 ≤ 61))] at hc29
        refine sc_callV1 (avs := []) (st := [.inl p24]) lk_RX6_46 rfl vf_X1_due hc29 ⟨(Nat.le_of_ble_eq_true rfl), (Nat.le_of_ble_eq_true rfl)⟩ ⟨rfl, (Nat.le_of_ble_eq_true rfl)⟩ e10.2.2.2 (by omega) rfl dX6_isAheadOf_51 ?_
        refine sc_icmp_ge (X' := sm_w p24) (Y' := sm_w p27) 61 dX6_isAheadOf_54 rfl rfl rfl (fun c30 => ?_) (fun c30 => ?_)
        · rw [if_pos c30] at h
          refine sm_iconst dX6_isAheadOf_61 ?_
          cases h
          exact sm_ireturn dX6_isAheadOf_62 (Or.inr ⟨rfl, Or.inl rfl⟩)
        · rw [if_neg c30] at h
          refine sm_iconst dX6_isAheadOf_57 ?_
          refine sm_goto 62 dX6_isAheadOf_58 rfl ?_
          cases h
          exact sm_ireturn dX6_isAheadOf_62 (Or.inr ⟨rfl, Or.inr rfl⟩)
    · rw [if_pos c32] at h
      refine sm_iconst dX6_isAheadOf_16 ?_
      cases h
      exact sm_ireturn dX6_isAheadOf_17 (Or.inr ⟨rfl, Or.inl rfl⟩)
abbrev xSending_putInOrder (G : GT) : XT := (G, yX6_putInOrder.cls, cX6_putInOrder, 4, (some .int), decide (yX6_putInOrder.name = "<init>"), 3, 66)
abbrev qSending_putInOrder_l4 (G : GT) (E : ET) (o : Nat) (mi : MI)  (r : RT) (t : Int × Int × MI) : Prop := sM (xSending_putInOrder G) 4 [some (.inr o), some (.inl t.1), some (.inl t.2.1), none] [] E (sm_gl o 61 t.2.2 mi) r
abbrev kSending_putInOrder_l4 (G : GT) (E : ET) (o : Nat) (mi : MI)  (r : RT) (x : Int × MI) : Prop := sM (xSending_putInOrder G) 84 [none, some (.inl x.1), none, none] [] E (sm_gl o 61 x.2 mi) r
def fSending_putInOrder_j78_l4 (z1 : Int) (z2 : Int) (s : MI) : Option ((Int × Int × MI) ⊕ (Int × MI)) :=
  some (.inl (z1, (z2 + 1), s))
set_option maxRecDepth 100000 in
set_option maxHeartbeats 4000000 in
theorem bSending_putInOrder_j78_l4 {G : GT} {E : ET} {o : Nat} {s mi : MI} {z1 : Int} {z2 : Int} {r : RT} {w : (Int × Int × MI) ⊕ (Int × MI)} (g : gS E o)  (h : fSending_putInOrder_j78_l4 z1 z2 s = some w) (hK : Sum.elim (qSending_putInOrder_l4 G E o mi r) (kSending_putInOrder_l4 G E o mi r) w) : sM (xSending_putInOrder G) 78 [some (.inr o), some (.inl z1), some (.inl z2), none] [] E (sm_gl o 61 s mi) r := by
  have hN1 := g.1
  have hN2 := g.2.1
  unfold fSending_putInOrder_j78_l4 at h
  refine sm_iinc dX6_putInOrder_78 (Nat.le_of_ble_eq_true rfl) rfl ?_
  refine sm_goto 4 dX6_putInOrder_81 rfl ?_
  cases h
  exact sm_less (lv' := [some (.inr o), some (.inl z1), some (.inl (z2 + 1)), none]) ⟨rfl, rfl, rfl, trivial⟩ hK
abbrev qSending_putInOrder_l28 (G : GT) (E : ET) (o : Nat) (mi : MI) (z1 : Int) (z2 : Int) (r : RT) (t : Int × MI) : Prop := sM (xSending_putInOrder G) 28 [some (.inr o), some (.inl z1), some (.inl z2), some (.inl t.1)] [] E (sm_gl o 61 t.2 mi) r
abbrev kSending_putInOrder_l28 (G : GT) (E : ET) (o : Nat) (mi : MI) (z1 : Int) (z2 : Int) (r : RT) (x : Int × MI) : Prop := sM (xSending_putInOrder G) 68 [some (.inr o), some (.inl z1), some (.inl z2), some (.inl x.1)] [] E (sm_gl o 61 x.2 mi) r
def fSending_putInOrder_l28 (z1 : Int) (z2 : Int) (z3 : Int) (s : MI) : Option ((Int × MI) ⊕ (Int × MI)) :=
  (if sm_w z3 ≤ 0 then some (.inr (z3, s)) else if 0 ≤ sm_w (z3 - 1) ∧ sm_w (z3 - 1) < 40 then Option.bind (fSending_isAheadOf z2 (s 9 (sm_w (z3 - 1)).toNat) s) (fun p5 => (if sm_w p5 = 0 then some (.inr (z3, s)) else if 0 ≤ sm_w z3 ∧ sm_w z3 < 40 then Option.bind (some (sm_up s 9 (sm_w z3).toNat (s 9 (sm_w (z3 - 1)).toNat))) (fun s9 => some (.inl ((z3 + (-1)), s9))) else none)) else none)
set_option maxRecDepth 100000 in
set_option maxHeartbeats 4000000 in
theorem bSending_putInOrder_l28 {G : GT} {E : ET} {o : Nat} {s mi : MI} {z1 : Int} {z2 : Int} {z3 : Int} {r : RT} {w : (Int × MI) ⊕ (Int × MI)} (g : gS E o)  (h : fSending_putInOrder_l28 z1 z2 z3 s = some w) (hK : Sum.elim (qSending_putInOrder_l28 G E o mi z1 z2 r) (kSending_putInOrder_l28 G E o mi z1 z2 r) w) : qSending_putInOrder_l28 G E o mi z1 z2 r (z3, s) := by
  have hN1 := g.1
  have hN2 := g.2.1
  unfold fSending_putInOrder_l28 at h
  show sM (xSending_putInOrder G) 28 [some (.inr o), some (.inl z1), some (.inl z2), some (.inl z3)] [] E (sm_gl o 61 s mi) r
  refine sm_iload_n dX6_putInOrder_28 rfl ?_
  refine sm_if_le 68 dX6_putInOrder_29 rfl (fun c12 => ?_) (fun c12 => ?_)
  · rw [if_pos c12] at h
    cases h
    exact sm_less (lv' := [some (.inr o), some (.inl z1), some (.inl z2), some (.inl z3)]) ⟨rfl, rfl, rfl, rfl, trivial⟩ hK
  · rw [if_neg c12] at h
    refine sm_aload_n dX6_putInOrder_32 rfl ?_
    refine sm_iload_n dX6_putInOrder_33 rfl ?_
    refine sm_aload_n dX6_putInOrder_34 rfl ?_
    refine sm_getR lf_RX6_38 fR_5_12 g.2.2.1 (by omega) g.2.2.2.2.2.2.2.2.2.2 dX6_putInOrder_35 ?_
    refine sm_iload_n dX6_putInOrder_38 rfl ?_
    refine sm_iconst dX6_putInOrder_39 ?_
    refine sm_isub dX6_putInOrder_40 ?_
    obtain ⟨q4, h⟩ := sl_guard h
    have xq4 := (sl_ix (m := 40) q4).2
    refine sl_ialdk (D := 9) (k := (sm_w (z3 - 1)).toNat) g.2.2.2.2.2.2.2.2.2.1 rfl (by omega) hN2 (sl_ix (m := 40) q4) dX6_putInOrder_41 ?_
    obtain ⟨p5, hp6, h⟩ := sl_bind h
    have hc7 := bSending_isAheadOf (G := G) (E := E) (o := o) (s := s) (mi := mi) g  hp6
    refine sc_callS1 (avs := [.inr o, .inl z2, .inl (s 9 (sm_w (z3 - 1)).toNat)]) (st := []) lk_RX6_42 rfl sf_X6_isAheadOf hc7 ⟨(Nat.le_of_ble_eq_true rfl), (Nat.le_of_ble_eq_true rfl)⟩ ⟨rfl, (Nat.le_of_ble_eq_true rfl)⟩ rfl dX6_putInOrder_42 ?_
    refine sm_if_eq 68 dX6_putInOrder_45 rfl (fun c11 => ?_) (fun c11 => ?_)
    · rw [if_pos c11] at h
      cases h
      exact sm_less (lv' := [some (.inr o), some (.inl z1), some (.inl z2), some (.inl z3)]) ⟨rfl, rfl, rfl, rfl, trivial⟩ hK
    · rw [if_neg c11] at h
      refine sm_aload_n dX6_putInOrder_48 rfl ?_
      refine sm_getR lf_RX6_38 fR_5_12 g.2.2.1 (by omega) g.2.2.2.2.2.2.2.2.2.2 dX6_putInOrder_49 ?_
      refine sm_iload_n dX6_putInOrder_52 rfl ?_
      refine sm_aload_n dX6_putInOrder_53 rfl ?_
      refine sm_getR lf_RX6_38 fR_5_12 g.2.2.1 (by omega) g.2.2.2.2.2.2.2.2.2.2 dX6_putInOrder_54 ?_
      refine sm_iload_n dX6_putInOrder_57 rfl ?_
      refine sm_iconst dX6_putInOrder_58 ?_
      refine sm_isub dX6_putInOrder_59 ?_
      refine sl_ialdk (D := 9) (k := (sm_w (z3 - 1)).toNat) g.2.2.2.2.2.2.2.2.2.1 rfl (by omega) hN2 (sl_ix (m := 40) q4) dX6_putInOrder_60 ?_
      obtain ⟨q8, h⟩ := sl_guard h
      have xq8 := (sl_ix (m := 40) q8).2
      refine sl_iastk (D := 9) (k := (sm_w z3).toNat) g.2.2.2.2.2.2.2.2.2.1 rfl (by omega) ⟨hN1, hN2⟩ (sl_ix (m := 40) q8) dX6_putInOrder_61 ?_
      obtain ⟨s9, hs10, h⟩ := sl_bind h
      rw [Option.some.inj hs10]
      refine sm_iinc dX6_putInOrder_62 (Nat.le_of_ble_eq_true rfl) rfl ?_
      refine sm_goto 28 dX6_putInOrder_65 rfl ?_
      cases h
      exact sm_less (lv' := [some (.inr o), some (.inl z1), some (.inl z2), some (.inl (z3 + (-1)))]) ⟨rfl, rfl, rfl, rfl, trivial⟩ hK
def fSending_putInOrder_j68_l4 (z1 : Int) (z2 : Int) (z3 : Int) (s : MI) : Option ((Int × Int × MI) ⊕ (Int × MI)) :=
  if 0 ≤ sm_w z3 ∧ sm_w z3 < 40 then Option.bind (some (sm_up s 9 (sm_w z3).toNat z2)) (fun s17 => fSending_putInOrder_j78_l4 (z1 + 1) z2 s17) else none
set_option maxRecDepth 100000 in
set_option maxHeartbeats 4000000 in
theorem bSending_putInOrder_j68_l4 {G : GT} {E : ET} {o : Nat} {s mi : MI} {z1 : Int} {z2 : Int} {z3 : Int} {r : RT} {w : (Int × Int × MI) ⊕ (Int × MI)} (g : gS E o)  (h : fSending_putInOrder_j68_l4 z1 z2 z3 s = some w) (hK : Sum.elim (qSending_putInOrder_l4 G E o mi r) (kSending_putInOrder_l4 G E o mi r) w) : sM (xSending_putInOrder G) 68 [some (.inr o), some (.inl z1), some (.inl z2), some (.inl z3)] [] E (sm_gl o 61 s mi) r := by
  have hN1 := g.1
  have hN2 := g.2.1
  unfold fSending_putInOrder_j68_l4 at h
  refine sm_aload_n dX6_putInOrder_68 rfl ?_
  refine sm_getR lf_RX6_38 fR_5_12 g.2.2.1 (by omega) g.2.2.2.2.2.2.2.2.2.2 dX6_putInOrder_69 ?_
  refine sm_iload_n dX6_putInOrder_72 rfl ?_
  refine sm_iload_n dX6_putInOrder_73 rfl ?_
  obtain ⟨q16, h⟩ := sl_guard h
  have xq16 := (sl_ix (m := 40) q16).2
  refine sl_iastk (D := 9) (k := (sm_w z3).toNat) g.2.2.2.2.2.2.2.2.2.1 rfl (by omega) ⟨hN1, hN2⟩ (sl_ix (m := 40) q16) dX6_putInOrder_74 ?_
  obtain ⟨s17, hs18, h⟩ := sl_bind h
  rw [Option.some.inj hs18]
  refine sm_iinc dX6_putInOrder_75 (Nat.le_of_ble_eq_true rfl) rfl ?_
  exact sm_less (lv' := [some (.inr o), some (.inl (z1 + 1)), some (.inl z2), none]) ⟨rfl, rfl, rfl, trivial⟩ (bSending_putInOrder_j78_l4 g   h hK)
def fSending_putInOrder_l4 (z1 : Int) (z2 : Int) (s : MI) : Option ((Int × Int × MI) ⊕ (Int × MI)) :=
  (if sm_w (s 0 8) ≤ sm_w z2 then some (.inr (z1, s)) else (if 40 ≤ sm_w z1 then some (.inr (z1, s)) else Option.bind (fSending_waits z2 s) (fun p1 => (if sm_w p1 = 0 then fSending_putInOrder_j78_l4 z1 z2 s else Option.bind (sl_it (fun (t : Int × MI) => fSending_putInOrder_l28 z1 z2 t.1 t.2) sl_fu (z1, s)) (fun x15 => fSending_putInOrder_j68_l4 z1 z2 x15.1 x15.2)))))
set_option maxRecDepth 100000 in
set_option maxHeartbeats 4000000 in
theorem bSending_putInOrder_l4 {G : GT} {E : ET} {o : Nat} {s mi : MI} {z1 : Int} {z2 : Int} {r : RT} {w : (Int × Int × MI) ⊕ (Int × MI)} (g : gS E o)  (h : fSending_putInOrder_l4 z1 z2 s = some w) (hK : Sum.elim (qSending_putInOrder_l4 G E o mi r) (kSending_putInOrder_l4 G E o mi r) w) : qSending_putInOrder_l4 G E o mi r (z1, z2, s) := by
  have hN1 := g.1
  have hN2 := g.2.1
  unfold fSending_putInOrder_l4 at h
  show sM (xSending_putInOrder G) 4 [some (.inr o), some (.inl z1), some (.inl z2), none] [] E (sm_gl o 61 s mi) r
  refine sm_iload_n dX6_putInOrder_4 rfl ?_
  refine sm_aload_n dX6_putInOrder_5 rfl ?_
  refine sl_getI (D := 0) lf_RX6_29 fI_5_8 g.2.2.1 rfl (by omega) hN2 dX6_putInOrder_6 ?_
  refine sc_icmp_ge (X' := sm_w z2) (Y' := sm_w (s 0 8)) 84 dX6_putInOrder_9 rfl rfl rfl (fun c21 => ?_) (fun c21 => ?_)
  · rw [if_pos c21] at h
    cases h
    exact sm_less (lv' := [none, some (.inl z1), none, none]) ⟨rfl, trivial⟩ hK
  · rw [if_neg c21] at h
    refine sm_iload_n dX6_putInOrder_12 rfl ?_
    refine sm_bipush dX6_putInOrder_13 rfl ?_
    refine sc_icmp_ge (X' := sm_w z1) (Y' := 40) 84 dX6_putInOrder_15 rfl rfl (by decide) (fun c20 => ?_) (fun c20 => ?_)
    · rw [if_pos c20] at h
      cases h
      exact sm_less (lv' := [none, some (.inl z1), none, none]) ⟨rfl, trivial⟩ hK
    · rw [if_neg c20] at h
      refine sm_aload_n dX6_putInOrder_18 rfl ?_
      refine sm_iload_n dX6_putInOrder_19 rfl ?_
      obtain ⟨p1, hp2, h⟩ := sl_bind h
      have hc3 := bSending_waits (G := G) (E := E) (o := o) (s := s) (mi := mi) g  hp2
      refine sc_callS1 (avs := [.inr o, .inl z2]) (st := []) lk_RX6_32 rfl sf_X6_waits hc3 ⟨(Nat.le_of_ble_eq_true rfl), (Nat.le_of_ble_eq_true rfl)⟩ ⟨rfl, (Nat.le_of_ble_eq_true rfl)⟩ rfl dX6_putInOrder_20 ?_
      refine sm_if_eq 78 dX6_putInOrder_23 rfl (fun c19 => ?_) (fun c19 => ?_)
      · rw [if_pos c19] at h
        exact sm_less (lv' := [some (.inr o), some (.inl z1), some (.inl z2), none]) ⟨rfl, rfl, rfl, trivial⟩ (bSending_putInOrder_j78_l4 g   h hK)
      · rw [if_neg c19] at h
        refine sm_iload_n dX6_putInOrder_26 rfl ?_
        refine sm_istore_n dX6_putInOrder_27 (Nat.le_of_ble_eq_true rfl) ?_
        obtain ⟨x15, hy14, h⟩ := sl_bind h
        refine sm_less (lv' := [some (.inr o), some (.inl z1), some (.inl z2), some (.inl z1)]) ⟨rfl, rfl, rfl, rfl, trivial⟩ (sl_itE (P := qSending_putInOrder_l28 G E o mi z1 z2 _) (K := kSending_putInOrder_l28 G E o mi z1 z2 _) (fun t q hq hk => bSending_putInOrder_l28 g  hq hk) sl_fu _ x15 hy14 ?_)
        show sM (xSending_putInOrder G) 68 [some (.inr o), some (.inl z1), some (.inl z2), some (.inl x15.1)] [] E (sm_gl o 61 x15.2 mi) _
        exact sm_less (lv' := [some (.inr o), some (.inl z1), some (.inl z2), some (.inl x15.1)]) ⟨rfl, rfl, rfl, rfl, trivial⟩ (bSending_putInOrder_j68_l4 g   h hK)
def fSending_putInOrder  (s : MI) : Option (Int × MI) :=
  Option.bind (sl_it (fun (t : Int × Int × MI) => fSending_putInOrder_l4 t.1 t.2.1 t.2.2) sl_fu (0, 0, s)) (fun x24 => some (x24.1, x24.2))
set_option maxRecDepth 100000 in
set_option maxHeartbeats 4000000 in
theorem bSending_putInOrder {G : GT} {E : ET} {o : Nat} {s mi : MI}  {w : Int × MI} (g : gS E o)  (h : fSending_putInOrder s = some w) : cN G yX6_putInOrder cX6_putInOrder 4 (some .int) 3 66 [.inr o] E (sm_gl o 61 s mi) (some (.inl w.1), E, sm_gl o 61 w.2 mi) := by
  have hN1 := g.1
  have hN2 := g.2.1
  unfold fSending_putInOrder at h
  refine sm_meth (by decide +kernel) (Nat.le_of_ble_eq_true rfl) ?_
  show sM (xSending_putInOrder G) 0 [some (.inr o), none, none, none] [] E (sm_gl o 61 s mi) _
  refine sm_iconst dX6_putInOrder_0 ?_
  refine sm_istore_n dX6_putInOrder_1 (Nat.le_of_ble_eq_true rfl) ?_
  refine sm_iconst dX6_putInOrder_2 ?_
  refine sm_istore_n dX6_putInOrder_3 (Nat.le_of_ble_eq_true rfl) ?_
  obtain ⟨x24, hy23, h⟩ := sl_bind h
  refine sm_less (lv' := [some (.inr o), some (.inl 0), some (.inl 0), none]) ⟨rfl, rfl, rfl, trivial⟩ (sl_itE (P := qSending_putInOrder_l4 G E o mi _) (K := kSending_putInOrder_l4 G E o mi _) (fun t q hq hk => bSending_putInOrder_l4 g  hq hk) sl_fu _ x24 hy23 ?_)
  show sM (xSending_putInOrder G) 84 [none, some (.inl x24.1), none, none] [] E (sm_gl o 61 x24.2 mi) _
  refine sm_iload_n dX6_putInOrder_84 rfl ?_
  cases h
  exact sm_ireturn dX6_putInOrder_85 (Or.inl rfl)
abbrev xSending_mayTake (G : GT) : XT := (G, yX6_mayTake.cls, cX6_mayTake, 3, (some .boolean), decide (yX6_mayTake.name = "<init>"), 1, 21)
def fSending_mayTake (d0 : Nat) (d1 : Nat) (s : MI) : Option (Int) :=
  Option.bind (fDesk_regionOf (s d0 0)) (fun p1 => Option.bind (fDesk_regionOf (s d1 1)) (fun p4 => (if sm_w (s d1 5) = 3 then (if sm_w (s d0 2) = 0 then some 0 else (if sm_w (sm_abs (p1 - p4)) = 0 then some 1 else some 0)) else (if 1 < sm_w (sm_abs (p1 - p4)) then some 0 else some 1))))
set_option maxRecDepth 100000 in
set_option maxHeartbeats 4000000 in
theorem bSending_mayTake {G : GT} {E : ET} {o : Nat} {s mi : MI} {d0 : Nat} {d1 : Nat} {w : Int} (hN1 : 3 ≤ o) (hN2 : o + 61 ≤ E.sz) (gd0 : gO 3 E (o + d0)) (hd0 : d0 + 1 ≤ 61) (gd1 : gO 0 E (o + d1)) (hd1 : d1 + 1 ≤ 61) (h : fSending_mayTake d0 d1 s = some w) : cN G yX6_mayTake cX6_mayTake 3 (some .boolean) 1 21 [.inr (o + d0), .inr (o + d1)] E (sm_gl o 61 s mi) (some (.inl w), E, (sm_gl o 61 s mi)) := by
  unfold fSending_mayTake at h
  refine sm_meth (by decide +kernel) (Nat.le_of_ble_eq_true rfl) ?_
  show sM (xSending_mayTake G) 0 [some (.inr (o + d0)), some (.inr (o + d1)), none] [] E (sm_gl o 61 s mi) _
  refine sm_aload_n dX6_mayTake_0 rfl ?_
  refine sl_getI (D := d0) lf_RX6_90 fI_3_0 gd0.2.2 rfl (by omega) hN2 dX6_mayTake_1 ?_
  obtain ⟨p1, hp2, h⟩ := sl_bind h
  have hc3 := bDesk_regionOf (G := G) (E := E) (mi := (sm_gl o 61 s mi))   hp2
  refine sc_callS1 (avs := [.inl (s d0 0)]) (st := []) lk_RX6_93 rfl sf_X9_regionOf hc3 ⟨(Nat.le_of_ble_eq_true rfl), (Nat.le_of_ble_eq_true rfl)⟩ ⟨rfl, (Nat.le_of_ble_eq_true rfl)⟩ rfl dX6_mayTake_4 ?_
  refine sm_aload_n dX6_mayTake_7 rfl ?_
  refine sl_getI (D := d1) lf_RX6_73 fI_0_1 gd1.2.2 rfl (by omega) hN2 dX6_mayTake_8 ?_
  obtain ⟨p4, hp5, h⟩ := sl_bind h
  have hc6 := bDesk_regionOf (G := G) (E := E) (mi := (sm_gl o 61 s mi))   hp5
  refine sc_callS1 (avs := [.inl (s d1 1)]) (st := [.inl p1]) lk_RX6_93 rfl sf_X9_regionOf hc6 ⟨(Nat.le_of_ble_eq_true rfl), (Nat.le_of_ble_eq_true rfl)⟩ ⟨rfl, (Nat.le_of_ble_eq_true rfl)⟩ rfl dX6_mayTake_11 ?_
  refine sm_isub dX6_mayTake_14 ?_
  refine sm_mabs lm_RX6_96 ⟨(Nat.le_of_ble_eq_true rfl), (Nat.le_of_ble_eq_true rfl)⟩ dX6_mayTake_15 ?_
  refine sm_istore_n dX6_mayTake_18 (Nat.le_of_ble_eq_true rfl) ?_
  refine sm_aload_n dX6_mayTake_19 rfl ?_
  refine sl_getI (D := d1) lf_RX6_19 fI_0_5 gd1.2.2 rfl (by omega) hN2 dX6_mayTake_20 ?_
  refine sm_iconst dX6_mayTake_23 ?_
  refine sc_icmp_ne (X' := sm_w (s d1 5)) (Y' := 3) 44 dX6_mayTake_24 rfl rfl (by decide) (fun c10 => ?_) (fun c10 => ?_)
  · rw [if_neg c10] at h
    refine sm_iload_n dX6_mayTake_44 rfl ?_
    refine sm_iconst dX6_mayTake_45 ?_
    refine sc_icmp_gt (X' := sm_w (sm_abs (p1 - p4))) (Y' := 1) 53 dX6_mayTake_46 rfl rfl (by decide) (fun c7 => ?_) (fun c7 => ?_)
    · rw [if_pos c7] at h
      refine sm_iconst dX6_mayTake_53 ?_
      cases h
      exact sm_ireturn dX6_mayTake_54 (Or.inr ⟨rfl, Or.inl rfl⟩)
    · rw [if_neg c7] at h
      refine sm_iconst dX6_mayTake_49 ?_
      refine sm_goto 54 dX6_mayTake_50 rfl ?_
      cases h
      exact sm_ireturn dX6_mayTake_54 (Or.inr ⟨rfl, Or.inr rfl⟩)
  · rw [if_pos c10] at h
    refine sm_aload_n dX6_mayTake_27 rfl ?_
    refine sl_getI (D := d0) lf_RX6_101 fI_3_2 gd0.2.2 rfl (by omega) hN2 dX6_mayTake_28 ?_
    refine sm_if_eq 42 dX6_mayTake_31 rfl (fun c9 => ?_) (fun c9 => ?_)
    · rw [if_pos c9] at h
      refine sm_iconst dX6_mayTake_42 ?_
      cases h
      exact sm_ireturn dX6_mayTake_43 (Or.inr ⟨rfl, Or.inl rfl⟩)
    · rw [if_neg c9] at h
      refine sm_iload_n dX6_mayTake_34 rfl ?_
      refine sm_if_ne 42 dX6_mayTake_35 rfl (fun c8 => ?_) (fun c8 => ?_)
      · rw [if_neg c8] at h
        refine sm_iconst dX6_mayTake_42 ?_
        cases h
        exact sm_ireturn dX6_mayTake_43 (Or.inr ⟨rfl, Or.inl rfl⟩)
      · rw [if_pos c8] at h
        refine sm_iconst dX6_mayTake_38 ?_
        refine sm_goto 43 dX6_mayTake_39 rfl ?_
        cases h
        exact sm_ireturn dX6_mayTake_43 (Or.inr ⟨rfl, Or.inr rfl⟩)
abbrev xSending_nearestPatrol (G : GT) : XT := (G, yX6_nearestPatrol.cls, cX6_nearestPatrol, 9, (some .int), decide (yX6_nearestPatrol.name = "<init>"), 2, 43)
abbrev qSending_nearestPatrol_l12 (G : GT) (E : ET) (o : Nat) (mi : MI) (d1 : Nat) (s : MI) (r : RT) (t : Int × Int × Int × Int) : Prop := sM (xSending_nearestPatrol G) 12 [some (.inr o), some (.inr (o + d1)), some (.inl t.1), some (.inl t.2.1), some (.inl t.2.2.1), some (.inl t.2.2.2), none, none, none] [] E (sm_gl o 61 s mi) r
abbrev kSending_nearestPatrol_l12 (G : GT) (E : ET) (o : Nat) (mi : MI) (d1 : Nat) (s : MI) (r : RT) (x : Int) : Prop := sM (xSending_nearestPatrol G) 133 [none, none, some (.inl x), none, none, none, none, none, none] [] E (sm_gl o 61 s mi) r
def fSending_nearestPatrol_j127_l12 (d1 : Nat) (z2 : Int) (z3 : Int) (z4 : Int) (z5 : Int) (s : MI) : Option ((Int × Int × Int × Int) ⊕ (Int)) :=
  some (.inl (z2, z3, z4, (z5 + 1)))
set_option maxRecDepth 100000 in
set_option maxHeartbeats 4000000 in
theorem bSending_nearestPatrol_j127_l12 {G : GT} {E : ET} {o : Nat} {s mi : MI} {d1 : Nat} {z2 : Int} {z3 : Int} {z4 : Int} {z5 : Int} {r : RT} {w : (Int × Int × Int × Int) ⊕ (Int)} (g : gS E o) (gd1 : gO 0 E (o + d1)) (hd1 : d1 + 1 ≤ 61) (h : fSending_nearestPatrol_j127_l12 d1 z2 z3 z4 z5 s = some w) (hK : Sum.elim (qSending_nearestPatrol_l12 G E o mi d1 s r) (kSending_nearestPatrol_l12 G E o mi d1 s r) w) : sM (xSending_nearestPatrol G) 127 [some (.inr o), some (.inr (o + d1)), some (.inl z2), some (.inl z3), some (.inl z4), some (.inl z5), none, none, none] [] E (sm_gl o 61 s mi) r := by
  have hN1 := g.1
  have hN2 := g.2.1
  unfold fSending_nearestPatrol_j127_l12 at h
  refine sm_iinc dX6_nearestPatrol_127 (Nat.le_of_ble_eq_true rfl) rfl ?_
  refine sm_goto 12 dX6_nearestPatrol_130 rfl ?_
  cases h
  exact sm_less (lv' := [some (.inr o), some (.inr (o + d1)), some (.inl z2), some (.inl z3), some (.inl z4), some (.inl (z5 + 1)), none, none, none]) ⟨rfl, rfl, rfl, rfl, rfl, rfl, trivial⟩ hK
def fSending_nearestPatrol_j83_l12 (d1 : Nat) (z2 : Int) (z3 : Int) (z4 : Int) (z5 : Int) (d6 : Nat) (z7 : Int) (y0 : Int) (s : MI) : Option ((Int × Int × Int × Int) ⊕ (Int)) :=
  (if sm_w (s d6 3) = 0 then (if 1000000 ≤ sm_w z7 then fSending_nearestPatrol_j127_l12 d1 z2 z3 z4 z5 s else (if sm_w y0 = 0 then fSending_nearestPatrol_j127_l12 d1 z2 z3 z4 z5 s else Option.bind (fSending_mayTake d6 d1 s) (fun p6 => (if sm_w p6 = 0 then fSending_nearestPatrol_j127_l12 d1 z2 z3 z4 z5 s else fSending_nearestPatrol_j127_l12 d1 z5 (s d6 1) z7 z5 s)))) else fSending_nearestPatrol_j127_l12 d1 z2 z3 z4 z5 s)
set_option maxRecDepth 100000 in
set_option maxHeartbeats 4000000 in
theorem bSending_nearestPatrol_j83_l12 {G : GT} {E : ET} {o : Nat} {s mi : MI} {d1 : Nat} {z2 : Int} {z3 : Int} {z4 : Int} {z5 : Int} {d6 : Nat} {z7 : Int} {y0 : Int} {r : RT} {w : (Int × Int × Int × Int) ⊕ (Int)} (g : gS E o) (gd1 : gO 0 E (o + d1)) (hd1 : d1 + 1 ≤ 61) (gd6 : gO 3 E (o + d6)) (hd6 : d6 + 1 ≤ 61) (h : fSending_nearestPatrol_j83_l12 d1 z2 z3 z4 z5 d6 z7 y0 s = some w) (hK : Sum.elim (qSending_nearestPatrol_l12 G E o mi d1 s r) (kSending_nearestPatrol_l12 G E o mi d1 s r) w) : sM (xSending_nearestPatrol G) 83 [some (.inr o), some (.inr (o + d1)), some (.inl z2), some (.inl z3), some (.inl z4), some (.inl z5), some (.inr (o + d6)), some (.inl z7), none] [.inl y0] E (sm_gl o 61 s mi) r := by
  have hN1 := g.1
  have hN2 := g.2.1
  unfold fSending_nearestPatrol_j83_l12 at h
  refine sm_istore dX6_nearestPatrol_83 (Nat.le_of_ble_eq_true rfl) ?_
  refine sm_aload dX6_nearestPatrol_85 rfl ?_
  refine sl_getI (D := d6) lf_RX6_83 fI_3_3 gd6.2.2 rfl (by omega) hN2 dX6_nearestPatrol_87 ?_
  refine sm_if_ne 127 dX6_nearestPatrol_90 rfl (fun c12 => ?_) (fun c12 => ?_)
  · rw [if_neg c12] at h
    exact sm_less (lv' := [some (.inr o), some (.inr (o + d1)), some (.inl z2), some (.inl z3), some (.inl z4), some (.inl z5), none, none, none]) ⟨rfl, rfl, rfl, rfl, rfl, rfl, trivial⟩ (bSending_nearestPatrol_j127_l12 g gd1 (by omega)  h hK)
  · rw [if_pos c12] at h
    refine sm_iload dX6_nearestPatrol_93 rfl ?_
    refine sm_ldc (v := 1000000) rfl lc_RX6_56 dX6_nearestPatrol_95 ?_
    refine sc_icmp_ge (X' := sm_w z7) (Y' := 1000000) 127 dX6_nearestPatrol_97 rfl rfl (by decide) (fun c11 => ?_) (fun c11 => ?_)
    · rw [if_pos c11] at h
      exact sm_less (lv' := [some (.inr o), some (.inr (o + d1)), some (.inl z2), some (.inl z3), some (.inl z4), some (.inl z5), none, none, none]) ⟨rfl, rfl, rfl, rfl, rfl, rfl, trivial⟩ (bSending_nearestPatrol_j127_l12 g gd1 (by omega)  h hK)
    · rw [if_neg c11] at h
      refine sm_iload dX6_nearestPatrol_100 rfl ?_
      refine sm_if_eq 127 dX6_nearestPatrol_102 rfl (fun c10 => ?_) (fun c10 => ?_)
      · rw [if_pos c10] at h
        exact sm_less (lv' := [some (.inr o), some (.inr (o + d1)), some (.inl z2), some (.inl z3), some (.inl z4), some (.inl z5), none, none, none]) ⟨rfl, rfl, rfl, rfl, rfl, rfl, trivial⟩ (bSending_nearestPatrol_j127_l12 g gd1 (by omega)  h hK)
      · rw [if_neg c10] at h
        refine sm_aload dX6_nearestPatrol_105 rfl ?_
        refine sm_aload_n dX6_nearestPatrol_107 rfl ?_
        obtain ⟨p6, hp7, h⟩ := sl_bind h
        have hc8 := bSending_mayTake (G := G) (E := E) (o := o) (s := s) (mi := mi) (by omega) (by omega) gd6 (by omega) gd1 (by omega) hp7
        refine sc_callS1 (avs := [.inr (o + d6), .inr (o + d1)]) (st := []) lk_RX6_86 rfl sf_X6_mayTake hc8 ⟨(Nat.le_of_ble_eq_true rfl), (Nat.le_of_ble_eq_true rfl)⟩ ⟨rfl, (Nat.le_of_ble_eq_true rfl)⟩ rfl dX6_nearestPatrol_108 ?_
        refine sm_if_eq 127 dX6_nearestPatrol_111 rfl (fun c9 => ?_) (fun c9 => ?_)
        · rw [if_pos c9] at h
          exact sm_less (lv' := [some (.inr o), some (.inr (o + d1)), some (.inl z2), some (.inl z3), some (.inl z4), some (.inl z5), none, none, none]) ⟨rfl, rfl, rfl, rfl, rfl, rfl, trivial⟩ (bSending_nearestPatrol_j127_l12 g gd1 (by omega)  h hK)
        · rw [if_neg c9] at h
          refine sm_iload dX6_nearestPatrol_114 rfl ?_
          refine sm_istore_n dX6_nearestPatrol_116 (Nat.le_of_ble_eq_true rfl) ?_
          refine sm_aload dX6_nearestPatrol_117 rfl ?_
          refine sl_getI (D := d6) lf_RX6_80 fI_3_1 gd6.2.2 rfl (by omega) hN2 dX6_nearestPatrol_119 ?_
          refine sm_istore_n dX6_nearestPatrol_122 (Nat.le_of_ble_eq_true rfl) ?_
          refine sm_iload dX6_nearestPatrol_123 rfl ?_
          refine sm_istore dX6_nearestPatrol_125 (Nat.le_of_ble_eq_true rfl) ?_
          exact sm_less (lv' := [some (.inr o), some (.inr (o + d1)), some (.inl z5), some (.inl (s d6 1)), some (.inl z7), some (.inl z5), none, none, none]) ⟨rfl, rfl, rfl, rfl, rfl, rfl, trivial⟩ (bSending_nearestPatrol_j127_l12 g gd1 (by omega)  h hK)
def fSending_nearestPatrol_j78_l12 (d1 : Nat) (z2 : Int) (z3 : Int) (z4 : Int) (z5 : Int) (d6 : Nat) (z7 : Int) (s : MI) : Option ((Int × Int × Int × Int) ⊕ (Int)) :=
  fSending_nearestPatrol_j83_l12 d1 z2 z3 z4 z5 d6 z7 1 s
set_option maxRecDepth 100000 in
set_option maxHeartbeats 4000000 in
theorem bSending_nearestPatrol_j78_l12 {G : GT} {E : ET} {o : Nat} {s mi : MI} {d1 : Nat} {z2 : Int} {z3 : Int} {z4 : Int} {z5 : Int} {d6 : Nat} {z7 : Int} {r : RT} {w : (Int × Int × Int × Int) ⊕ (Int)} (g : gS E o) (gd1 : gO 0 E (o + d1)) (hd1 : d1 + 1 ≤ 61) (gd6 : gO 3 E (o + d6)) (hd6 : d6 + 1 ≤ 61) (h : fSending_nearestPatrol_j78_l12 d1 z2 z3 z4 z5 d6 z7 s = some w) (hK : Sum.elim (qSending_nearestPatrol_l12 G E o mi d1 s r) (kSending_nearestPatrol_l12 G E o mi d1 s r) w) : sM (xSending_nearestPatrol G) 78 [some (.inr o), some (.inr (o + d1)), some (.inl z2), some (.inl z3), some (.inl z4), some (.inl z5), some (.inr (o + d6)), some (.inl z7), none] [] E (sm_gl o 61 s mi) r := by
  have hN1 := g.1
  have hN2 := g.2.1
  unfold fSending_nearestPatrol_j78_l12 at h
  refine sm_iconst dX6_nearestPatrol_78 ?_
  refine sm_goto 83 dX6_nearestPatrol_79 rfl ?_
  exact sm_less (lv' := [some (.inr o), some (.inr (o + d1)), some (.inl z2), some (.inl z3), some (.inl z4), some (.inl z5), some (.inr (o + d6)), some (.inl z7), none]) ⟨rfl, rfl, rfl, rfl, rfl, rfl, rfl, rfl, trivial⟩ (bSending_nearestPatrol_j83_l12 g gd1 (by omega) gd6 (by omega)  h hK)
def fSending_nearestPatrol_j82_l12 (d1 : Nat) (z2 : Int) (z3 : Int) (z4 : Int) (z5 : Int) (d6 : Nat) (z7 : Int) (s : MI) : Option ((Int × Int × Int × Int) ⊕ (Int)) :=
  fSending_nearestPatrol_j83_l12 d1 z2 z3 z4 z5 d6 z7 0 s
set_option maxRecDepth 100000 in
set_option maxHeartbeats 4000000 in
theorem bSending_nearestPatrol_j82_l12 {G : GT} {E : ET} {o : Nat} {s mi : MI} {d1 : Nat} {z2 : Int} {z3 : Int} {z4 : Int} {z5 : Int} {d6 : Nat} {z7 : Int} {r : RT} {w : (Int × Int × Int × Int) ⊕ (Int)} (g : gS E o) (gd1 : gO 0 E (o + d1)) (hd1 : d1 + 1 ≤ 61) (gd6 : gO 3 E (o + d6)) (hd6 : d6 + 1 ≤ 61) (h : fSending_nearestPatrol_j82_l12 d1 z2 z3 z4 z5 d6 z7 s = some w) (hK : Sum.elim (qSending_nearestPatrol_l12 G E o mi d1 s r) (kSending_nearestPatrol_l12 G E o mi d1 s r) w) : sM (xSending_nearestPatrol G) 82 [some (.inr o), some (.inr (o + d1)), some (.inl z2), some (.inl z3), some (.inl z4), some (.inl z5), some (.inr (o + d6)), some (.inl z7), none] [] E (sm_gl o 61 s mi) r := by
  have hN1 := g.1
  have hN2 := g.2.1
  unfold fSending_nearestPatrol_j82_l12 at h
  refine sm_iconst dX6_nearestPatrol_82 ?_
  exact sm_less (lv' := [some (.inr o), some (.inr (o + d1)), some (.inl z2), some (.inl z3), some (.inl z4), some (.inl z5), some (.inr (o + d6)), some (.inl z7), none]) ⟨rfl, rfl, rfl, rfl, rfl, rfl, rfl, rfl, trivial⟩ (bSending_nearestPatrol_j83_l12 g gd1 (by omega) gd6 (by omega)  h hK)
def fSending_nearestPatrol_l12 (d1 : Nat) (z2 : Int) (z3 : Int) (z4 : Int) (z5 : Int) (s : MI) : Option ((Int × Int × Int × Int) ⊕ (Int)) :=
  (if sm_w (s 0 4) ≤ sm_w z5 then some (.inr z2) else (if 6 ≤ sm_w z5 then some (.inr z2) else if 0 ≤ sm_w z5 ∧ sm_w z5 < 6 then Option.bind (fMap_between (s (10 + (sm_w z5).toNat) 4) (s d1 1) (sm_lo 1 s)) (fun p3 => (if sm_w p3 < sm_w z4 then fSending_nearestPatrol_j78_l12 d1 z2 z3 z4 z5 (10 + (sm_w z5).toNat) p3 s else (if sm_w p3 = sm_w z4 then (if sm_w (s (10 + (sm_w z5).toNat) 1) ≤ sm_w z3 then fSending_nearestPatrol_j82_l12 d1 z2 z3 z4 z5 (10 + (sm_w z5).toNat) p3 s else fSending_nearestPatrol_j78_l12 d1 z2 z3 z4 z5 (10 + (sm_w z5).toNat) p3 s) else fSending_nearestPatrol_j82_l12 d1 z2 z3 z4 z5 (10 + (sm_w z5).toNat) p3 s))) else none))
set_option maxRecDepth 100000 in
set_option maxHeartbeats 4000000 in
theorem bSending_nearestPatrol_l12 {G : GT} {E : ET} {o : Nat} {s mi : MI} {d1 : Nat} {z2 : Int} {z3 : Int} {z4 : Int} {z5 : Int} {r : RT} {w : (Int × Int × Int × Int) ⊕ (Int)} (g : gS E o) (gd1 : gO 0 E (o + d1)) (hd1 : d1 + 1 ≤ 61) (h : fSending_nearestPatrol_l12 d1 z2 z3 z4 z5 s = some w) (hK : Sum.elim (qSending_nearestPatrol_l12 G E o mi d1 s r) (kSending_nearestPatrol_l12 G E o mi d1 s r) w) : qSending_nearestPatrol_l12 G E o mi d1 s r (z2, z3, z4, z5) := by
  have hN1 := g.1
  have hN2 := g.2.1
  unfold fSending_nearestPatrol_l12 at h
  show sM (xSending_nearestPatrol G) 12 [some (.inr o), some (.inr (o + d1)), some (.inl z2), some (.inl z3), some (.inl z4), some (.inl z5), none, none, none] [] E (sm_gl o 61 s mi) r
  refine sm_iload dX6_nearestPatrol_12 rfl ?_
  refine sm_aload_n dX6_nearestPatrol_14 rfl ?_
  refine sl_getI (D := 0) lf_RX6_57 fI_5_4 g.2.2.1 rfl (by omega) hN2 dX6_nearestPatrol_15 ?_
  refine sc_icmp_ge (X' := sm_w z5) (Y' := sm_w (s 0 4)) 133 dX6_nearestPatrol_18 rfl rfl rfl (fun c17 => ?_) (fun c17 => ?_)
  · rw [if_pos c17] at h
    cases h
    exact sm_less (lv' := [none, none, some (.inl z2), none, none, none, none, none, none]) ⟨rfl, trivial⟩ hK
  · rw [if_neg c17] at h
    refine sm_iload dX6_nearestPatrol_21 rfl ?_
    refine sm_bipush dX6_nearestPatrol_23 rfl ?_
    refine sc_icmp_ge (X' := sm_w z5) (Y' := 6) 133 dX6_nearestPatrol_25 rfl rfl (by decide) (fun c16 => ?_) (fun c16 => ?_)
    · rw [if_pos c16] at h
      cases h
      exact sm_less (lv' := [none, none, some (.inl z2), none, none, none, none, none, none]) ⟨rfl, trivial⟩ hK
    · rw [if_neg c16] at h
      refine sm_aload_n dX6_nearestPatrol_28 rfl ?_
      refine sm_getR lf_RX6_60 fR_5_3 g.2.2.1 (by omega) g.2.2.2.2.2.1.1.2 dX6_nearestPatrol_29 ?_
      refine sm_iload dX6_nearestPatrol_32 rfl ?_
      obtain ⟨q1, h⟩ := sl_guard h
      have xq1 := (sl_ix (m := 6) q1).2
      have e2 := g.2.2.2.2.2.1.2 (sm_w z5).toNat xq1
      refine sl_aald (k := (sm_w z5).toNat) (Or.inl rfl) g.2.2.2.2.2.1.1.1 (by omega) (sl_ix (m := 6) q1) e2.1 dX6_nearestPatrol_34 ?_
      refine sm_astore dX6_nearestPatrol_35 (Nat.le_of_ble_eq_true rfl) ?_
      refine sm_aload_n dX6_nearestPatrol_37 rfl ?_
      refine sm_getR lf_RX6_64 fR_5_0 g.2.2.1 (by omega) g.2.2.2.1.2 dX6_nearestPatrol_38 ?_
      refine sm_aload dX6_nearestPatrol_41 rfl ?_
      refine sl_getI (D := (10 + (sm_w z5).toNat)) lf_RX6_68 fI_3_4 e2.2.2.2 rfl (by omega) hN2 dX6_nearestPatrol_43 ?_
      refine sm_aload_n dX6_nearestPatrol_46 rfl ?_
      refine sl_getI (D := d1) lf_RX6_73 fI_0_1 gd1.2.2 rfl (by omega) hN2 dX6_nearestPatrol_47 ?_
      obtain ⟨p3, hp4, h⟩ := sl_bind h
      have hc5 := bMap_between (G := G) (E := E) (o := o + 1) (s := (sm_lo 1 s)) (mi := (sm_gl o 61 s mi)) g.2.2.2.1.1  hp4
      rw [gl_in (o := o) (D := 1) (ha := (rfl : o + 1 = o + 1)) (hD := (by omega : 1 + 3 ≤ 61))] at hc5
      refine sc_callV1 (avs := [.inl (s (10 + (sm_w z5).toNat) 4), .inl (s d1 1)]) (st := []) lk_RX6_74 rfl vf_X5_between hc5 ⟨(Nat.le_of_ble_eq_true rfl), (Nat.le_of_ble_eq_true rfl)⟩ ⟨rfl, (Nat.le_of_ble_eq_true rfl)⟩ g.2.2.2.1.1.2.2.1 (by omega) rfl dX6_nearestPatrol_50 ?_
      refine sm_istore dX6_nearestPatrol_53 (Nat.le_of_ble_eq_true rfl) ?_
      refine sm_iload dX6_nearestPatrol_55 rfl ?_
      refine sm_iload dX6_nearestPatrol_57 rfl ?_
      refine sc_icmp_lt (X' := sm_w p3) (Y' := sm_w z4) 78 dX6_nearestPatrol_59 rfl rfl rfl (fun c15 => ?_) (fun c15 => ?_)
      · rw [if_pos c15] at h
        exact sm_less (lv' := [some (.inr o), some (.inr (o + d1)), some (.inl z2), some (.inl z3), some (.inl z4), some (.inl z5), some (.inr (o + (10 + (sm_w z5).toNat))), some (.inl p3), none]) ⟨rfl, rfl, rfl, rfl, rfl, rfl, rfl, rfl, trivial⟩ (bSending_nearestPatrol_j78_l12 g gd1 (by omega) e2.2 (by omega)  h hK)
      · rw [if_neg c15] at h
        refine sm_iload dX6_nearestPatrol_62 rfl ?_
        refine sm_iload dX6_nearestPatrol_64 rfl ?_
        refine sc_icmp_ne (X' := sm_w p3) (Y' := sm_w z4) 82 dX6_nearestPatrol_66 rfl rfl rfl (fun c14 => ?_) (fun c14 => ?_)
        · rw [if_neg c14] at h
          exact sm_less (lv' := [some (.inr o), some (.inr (o + d1)), some (.inl z2), some (.inl z3), some (.inl z4), some (.inl z5), some (.inr (o + (10 + (sm_w z5).toNat))), some (.inl p3), none]) ⟨rfl, rfl, rfl, rfl, rfl, rfl, rfl, rfl, trivial⟩ (bSending_nearestPatrol_j82_l12 g gd1 (by omega) e2.2 (by omega)  h hK)
        · rw [if_pos c14] at h
          refine sm_aload dX6_nearestPatrol_69 rfl ?_
          refine sl_getI (D := (10 + (sm_w z5).toNat)) lf_RX6_80 fI_3_1 e2.2.2.2 rfl (by omega) hN2 dX6_nearestPatrol_71 ?_
          refine sm_iload_n dX6_nearestPatrol_74 rfl ?_
          refine sc_icmp_le (X' := sm_w (s (10 + (sm_w z5).toNat) 1)) (Y' := sm_w z3) 82 dX6_nearestPatrol_75 rfl rfl rfl (fun c13 => ?_) (fun c13 => ?_)
          · rw [if_pos c13] at h
            exact sm_less (lv' := [some (.inr o), some (.inr (o + d1)), some (.inl z2), some (.inl z3), some (.inl z4), some (.inl z5), some (.inr (o + (10 + (sm_w z5).toNat))), some (.inl p3), none]) ⟨rfl, rfl, rfl, rfl, rfl, rfl, rfl, rfl, trivial⟩ (bSending_nearestPatrol_j82_l12 g gd1 (by omega) e2.2 (by omega)  h hK)
          · rw [if_neg c13] at h
            exact sm_less (lv' := [some (.inr o), some (.inr (o + d1)), some (.inl z2), some (.inl z3), some (.inl z4), some (.inl z5), some (.inr (o + (10 + (sm_w z5).toNat))), some (.inl p3), none]) ⟨rfl, rfl, rfl, rfl, rfl, rfl, rfl, rfl, trivial⟩ (bSending_nearestPatrol_j78_l12 g gd1 (by omega) e2.2 (by omega)  h hK)
def fSending_nearestPatrol (d1 : Nat) (s : MI) : Option (Int) :=
  Option.bind (sl_it (fun (t : Int × Int × Int × Int) => fSending_nearestPatrol_l12 d1 t.1 t.2.1 t.2.2.1 t.2.2.2 s) sl_fu ((-5), 0, 1000000, 0)) (fun x20 => some x20)
set_option maxRecDepth 100000 in
set_option maxHeartbeats 4000000 in
theorem bSending_nearestPatrol {G : GT} {E : ET} {o : Nat} {s mi : MI} {d1 : Nat} {w : Int} (g : gS E o) (gd1 : gO 0 E (o + d1)) (hd1 : d1 + 1 ≤ 61) (h : fSending_nearestPatrol d1 s = some w) : cN G yX6_nearestPatrol cX6_nearestPatrol 9 (some .int) 2 43 [.inr o, .inr (o + d1)] E (sm_gl o 61 s mi) (some (.inl w), E, (sm_gl o 61 s mi)) := by
  have hN1 := g.1
  have hN2 := g.2.1
  unfold fSending_nearestPatrol at h
  refine sm_meth (by decide +kernel) (Nat.le_of_ble_eq_true rfl) ?_
  show sM (xSending_nearestPatrol G) 0 [some (.inr o), some (.inr (o + d1)), none, none, none, none, none, none, none] [] E (sm_gl o 61 s mi) _
  refine sm_bipush dX6_nearestPatrol_0 rfl ?_
  refine sm_istore_n dX6_nearestPatrol_2 (Nat.le_of_ble_eq_true rfl) ?_
  refine sm_iconst dX6_nearestPatrol_3 ?_
  refine sm_istore_n dX6_nearestPatrol_4 (Nat.le_of_ble_eq_true rfl) ?_
  refine sm_ldc (v := 1000000) rfl lc_RX6_56 dX6_nearestPatrol_5 ?_
  refine sm_istore dX6_nearestPatrol_7 (Nat.le_of_ble_eq_true rfl) ?_
  refine sm_iconst dX6_nearestPatrol_9 ?_
  refine sm_istore dX6_nearestPatrol_10 (Nat.le_of_ble_eq_true rfl) ?_
  obtain ⟨x20, hy19, h⟩ := sl_bind h
  refine sm_less (lv' := [some (.inr o), some (.inr (o + d1)), some (.inl (-5)), some (.inl 0), some (.inl 1000000), some (.inl 0), none, none, none]) ⟨rfl, rfl, rfl, rfl, rfl, rfl, trivial⟩ (sl_itE (P := qSending_nearestPatrol_l12 G E o mi d1 s _) (K := kSending_nearestPatrol_l12 G E o mi d1 s _) (fun t q hq hk => bSending_nearestPatrol_l12 g gd1 (by omega) hq hk) sl_fu _ x20 hy19 ?_)
  show sM (xSending_nearestPatrol G) 133 [none, none, some (.inl x20), none, none, none, none, none, none] [] E (sm_gl o 61 s mi) _
  refine sm_iload_n dX6_nearestPatrol_133 rfl ?_
  cases h
  exact sm_ireturn dX6_nearestPatrol_134 (Or.inl rfl)
