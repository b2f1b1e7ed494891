abbrev xBooks_cost (G : GT) : XT := (G, yX0_cost.cls, cX0_cost, 3, (some .int), decide (yX0_cost.name = "<init>"), 2, 42)
def fBooks_cost_j36 (y0 : Int) (y1 : Int) (y2 : Int) (s : MI) : Option (Int) :=
  some (sm_max y0 (y1 - y2))
set_option maxRecDepth 100000 in
set_option maxHeartbeats 4000000 in
theorem bBooks_cost_j36 {G : GT} {E : ET} {o : Nat} {s mi : MI} {y0 : Int} {y1 : Int} {y2 : Int} {w : Int} (g : gS E o) (gk : gK E mi)  (h : fBooks_cost_j36 y0 y1 y2 s = some w) : sM (xBooks_cost G) 36 [none, none, none] [.inl y2, .inl y1, .inl y0] E (sm_gl o 61 s mi) (some (.inl w), E, (sm_gl o 61 s mi)) := by
  have hN1 := g.1
  have hN2 := g.2.1
  unfold fBooks_cost_j36 at h
  refine sm_isub dX0_cost_36 ?_
  refine sm_mmax lm_RX0_63 ⟨(Nat.le_of_ble_eq_true rfl), (Nat.le_of_ble_eq_true rfl)⟩ dX0_cost_37 ?_
  cases h
  exact sm_ireturn dX0_cost_40 (Or.inl rfl)
def fBooks_cost (d1 : Nat) (s : MI) : Option (Int) :=
  Option.bind (fState_tierOf (s d1 0) s) (fun p1 => Option.bind (fDesk_isTier p1) (fun p4 => (if sm_w p4 = 0 then some 0 else if 0 ≤ sm_w p1 ∧ sm_w p1 < 3 then (if sm_w (s d1 10) = 0 then fBooks_cost_j36 0 (sl_cost (sm_w p1).toNat) 0 s else fBooks_cost_j36 0 (sl_cost (sm_w p1).toNat) 5 s) else none)))
set_option maxRecDepth 100000 in
set_option maxHeartbeats 4000000 in
theorem bBooks_cost {G : GT} {E : ET} {o : Nat} {s mi : MI} {d1 : Nat} {w : Int} (g : gS E o) (gk : gK E mi) (gd1 : gO 0 E (o + d1)) (hd1 : d1 + 1 ≤ 61) (h : fBooks_cost d1 s = some w) : cN G yX0_cost cX0_cost 3 (some .int) 2 42 [.inr o, .inr (o + d1)] E (sm_gl o 61 s mi) (some (.inl w), E, (sm_gl o 61 s mi)) := by
  have hN1 := g.1
  have hN2 := g.2.1
  unfold fBooks_cost at h
  refine sm_meth (by decide +kernel) (Nat.le_of_ble_eq_true rfl) ?_
  show sM (xBooks_cost G) 0 [some (.inr o), some (.inr (o + d1)), none] [] E (sm_gl o 61 s mi) _
  refine sm_aload_n dX0_cost_0 rfl ?_
  refine sm_aload_n dX0_cost_1 rfl ?_
  refine sl_getI (D := d1) lf_RX0_25 fI_0_0 gd1.2.2 rfl (by omega) hN2 dX0_cost_2 ?_
  obtain ⟨p1, hp2, h⟩ := sl_bind h
  have hc3 := bState_tierOf (G := G) (E := E) (o := o) (s := s) (mi := mi) g  hp2
  refine sc_callV1 (avs := [.inl (s d1 0)]) (st := []) lk_RX0_52 rfl vf_X7_tierOf hc3 ⟨(Nat.le_of_ble_eq_true rfl), (Nat.le_of_ble_eq_true rfl)⟩ ⟨rfl, (Nat.le_of_ble_eq_true rfl)⟩ g.2.2.1 (by omega) rfl dX0_cost_5 ?_
  refine sm_istore_n dX0_cost_8 (Nat.le_of_ble_eq_true rfl) ?_
  refine sm_iload_n dX0_cost_9 rfl ?_
  obtain ⟨p4, hp5, h⟩ := sl_bind h
  have hc6 := bDesk_isTier (G := G) (E := E) (mi := (sm_gl o 61 s mi))   hp5
  refine sc_callS1 (avs := [.inl p1]) (st := []) lk_RX0_55 rfl sf_X9_isTier hc6 ⟨(Nat.le_of_ble_eq_true rfl), (Nat.le_of_ble_eq_true rfl)⟩ ⟨rfl, (Nat.le_of_ble_eq_true rfl)⟩ rfl dX0_cost_10 ?_
  refine sm_if_ne 18 dX0_cost_13 rfl (fun c9 => ?_) (fun c9 => ?_)
  · rw [if_neg c9] at h
    refine sm_iconst dX0_cost_18 ?_
    refine sm_static rfl (Or.inl ⟨rfl, lg_RX0_59, rfl⟩) dX0_cost_19 ?_
    refine sm_iload_n dX0_cost_22 rfl ?_
    obtain ⟨q7, h⟩ := sl_guard h
    have xq7 := (sl_ix (m := 3) q7).2
    refine sl_costs gk hN1 q7 dX0_cost_23 ?_
    refine sm_aload_n dX0_cost_24 rfl ?_
    refine sl_getI (D := d1) lf_RX0_48 fI_0_10 gd1.2.2 rfl (by omega) hN2 dX0_cost_25 ?_
    refine sm_if_eq 35 dX0_cost_28 rfl (fun c8 => ?_) (fun c8 => ?_)
    · rw [if_pos c8] at h
      refine sm_iconst dX0_cost_35 ?_
      exact sm_less (lv' := [none, none, none]) trivial (bBooks_cost_j36 g gk   h)
    · rw [if_neg c8] at h
      refine sm_iconst dX0_cost_31 ?_
      refine sm_goto 36 dX0_cost_32 rfl ?_
      exact sm_less (lv' := [none, none, none]) trivial (bBooks_cost_j36 g gk   h)
  · rw [if_pos c9] at h
    refine sm_iconst dX0_cost_16 ?_
    cases h
    exact sm_ireturn dX0_cost_17 (Or.inl rfl)
abbrev xBooks_amount (G : GT) : XT := (G, yX0_amount.cls, cX0_amount, 3, (some .int), decide (yX0_amount.name = "<init>"), 3, 64)
def fBooks_amount (z1 : Int) (d2 : Nat) (s : MI) : Option (Int) :=
  (if 0 ≤ sm_w z1 ∧ sm_w z1 ≤ 5 then (if sm_w z1 = 0 then some 1 else (if sm_w z1 = 1 then Option.bind (fBreakdown_waited (s 0 11) (sm_lo d2 s)) (fun p4 => some p4) else (if sm_w z1 = 2 then (if sm_w (s d2 5) = 5 then Option.bind (fBooks_cost d2 s) (fun p9 => some p9) else some 0) else (if sm_w z1 = 3 then Option.bind (fBreakdown_isLate (sm_lo d2 s)) (fun p15 => (if sm_w p15 = 0 then some 0 else some 15)) else (if sm_w z1 = 4 then (if sm_w (s d2 10) = 0 then some 0 else some 1) else Option.bind (fBreakdown_isLate (sm_lo d2 s)) (fun p24 => (if sm_w p24 = 0 then some 0 else some 1))))))) else some 0)
set_option maxRecDepth 100000 in
set_option maxHeartbeats 4000000 in
theorem bBooks_amount {G : GT} {E : ET} {o : Nat} {s mi : MI} {z1 : Int} {d2 : Nat} {w : Int} (g : gS E o) (gk : gK E mi) (gd2 : gO 0 E (o + d2)) (hd2 : d2 + 1 ≤ 61) (h : fBooks_amount z1 d2 s = some w) : cN G yX0_amount cX0_amount 3 (some .int) 3 64 [.inr o, .inl z1, .inr (o + d2)] E (sm_gl o 61 s mi) (some (.inl w), E, (sm_gl o 61 s mi)) := by
  have hN1 := g.1
  have hN2 := g.2.1
  unfold fBooks_amount at h
  refine sm_meth (by decide +kernel) (Nat.le_of_ble_eq_true rfl) ?_
  show sM (xBooks_amount G) 0 [some (.inr o), some (.inl z1), some (.inr (o + d2))] [] E (sm_gl o 61 s mi) _
  refine sm_iload_n dX0_amount_0 rfl ?_
  by_cases c1 : 0 ≤ sm_w z1 ∧ sm_w z1 ≤ 5
  · rw [if_pos c1] at h
    by_cases c2 : sm_w z1 = 0
    · rw [if_pos c2] at h
      refine sm_table dX0_amount_1 40 (Or.inr ⟨⟨by omega, by omega⟩, _, (by rw [c2]; rfl), rfl⟩) ?_
      refine sm_iconst dX0_amount_40 ?_
      cases h
      exact sm_ireturn dX0_amount_41 (Or.inl rfl)
    · rw [if_neg c2] at h
      have l3 := sl_nx c1.1 c2 (b := 1) rfl
      by_cases c7 : sm_w z1 = 1
      · rw [if_pos c7] at h
        refine sm_table dX0_amount_1 42 (Or.inr ⟨⟨by omega, by omega⟩, _, (by rw [c7]; rfl), rfl⟩) ?_
        refine sm_aload_n dX0_amount_42 rfl ?_
        refine sm_aload_n dX0_amount_43 rfl ?_
        refine sl_getI (D := 0) lf_RX0_30 fI_5_11 g.2.2.1 rfl (by omega) hN2 dX0_amount_44 ?_
        obtain ⟨p4, hp5, h⟩ := sl_bind h
        have hc6 := bBreakdown_waited (G := G) (E := E) (o := o + d2) (s := (sm_lo d2 s)) (mi := (sm_gl o 61 s mi)) gd2  hp5
        rw [gl_in (o := o) (D := d2) (ha := (rfl : o + d2 = o + d2)) (hD := (by omega : d2 + 1 ≤ 61))] at hc6
        refine sc_callV1 (avs := [.inl (s 0 11)]) (st := []) lk_RX0_33 rfl vf_X1_waited hc6 ⟨(Nat.le_of_ble_eq_true rfl), (Nat.le_of_ble_eq_true rfl)⟩ ⟨rfl, (Nat.le_of_ble_eq_true rfl)⟩ gd2.2.2 (by omega) rfl dX0_amount_47 ?_
        cases h
        exact sm_ireturn dX0_amount_50 (Or.inl rfl)
      · rw [if_neg c7] at h
        have l8 := sl_nx l3 c7 (b := 2) rfl
        by_cases c13 : sm_w z1 = 2
        · rw [if_pos c13] at h
          refine sm_table dX0_amount_1 51 (Or.inr ⟨⟨by omega, by omega⟩, _, (by rw [c13]; rfl), rfl⟩) ?_
          refine sm_aload_n dX0_amount_51 rfl ?_
          refine sl_getI (D := d2) lf_RX0_37 fI_0_5 gd2.2.2 rfl (by omega) hN2 dX0_amount_52 ?_
          refine sm_iconst dX0_amount_55 ?_
          refine sc_icmp_ne (X' := sm_w (s d2 5)) (Y' := 5) 67 dX0_amount_56 rfl rfl (by decide) (fun c12 => ?_) (fun c12 => ?_)
          · rw [if_neg c12] at h
            refine sm_iconst dX0_amount_67 ?_
            cases h
            exact sm_ireturn dX0_amount_68 (Or.inl rfl)
          · rw [if_pos c12] at h
            refine sm_aload_n dX0_amount_59 rfl ?_
            refine sm_aload_n dX0_amount_60 rfl ?_
            obtain ⟨p9, hp10, h⟩ := sl_bind h
            have hc11 := bBooks_cost (G := G) (E := E) (o := o) (s := s) (mi := mi) g gk gd2 (by omega) hp10
            refine sc_callS1 (avs := [.inr o, .inr (o + d2)]) (st := []) lk_RX0_40 rfl sf_X0_cost hc11 ⟨(Nat.le_of_ble_eq_true rfl), (Nat.le_of_ble_eq_true rfl)⟩ ⟨rfl, (Nat.le_of_ble_eq_true rfl)⟩ rfl dX0_amount_61 ?_
            refine sm_goto 68 dX0_amount_64 rfl ?_
            cases h
            exact sm_ireturn dX0_amount_68 (Or.inl rfl)
        · rw [if_neg c13] at h
          have l14 := sl_nx l8 c13 (b := 3) rfl
          by_cases c19 : sm_w z1 = 3
          · rw [if_pos c19] at h
            refine sm_table dX0_amount_1 69 (Or.inr ⟨⟨by omega, by omega⟩, _, (by rw [c19]; rfl), rfl⟩) ?_
            refine sm_aload_n dX0_amount_69 rfl ?_
            obtain ⟨p15, hp16, h⟩ := sl_bind h
            have hc17 := bBreakdown_isLate (G := G) (E := E) (o := o + d2) (s := (sm_lo d2 s)) (mi := (sm_gl o 61 s mi)) gd2  hp16
            rw [gl_in (o := o) (D := d2) (ha := (rfl : o + d2 = o + d2)) (hD := (by omega : d2 + 1 ≤ 61))] at hc17
            refine sc_callV1 (avs := []) (st := []) lk_RX0_44 rfl vf_X1_isLate hc17 ⟨(Nat.le_of_ble_eq_true rfl), (Nat.le_of_ble_eq_true rfl)⟩ ⟨rfl, (Nat.le_of_ble_eq_true rfl)⟩ gd2.2.2 (by omega) rfl dX0_amount_70 ?_
            refine sm_if_eq 81 dX0_amount_73 rfl (fun c18 => ?_) (fun c18 => ?_)
            · rw [if_pos c18] at h
              refine sm_iconst dX0_amount_81 ?_
              cases h
              exact sm_ireturn dX0_amount_82 (Or.inl rfl)
            · rw [if_neg c18] at h
              refine sm_bipush dX0_amount_76 rfl ?_
              refine sm_goto 82 dX0_amount_78 rfl ?_
              cases h
              exact sm_ireturn dX0_amount_82 (Or.inl rfl)
          · rw [if_neg c19] at h
            have l20 := sl_nx l14 c19 (b := 4) rfl
            by_cases c22 : sm_w z1 = 4
            · rw [if_pos c22] at h
              refine sm_table dX0_amount_1 83 (Or.inr ⟨⟨by omega, by omega⟩, _, (by rw [c22]; rfl), rfl⟩) ?_
              refine sm_aload_n dX0_amount_83 rfl ?_
              refine sl_getI (D := d2) lf_RX0_48 fI_0_10 gd2.2.2 rfl (by omega) hN2 dX0_amount_84 ?_
              refine sm_if_eq 94 dX0_amount_87 rfl (fun c21 => ?_) (fun c21 => ?_)
              · rw [if_pos c21] at h
                refine sm_iconst dX0_amount_94 ?_
                cases h
                exact sm_ireturn dX0_amount_95 (Or.inl rfl)
              · rw [if_neg c21] at h
                refine sm_iconst dX0_amount_90 ?_
                refine sm_goto 95 dX0_amount_91 rfl ?_
                cases h
                exact sm_ireturn dX0_amount_95 (Or.inl rfl)
            · rw [if_neg c22] at h
              have l23 := sl_nx l20 c22 (b := 5) rfl
              have c28 : sm_w z1 = 5 := by omega
              refine sm_table dX0_amount_1 96 (Or.inr ⟨⟨by omega, by omega⟩, _, (by rw [c28]; rfl), rfl⟩) ?_
              refine sm_aload_n dX0_amount_96 rfl ?_
              obtain ⟨p24, hp25, h⟩ := sl_bind h
              have hc26 := bBreakdown_isLate (G := G) (E := E) (o := o + d2) (s := (sm_lo d2 s)) (mi := (sm_gl o 61 s mi)) gd2  hp25
              rw [gl_in (o := o) (D := d2) (ha := (rfl : o + d2 = o + d2)) (hD := (by omega : d2 + 1 ≤ 61))] at hc26
              refine sc_callV1 (avs := []) (st := []) lk_RX0_44 rfl vf_X1_isLate hc26 ⟨(Nat.le_of_ble_eq_true rfl), (Nat.le_of_ble_eq_true rfl)⟩ ⟨rfl, (Nat.le_of_ble_eq_true rfl)⟩ gd2.2.2 (by omega) rfl dX0_amount_97 ?_
              refine sm_if_eq 107 dX0_amount_100 rfl (fun c27 => ?_) (fun c27 => ?_)
              · rw [if_pos c27] at h
                refine sm_iconst dX0_amount_107 ?_
                cases h
                exact sm_ireturn dX0_amount_108 (Or.inl rfl)
              · rw [if_neg c27] at h
                refine sm_iconst dX0_amount_103 ?_
                refine sm_goto 108 dX0_amount_104 rfl ?_
                cases h
                exact sm_ireturn dX0_amount_108 (Or.inl rfl)
  · rw [if_neg c1] at h
    refine sm_table dX0_amount_1 109 (Or.inl ⟨by omega, rfl⟩) ?_
    refine sm_iconst dX0_amount_109 ?_
    cases h
    exact sm_ireturn dX0_amount_110 (Or.inl rfl)
abbrev xBooks_ofMember (G : GT) : XT := (G, yX0_ofMember.cls, cX0_ofMember, 5, (some .int), decide (yX0_ofMember.name = "<init>"), 4, 86)
abbrev qBooks_ofMember_l5 (G : GT) (E : ET) (o : Nat) (mi : MI) (z1 : Int) (z2 : Int) (s : MI) (r : RT) (t : Int × Int) : Prop := sM (xBooks_ofMember G) 5 [some (.inr o), some (.inl z1), some (.inl z2), some (.inl t.1), some (.inl t.2)] [] E (sm_gl o 61 s mi) r
abbrev kBooks_ofMember_l5 (G : GT) (E : ET) (o : Nat) (mi : MI) (z1 : Int) (z2 : Int) (s : MI) (r : RT) (x : Int) : Prop := sM (xBooks_ofMember G) 56 [none, none, none, some (.inl x), none] [] E (sm_gl o 61 s mi) r
def fBooks_ofMember_j50_l5 (z1 : Int) (z2 : Int) (z3 : Int) (z4 : Int) (s : MI) : Option ((Int × Int) ⊕ (Int)) :=
  some (.inl (z3, (z4 + 1)))
set_option maxRecDepth 100000 in
set_option maxHeartbeats 4000000 in
theorem bBooks_ofMember_j50_l5 {G : GT} {E : ET} {o : Nat} {s mi : MI} {z1 : Int} {z2 : Int} {z3 : Int} {z4 : Int} {r : RT} {w : (Int × Int) ⊕ (Int)} (g : gS E o) (gk : gK E mi)  (h : fBooks_ofMember_j50_l5 z1 z2 z3 z4 s = some w) (hK : Sum.elim (qBooks_ofMember_l5 G E o mi z1 z2 s r) (kBooks_ofMember_l5 G E o mi z1 z2 s r) w) : sM (xBooks_ofMember G) 50 [some (.inr o), some (.inl z1), some (.inl z2), some (.inl z3), some (.inl z4)] [] E (sm_gl o 61 s mi) r := by
  have hN1 := g.1
  have hN2 := g.2.1
  unfold fBooks_ofMember_j50_l5 at h
  refine sm_iinc dX0_ofMember_50 (Nat.le_of_ble_eq_true rfl) rfl ?_
  refine sm_goto 5 dX0_ofMember_53 rfl ?_
  cases h
  exact sm_less (lv' := [some (.inr o), some (.inl z1), some (.inl z2), some (.inl z3), some (.inl (z4 + 1))]) ⟨rfl, rfl, rfl, rfl, rfl, trivial⟩ hK
def fBooks_ofMember_l5 (z1 : Int) (z2 : Int) (z3 : Int) (z4 : Int) (s : MI) : Option ((Int × Int) ⊕ (Int)) :=
  (if sm_w (s 0 8) ≤ sm_w z4 then some (.inr z3) else (if 40 ≤ sm_w z4 then some (.inr z3) else if 0 ≤ sm_w z4 ∧ sm_w z4 < 40 then (if sm_w (s (21 + (sm_w z4).toNat) 0) = sm_w z2 then Option.bind (fBooks_amount z1 (21 + (sm_w z4).toNat) s) (fun p4 => fBooks_ofMember_j50_l5 z1 z2 (z3 + p4) z4 s) else fBooks_ofMember_j50_l5 z1 z2 z3 z4 s) else none))
set_option maxRecDepth 100000 in
set_option maxHeartbeats 4000000 in
theorem bBooks_ofMember_l5 {G : GT} {E : ET} {o : Nat} {s mi : MI} {z1 : Int} {z2 : Int} {z3 : Int} {z4 : Int} {r : RT} {w : (Int × Int) ⊕ (Int)} (g : gS E o) (gk : gK E mi)  (h : fBooks_ofMember_l5 z1 z2 z3 z4 s = some w) (hK : Sum.elim (qBooks_ofMember_l5 G E o mi z1 z2 s r) (kBooks_ofMember_l5 G E o mi z1 z2 s r) w) : qBooks_ofMember_l5 G E o mi z1 z2 s r (z3, z4) := by
  have hN1 := g.1
  have hN2 := g.2.1
  unfold fBooks_ofMember_l5 at h
  show sM (xBooks_ofMember G) 5 [some (.inr o), some (.inl z1), some (.inl z2), some (.inl z3), some (.inl z4)] [] E (sm_gl o 61 s mi) r
  refine sm_iload dX0_ofMember_5 rfl ?_
  refine sm_aload_n dX0_ofMember_7 rfl ?_
  refine sl_getI (D := 0) lf_RX0_9 fI_5_8 g.2.2.1 rfl (by omega) hN2 dX0_ofMember_8 ?_
  refine sc_icmp_ge (X' := sm_w z4) (Y' := sm_w (s 0 8)) 56 dX0_ofMember_11 rfl rfl rfl (fun c9 => ?_) (fun c9 => ?_)
  · rw [if_pos c9] at h
    cases h
    exact sm_less (lv' := [none, none, none, some (.inl z3), none]) ⟨rfl, trivial⟩ hK
  · rw [if_neg c9] at h
    refine sm_iload dX0_ofMember_14 rfl ?_
    refine sm_bipush dX0_ofMember_16 rfl ?_
    refine sc_icmp_ge (X' := sm_w z4) (Y' := 40) 56 dX0_ofMember_18 rfl rfl (by decide) (fun c8 => ?_) (fun c8 => ?_)
    · rw [if_pos c8] at h
      cases h
      exact sm_less (lv' := [none, none, none, some (.inl z3), none]) ⟨rfl, trivial⟩ hK
    · rw [if_neg c8] at h
      refine sm_aload_n dX0_ofMember_21 rfl ?_
      refine sm_getR lf_RX0_15 fR_5_7 g.2.2.1 (by omega) g.2.2.2.2.2.2.2.1.1.2 dX0_ofMember_22 ?_
      refine sm_iload dX0_ofMember_25 rfl ?_
      obtain ⟨q1, h⟩ := sl_guard h
      have xq1 := (sl_ix (m := 40) q1).2
      have e2 := g.2.2.2.2.2.2.2.1.2 (sm_w z4).toNat xq1
      refine sl_aald (k := (sm_w z4).toNat) (Or.inr (Or.inr (Or.inl rfl))) g.2.2.2.2.2.2.2.1.1.1 (by omega) (sl_ix (m := 40) q1) e2.1 dX0_ofMember_27 ?_
      refine sl_getI (D := (21 + (sm_w z4).toNat)) lf_RX0_25 fI_0_0 e2.2.2.2 rfl (by omega) hN2 dX0_ofMember_28 ?_
      refine sm_iload_n dX0_ofMember_31 rfl ?_
      refine sc_icmp_ne (X' := sm_w (s (21 + (sm_w z4).toNat) 0)) (Y' := sm_w z2) 50 dX0_ofMember_32 rfl rfl rfl (fun c7 => ?_) (fun c7 => ?_)
      · rw [if_neg c7] at h
        exact sm_less (lv' := [some (.inr o), some (.inl z1), some (.inl z2), some (.inl z3), some (.inl z4)]) ⟨rfl, rfl, rfl, rfl, rfl, trivial⟩ (bBooks_ofMember_j50_l5 g gk   h hK)
      · rw [if_pos c7] at h
        refine sm_iload_n dX0_ofMember_35 rfl ?_
        refine sm_aload_n dX0_ofMember_36 rfl ?_
        refine sm_iload_n dX0_ofMember_37 rfl ?_
        refine sm_aload_n dX0_ofMember_38 rfl ?_
        refine sm_getR lf_RX0_15 fR_5_7 g.2.2.1 (by omega) g.2.2.2.2.2.2.2.1.1.2 dX0_ofMember_39 ?_
        refine sm_iload dX0_ofMember_42 rfl ?_
        have e3 := g.2.2.2.2.2.2.2.1.2 (sm_w z4).toNat xq1
        refine sl_aald (k := (sm_w z4).toNat) (Or.inr (Or.inr (Or.inl rfl))) g.2.2.2.2.2.2.2.1.1.1 (by omega) (sl_ix (m := 40) q1) e3.1 dX0_ofMember_44 ?_
        obtain ⟨p4, hp5, h⟩ := sl_bind h
        have hc6 := bBooks_amount (G := G) (E := E) (o := o) (s := s) (mi := mi) g gk e3.2 (by omega) hp5
        refine sc_callS1 (avs := [.inr o, .inl z1, .inr (o + (21 + (sm_w z4).toNat))]) (st := [.inl z3]) lk_RX0_19 rfl sf_X0_amount hc6 ⟨(Nat.le_of_ble_eq_true rfl), (Nat.le_of_ble_eq_true rfl)⟩ ⟨rfl, (Nat.le_of_ble_eq_true rfl)⟩ rfl dX0_ofMember_45 ?_
        refine sm_iadd dX0_ofMember_48 ?_
        refine sm_istore_n dX0_ofMember_49 (Nat.le_of_ble_eq_true rfl) ?_
        exact sm_less (lv' := [some (.inr o), some (.inl z1), some (.inl z2), some (.inl (z3 + p4)), some (.inl z4)]) ⟨rfl, rfl, rfl, rfl, rfl, trivial⟩ (bBooks_ofMember_j50_l5 g gk   h hK)
def fBooks_ofMember (z1 : Int) (z2 : Int) (s : MI) : Option (Int) :=
  Option.bind (sl_it (fun (t : Int × Int) => fBooks_ofMember_l5 z1 z2 t.1 t.2 s) sl_fu (0, 0)) (fun x12 => some x12)
set_option maxRecDepth 100000 in
set_option maxHeartbeats 4000000 in
theorem bBooks_ofMember {G : GT} {E : ET} {o : Nat} {s mi : MI} {z1 : Int} {z2 : Int} {w : Int} (g : gS E o) (gk : gK E mi)  (h : fBooks_ofMember z1 z2 s = some w) : cN G yX0_ofMember cX0_ofMember 5 (some .int) 4 86 [.inr o, .inl z1, .inl z2] E (sm_gl o 61 s mi) (some (.inl w), E, (sm_gl o 61 s mi)) := by
  have hN1 := g.1
  have hN2 := g.2.1
  unfold fBooks_ofMember at h
  refine sm_meth (by decide +kernel) (Nat.le_of_ble_eq_true rfl) ?_
  show sM (xBooks_ofMember G) 0 [some (.inr o), some (.inl z1), some (.inl z2), none, none] [] E (sm_gl o 61 s mi) _
  refine sm_iconst dX0_ofMember_0 ?_
  refine sm_istore_n dX0_ofMember_1 (Nat.le_of_ble_eq_true rfl) ?_
  refine sm_iconst dX0_ofMember_2 ?_
  refine sm_istore dX0_ofMember_3 (Nat.le_of_ble_eq_true rfl) ?_
  obtain ⟨x12, hy11, h⟩ := sl_bind h
  refine sm_less (lv' := [some (.inr o), some (.inl z1), some (.inl z2), some (.inl 0), some (.inl 0)]) ⟨rfl, rfl, rfl, rfl, rfl, trivial⟩ (sl_itE (P := qBooks_ofMember_l5 G E o mi z1 z2 s _) (K := kBooks_ofMember_l5 G E o mi z1 z2 s _) (fun t q hq hk => bBooks_ofMember_l5 g gk  hq hk) sl_fu _ x12 hy11 ?_)
  show sM (xBooks_ofMember G) 56 [none, none, none, some (.inl x12), none] [] E (sm_gl o 61 s mi) _
  refine sm_iload_n dX0_ofMember_56 rfl ?_
  cases h
  exact sm_ireturn dX0_ofMember_57 (Or.inl rfl)
abbrev xBooks_ofAll (G : GT) : XT := (G, yX0_ofAll.cls, cX0_ofAll, 4, (some .int), decide (yX0_ofAll.name = "<init>"), 4, 86)
abbrev qBooks_ofAll_l4 (G : GT) (E : ET) (o : Nat) (mi : MI) (z1 : Int) (s : MI) (r : RT) (t : Int × Int) : Prop := sM (xBooks_ofAll G) 4 [some (.inr o), some (.inl z1), some (.inl t.1), some (.inl t.2)] [] E (sm_gl o 61 s mi) r
abbrev kBooks_ofAll_l4 (G : GT) (E : ET) (o : Nat) (mi : MI) (z1 : Int) (s : MI) (r : RT) (x : Int) : Prop := sM (xBooks_ofAll G) 38 [none, none, some (.inl x), none] [] E (sm_gl o 61 s mi) r
def fBooks_ofAll_l4 (z1 : Int) (z2 : Int) (z3 : Int) (s : MI) : Option ((Int × Int) ⊕ (Int)) :=
  (if sm_w (s 0 8) ≤ sm_w z3 then some (.inr z2) else (if 40 ≤ sm_w z3 then some (.inr z2) else if 0 ≤ sm_w z3 ∧ sm_w z3 < 40 then Option.bind (fBooks_amount z1 (21 + (sm_w z3).toNat) s) (fun p3 => some (.inl ((z2 + p3), (z3 + 1)))) else none))
set_option maxRecDepth 100000 in
set_option maxHeartbeats 4000000 in
theorem bBooks_ofAll_l4 {G : GT} {E : ET} {o : Nat} {s mi : MI} {z1 : Int} {z2 : Int} {z3 : Int} {r : RT} {w : (Int × Int) ⊕ (Int)} (g : gS E o) (gk : gK E mi)  (h : fBooks_ofAll_l4 z1 z2 z3 s = some w) (hK : Sum.elim (qBooks_ofAll_l4 G E o mi z1 s r) (kBooks_ofAll_l4 G E o mi z1 s r) w) : qBooks_ofAll_l4 G E o mi z1 s r (z2, z3) := by
  have hN1 := g.1
  have hN2 := g.2.1
  unfold fBooks_ofAll_l4 at h
  show sM (xBooks_ofAll G) 4 [some (.inr o), some (.inl z1), some (.inl z2), some (.inl z3)] [] E (sm_gl o 61 s mi) r
  refine sm_iload_n dX0_ofAll_4 rfl ?_
  refine sm_aload_n dX0_ofAll_5 rfl ?_
  refine sl_getI (D := 0) lf_RX0_9 fI_5_8 g.2.2.1 rfl (by omega) hN2 dX0_ofAll_6 ?_
  refine sc_icmp_ge (X' := sm_w z3) (Y' := sm_w (s 0 8)) 38 dX0_ofAll_9 rfl rfl rfl (fun c7 => ?_) (fun c7 => ?_)
  · rw [if_pos c7] at h
    cases h
    exact sm_less (lv' := [none, none, some (.inl z2), none]) ⟨rfl, trivial⟩ hK
  · rw [if_neg c7] at h
    refine sm_iload_n dX0_ofAll_12 rfl ?_
    refine sm_bipush dX0_ofAll_13 rfl ?_
    refine sc_icmp_ge (X' := sm_w z3) (Y' := 40) 38 dX0_ofAll_15 rfl rfl (by decide) (fun c6 => ?_) (fun c6 => ?_)
    · rw [if_pos c6] at h
      cases h
      exact sm_less (lv' := [none, none, some (.inl z2), none]) ⟨rfl, trivial⟩ hK
    · rw [if_neg c6] at h
      refine sm_iload_n dX0_ofAll_18 rfl ?_
      refine sm_aload_n dX0_ofAll_19 rfl ?_
      refine sm_iload_n dX0_ofAll_20 rfl ?_
      refine sm_aload_n dX0_ofAll_21 rfl ?_
      refine sm_getR lf_RX0_15 fR_5_7 g.2.2.1 (by omega) g.2.2.2.2.2.2.2.1.1.2 dX0_ofAll_22 ?_
      refine sm_iload_n dX0_ofAll_25 rfl ?_
      obtain ⟨q1, h⟩ := sl_guard h
      have xq1 := (sl_ix (m := 40) q1).2
      have e2 := g.2.2.2.2.2.2.2.1.2 (sm_w z3).toNat xq1
      refine sl_aald (k := (sm_w z3).toNat) (Or.inr (Or.inr (Or.inl rfl))) g.2.2.2.2.2.2.2.1.1.1 (by omega) (sl_ix (m := 40) q1) e2.1 dX0_ofAll_26 ?_
      obtain ⟨p3, hp4, h⟩ := sl_bind h
      have hc5 := bBooks_amount (G := G) (E := E) (o := o) (s := s) (mi := mi) g gk e2.2 (by omega) hp4
      refine sc_callS1 (avs := [.inr o, .inl z1, .inr (o + (21 + (sm_w z3).toNat))]) (st := [.inl z2]) lk_RX0_19 rfl sf_X0_amount hc5 ⟨(Nat.le_of_ble_eq_true rfl), (Nat.le_of_ble_eq_true rfl)⟩ ⟨rfl, (Nat.le_of_ble_eq_true rfl)⟩ rfl dX0_ofAll_27 ?_
      refine sm_iadd dX0_ofAll_30 ?_
      refine sm_istore_n dX0_ofAll_31 (Nat.le_of_ble_eq_true rfl) ?_
      refine sm_iinc dX0_ofAll_32 (Nat.le_of_ble_eq_true rfl) rfl ?_
      refine sm_goto 4 dX0_ofAll_35 rfl ?_
      cases h
      exact sm_less (lv' := [some (.inr o), some (.inl z1), some (.inl (z2 + p3)), some (.inl (z3 + 1))]) ⟨rfl, rfl, rfl, rfl, trivial⟩ hK
def fBooks_ofAll (z1 : Int) (s : MI) : Option (Int) :=
  Option.bind (sl_it (fun (t : Int × Int) => fBooks_ofAll_l4 z1 t.1 t.2 s) sl_fu (0, 0)) (fun x10 => some x10)
set_option maxRecDepth 100000 in
set_option maxHeartbeats 4000000 in
theorem bBooks_ofAll {G : GT} {E : ET} {o : Nat} {s mi : MI} {z1 : Int} {w : Int} (g : gS E o) (gk : gK E mi)  (h : fBooks_ofAll z1 s = some w) : cN G yX0_ofAll cX0_ofAll 4 (some .int) 4 86 [.inr o, .inl z1] E (sm_gl o 61 s mi) (some (.inl w), E, (sm_gl o 61 s mi)) := by
  have hN1 := g.1
  have hN2 := g.2.1
  unfold fBooks_ofAll at h
  refine sm_meth (by decide +kernel) (Nat.le_of_ble_eq_true rfl) ?_
  show sM (xBooks_ofAll G) 0 [some (.inr o), some (.inl z1), none, none] [] E (sm_gl o 61 s mi) _
  refine sm_iconst dX0_ofAll_0 ?_
  refine sm_istore_n dX0_ofAll_1 (Nat.le_of_ble_eq_true rfl) ?_
  refine sm_iconst dX0_ofAll_2 ?_
  refine sm_istore_n dX0_ofAll_3 (Nat.le_of_ble_eq_true rfl) ?_
  obtain ⟨x10, hy9, h⟩ := sl_bind h
  refine sm_less (lv' := [some (.inr o), some (.inl z1), some (.inl 0), some (.inl 0)]) ⟨rfl, rfl, rfl, rfl, trivial⟩ (sl_itE (P := qBooks_ofAll_l4 G E o mi z1 s _) (K := kBooks_ofAll_l4 G E o mi z1 s _) (fun t q hq hk => bBooks_ofAll_l4 g gk  hq hk) sl_fu _ x10 hy9 ?_)
  show sM (xBooks_ofAll G) 38 [none, none, some (.inl x10), none] [] E (sm_gl o 61 s mi) _
  refine sm_iload_n dX0_ofAll_38 rfl ?_
  cases h
  exact sm_ireturn dX0_ofAll_39 (Or.inl rfl)
