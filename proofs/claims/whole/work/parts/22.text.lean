abbrev xText_append (G : GT) : XT := (G, yX2_append.cls, cX2_append, 2, (some .boolean), decide (yX2_append.name = "<init>"), 0, 0)
def fText_append (z1 : Int) (s : MI) : Option (Int × MI) :=
  (if sm_w (s 0 1) < 60 then if 0 ≤ sm_w (s 0 1) ∧ sm_w (s 0 1) < 60 then if 0 ≤ z1 ∧ z1 < 65536 then Option.bind (some (sm_up s 1 (sm_w (s 0 1)).toNat z1)) (fun s3 => Option.bind (some (sm_up s3 0 1 ((s3 0 1) + 1))) (fun s5 => some (1, s5))) else none else none else some (0, s))
set_option maxRecDepth 100000 in
set_option maxHeartbeats 4000000 in
theorem bText_append {G : GT} {E : ET} {o : Nat} {s mi : MI} {z1 : Int} {w : Int × MI} (g : gT E o)  (h : fText_append z1 s = some w) : cN G yX2_append cX2_append 2 (some .boolean) 0 0 [.inr o, .inl z1] E (sm_gl o 3 s mi) (some (.inl w.1), E, sm_gl o 3 w.2 mi) := by
  have hN1 := g.1
  have hN2 := g.2.1
  unfold fText_append at h
  refine sm_meth (by decide +kernel) (Nat.le_of_ble_eq_true rfl) ?_
  show sM (xText_append G) 0 [some (.inr o), some (.inl z1)] [] E (sm_gl o 3 s mi) _
  refine sm_aload_n dX2_append_0 rfl ?_
  refine sl_getI (D := 0) lf_RX2_19 fI_1_1 g.2.2.1 rfl (by omega) hN2 dX2_append_1 ?_
  refine sm_bipush dX2_append_4 rfl ?_
  refine sc_icmp_lt (X' := sm_w (s 0 1)) (Y' := 60) 11 dX2_append_6 rfl rfl (by decide) (fun c7 => ?_) (fun c7 => ?_)
  · rw [if_pos c7] at h
    refine sm_aload_n dX2_append_11 rfl ?_
    refine sm_getR lf_RX2_9 fR_1_0 g.2.2.1 (by omega) g.2.2.2.1.2 dX2_append_12 ?_
    refine sm_aload_n dX2_append_15 rfl ?_
    refine sl_getI (D := 0) lf_RX2_19 fI_1_1 g.2.2.1 rfl (by omega) hN2 dX2_append_16 ?_
    refine sm_iload_n dX2_append_19 rfl ?_
    obtain ⟨q1, h⟩ := sl_guard h
    have xq1 := (sl_ix (m := 60) q1).2
    obtain ⟨q2, h⟩ := sl_guard h
    refine sl_castk (D := 1) (k := (sm_w (s 0 1)).toNat) g.2.2.2.1.1 rfl (by omega) ⟨hN1, hN2⟩ (sl_ix (m := 60) q1) q2 dX2_append_20 ?_
    obtain ⟨s3, hs4, h⟩ := sl_bind h
    rw [Option.some.inj hs4]
    refine sm_aload_n dX2_append_21 rfl ?_
    refine sm_dup dX2_append_22 ?_
    refine sl_getI (D := 0) lf_RX2_19 fI_1_1 g.2.2.1 rfl (by omega) hN2 dX2_append_23 ?_
    refine sm_iconst dX2_append_26 ?_
    refine sm_iadd dX2_append_27 ?_
    refine sl_putI (D := 0) lf_RX2_19 fP_1_1 (Or.inl rfl) g.2.2.1 rfl (by omega) ⟨hN1, hN2⟩ dX2_append_28 ?_
    obtain ⟨s5, hs6, h⟩ := sl_bind h
    rw [Option.some.inj hs6]
    refine sm_iconst dX2_append_31 ?_
    cases h
    exact sm_ireturn dX2_append_32 (Or.inr ⟨rfl, Or.inr rfl⟩)
  · rw [if_neg c7] at h
    refine sm_iconst dX2_append_9 ?_
    cases h
    exact sm_ireturn dX2_append_10 (Or.inr ⟨rfl, Or.inl rfl⟩)
abbrev xText_signAt (G : GT) : XT := (G, yX2_signAt.cls, cX2_signAt, 2, (some .int), decide (yX2_signAt.name = "<init>"), 0, 0)
def fText_signAt (z1 : Int) (s : MI) : Option (Int) :=
  (if sm_w z1 < 0 then some (-1) else (if sm_w (s 0 1) ≤ sm_w z1 then some (-1) else (if 60 ≤ sm_w z1 then some (-1) else if 0 ≤ sm_w z1 ∧ sm_w z1 < 60 then some (s 1 (sm_w z1).toNat) else none)))
set_option maxRecDepth 100000 in
set_option maxHeartbeats 4000000 in
theorem bText_signAt {G : GT} {E : ET} {o : Nat} {s mi : MI} {z1 : Int} {w : Int} (g : gT E o)  (h : fText_signAt z1 s = some w) : cN G yX2_signAt cX2_signAt 2 (some .int) 0 0 [.inr o, .inl z1] E (sm_gl o 3 s mi) (some (.inl w), E, (sm_gl o 3 s mi)) := by
  have hN1 := g.1
  have hN2 := g.2.1
  unfold fText_signAt at h
  refine sm_meth (by decide +kernel) (Nat.le_of_ble_eq_true rfl) ?_
  show sM (xText_signAt G) 0 [some (.inr o), some (.inl z1)] [] E (sm_gl o 3 s mi) _
  refine sm_iload_n dX2_signAt_0 rfl ?_
  refine sm_if_lt 27 dX2_signAt_1 rfl (fun c4 => ?_) (fun c4 => ?_)
  · rw [if_pos c4] at h
    refine sm_iconst dX2_signAt_27 ?_
    cases h
    exact sm_ireturn dX2_signAt_28 (Or.inl rfl)
  · rw [if_neg c4] at h
    refine sm_iload_n dX2_signAt_4 rfl ?_
    refine sm_aload_n dX2_signAt_5 rfl ?_
    refine sl_getI (D := 0) lf_RX2_19 fI_1_1 g.2.2.1 rfl (by omega) hN2 dX2_signAt_6 ?_
    refine sc_icmp_ge (X' := sm_w z1) (Y' := sm_w (s 0 1)) 27 dX2_signAt_9 rfl rfl rfl (fun c3 => ?_) (fun c3 => ?_)
    · rw [if_pos c3] at h
      refine sm_iconst dX2_signAt_27 ?_
      cases h
      exact sm_ireturn dX2_signAt_28 (Or.inl rfl)
    · rw [if_neg c3] at h
      refine sm_iload_n dX2_signAt_12 rfl ?_
      refine sm_bipush dX2_signAt_13 rfl ?_
      refine sc_icmp_ge (X' := sm_w z1) (Y' := 60) 27 dX2_signAt_15 rfl rfl (by decide) (fun c2 => ?_) (fun c2 => ?_)
      · rw [if_pos c2] at h
        refine sm_iconst dX2_signAt_27 ?_
        cases h
        exact sm_ireturn dX2_signAt_28 (Or.inl rfl)
      · rw [if_neg c2] at h
        refine sm_aload_n dX2_signAt_18 rfl ?_
        refine sm_getR lf_RX2_9 fR_1_0 g.2.2.1 (by omega) g.2.2.2.1.2 dX2_signAt_19 ?_
        refine sm_iload_n dX2_signAt_22 rfl ?_
        obtain ⟨q1, h⟩ := sl_guard h
        have xq1 := (sl_ix (m := 60) q1).2
        refine sl_caldk (D := 1) (k := (sm_w z1).toNat) g.2.2.2.1.1 rfl (by omega) hN2 (sl_ix (m := 60) q1) dX2_signAt_23 ?_
        refine sm_goto 28 dX2_signAt_24 rfl ?_
        cases h
        exact sm_ireturn dX2_signAt_28 (Or.inl rfl)
abbrev xText_isDigit (G : GT) : XT := (G, yX2_isDigit.cls, cX2_isDigit, 1, (some .boolean), decide (yX2_isDigit.name = "<init>"), 0, 0)
def fText_isDigit (z0 : Int) : Option (Int) :=
  (if sm_w z0 < 48 then some 0 else (if 57 < sm_w z0 then some 0 else some 1))
set_option maxRecDepth 100000 in
set_option maxHeartbeats 4000000 in
theorem bText_isDigit {G : GT} {E : ET} {mi : MI} {z0 : Int} {w : Int}   (h : fText_isDigit z0 = some w) : cN G yX2_isDigit cX2_isDigit 1 (some .boolean) 0 0 [.inl z0] E mi (some (.inl w), E, mi) := by
  unfold fText_isDigit at h
  refine sm_meth (by decide +kernel) (Nat.le_of_ble_eq_true rfl) ?_
  show sM (xText_isDigit G) 0 [some (.inl z0)] [] E mi _
  refine sm_iload_n dX2_isDigit_0 rfl ?_
  refine sm_bipush dX2_isDigit_1 rfl ?_
  refine sc_icmp_lt (X' := sm_w z0) (Y' := 48) 16 dX2_isDigit_3 rfl rfl (by decide) (fun c2 => ?_) (fun c2 => ?_)
  · rw [if_pos c2] at h
    refine sm_iconst dX2_isDigit_16 ?_
    cases h
    exact sm_ireturn dX2_isDigit_17 (Or.inr ⟨rfl, Or.inl rfl⟩)
  · rw [if_neg c2] at h
    refine sm_iload_n dX2_isDigit_6 rfl ?_
    refine sm_bipush dX2_isDigit_7 rfl ?_
    refine sc_icmp_gt (X' := sm_w z0) (Y' := 57) 16 dX2_isDigit_9 rfl rfl (by decide) (fun c1 => ?_) (fun c1 => ?_)
    · rw [if_pos c1] at h
      refine sm_iconst dX2_isDigit_16 ?_
      cases h
      exact sm_ireturn dX2_isDigit_17 (Or.inr ⟨rfl, Or.inl rfl⟩)
    · rw [if_neg c1] at h
      refine sm_iconst dX2_isDigit_12 ?_
      refine sm_goto 17 dX2_isDigit_13 rfl ?_
      cases h
      exact sm_ireturn dX2_isDigit_17 (Or.inr ⟨rfl, Or.inr rfl⟩)
abbrev xText_digitsAt (G : GT) : XT := (G, yX2_digitsAt.cls, cX2_digitsAt, 2, (some .int), decide (yX2_digitsAt.name = "<init>"), 1, 21)
def fText_digitsAt (z1 : Int) (s : MI) : Option (Int) :=
  Option.bind (fText_signAt z1 s) (fun p1 => Option.bind (fText_isDigit p1) (fun p4 => (if sm_w p4 = 0 then some 0 else Option.bind (fText_signAt z1 s) (fun p7 => (if sm_w p7 = 48 then some 1 else Option.bind (fText_signAt (z1 + 1) s) (fun p10 => Option.bind (fText_isDigit p10) (fun p13 => (if sm_w p13 = 0 then some 1 else some 2))))))))
set_option maxRecDepth 100000 in
set_option maxHeartbeats 4000000 in
theorem bText_digitsAt {G : GT} {E : ET} {o : Nat} {s mi : MI} {z1 : Int} {w : Int} (g : gT E o)  (h : fText_digitsAt z1 s = some w) : cN G yX2_digitsAt cX2_digitsAt 2 (some .int) 1 21 [.inr o, .inl z1] E (sm_gl o 3 s mi) (some (.inl w), E, (sm_gl o 3 s mi)) := by
  have hN1 := g.1
  have hN2 := g.2.1
  unfold fText_digitsAt at h
  refine sm_meth (by decide +kernel) (Nat.le_of_ble_eq_true rfl) ?_
  show sM (xText_digitsAt G) 0 [some (.inr o), some (.inl z1)] [] E (sm_gl o 3 s mi) _
  refine sm_aload_n dX2_digitsAt_0 rfl ?_
  refine sm_iload_n dX2_digitsAt_1 rfl ?_
  obtain ⟨p1, hp2, h⟩ := sl_bind h
  have hc3 := bText_signAt (G := G) (E := E) (o := o) (s := s) (mi := mi) g  hp2
  refine sc_callV1 (avs := [.inl z1]) (st := []) lk_RX2_26 rfl vf_X2_signAt hc3 ⟨(Nat.le_of_ble_eq_true rfl), (Nat.le_of_ble_eq_true rfl)⟩ ⟨rfl, (Nat.le_of_ble_eq_true rfl)⟩ g.2.2.1 (by omega) rfl dX2_digitsAt_2 ?_
  obtain ⟨p4, hp5, h⟩ := sl_bind h
  have hc6 := bText_isDigit (G := G) (E := E) (mi := (sm_gl o 3 s mi))   hp5
  refine sc_callS1 (avs := [.inl p1]) (st := []) lk_RX2_40 rfl sf_X2_isDigit hc6 ⟨(Nat.le_of_ble_eq_true rfl), (Nat.le_of_ble_eq_true rfl)⟩ ⟨rfl, (Nat.le_of_ble_eq_true rfl)⟩ rfl dX2_digitsAt_5 ?_
  refine sm_if_ne 13 dX2_digitsAt_8 rfl (fun c18 => ?_) (fun c18 => ?_)
  · rw [if_neg c18] at h
    refine sm_aload_n dX2_digitsAt_13 rfl ?_
    refine sm_iload_n dX2_digitsAt_14 rfl ?_
    obtain ⟨p7, hp8, h⟩ := sl_bind h
    have hc9 := bText_signAt (G := G) (E := E) (o := o) (s := s) (mi := mi) g  hp8
    refine sc_callV1 (avs := [.inl z1]) (st := []) lk_RX2_26 rfl vf_X2_signAt hc9 ⟨(Nat.le_of_ble_eq_true rfl), (Nat.le_of_ble_eq_true rfl)⟩ ⟨rfl, (Nat.le_of_ble_eq_true rfl)⟩ g.2.2.1 (by omega) rfl dX2_digitsAt_15 ?_
    refine sm_bipush dX2_digitsAt_18 rfl ?_
    refine sc_icmp_eq (X' := sm_w p7) (Y' := 48) 40 dX2_digitsAt_20 rfl rfl (by decide) (fun c17 => ?_) (fun c17 => ?_)
    · rw [if_pos c17] at h
      refine sm_iconst dX2_digitsAt_40 ?_
      cases h
      exact sm_ireturn dX2_digitsAt_41 (Or.inl rfl)
    · rw [if_neg c17] at h
      refine sm_aload_n dX2_digitsAt_23 rfl ?_
      refine sm_iload_n dX2_digitsAt_24 rfl ?_
      refine sm_iconst dX2_digitsAt_25 ?_
      refine sm_iadd dX2_digitsAt_26 ?_
      obtain ⟨p10, hp11, h⟩ := sl_bind h
      have hc12 := bText_signAt (G := G) (E := E) (o := o) (s := s) (mi := mi) g  hp11
      refine sc_callV1 (avs := [.inl (z1 + 1)]) (st := []) lk_RX2_26 rfl vf_X2_signAt hc12 ⟨(Nat.le_of_ble_eq_true rfl), (Nat.le_of_ble_eq_true rfl)⟩ ⟨rfl, (Nat.le_of_ble_eq_true rfl)⟩ g.2.2.1 (by omega) rfl dX2_digitsAt_27 ?_
      obtain ⟨p13, hp14, h⟩ := sl_bind h
      have hc15 := bText_isDigit (G := G) (E := E) (mi := (sm_gl o 3 s mi))   hp14
      refine sc_callS1 (avs := [.inl p10]) (st := []) lk_RX2_40 rfl sf_X2_isDigit hc15 ⟨(Nat.le_of_ble_eq_true rfl), (Nat.le_of_ble_eq_true rfl)⟩ ⟨rfl, (Nat.le_of_ble_eq_true rfl)⟩ rfl dX2_digitsAt_30 ?_
      refine sm_if_eq 40 dX2_digitsAt_33 rfl (fun c16 => ?_) (fun c16 => ?_)
      · rw [if_pos c16] at h
        refine sm_iconst dX2_digitsAt_40 ?_
        cases h
        exact sm_ireturn dX2_digitsAt_41 (Or.inl rfl)
      · rw [if_neg c16] at h
        refine sm_iconst dX2_digitsAt_36 ?_
        refine sm_goto 41 dX2_digitsAt_37 rfl ?_
        cases h
        exact sm_ireturn dX2_digitsAt_41 (Or.inl rfl)
  · rw [if_pos c18] at h
    refine sm_iconst dX2_digitsAt_11 ?_
    cases h
    exact sm_ireturn dX2_digitsAt_12 (Or.inl rfl)
abbrev xText_addNumber (G : GT) : XT := (G, yX2_addNumber.cls, cX2_addNumber, 5, none, decide (yX2_addNumber.name = "<init>"), 1, 21)
abbrev qText_addNumber_l5 (G : GT) (E : ET) (o : Nat) (mi : MI) (z1 : Int) (z2 : Int) (s : MI) (r : RT) (t : Int × Int) : Prop := sM (xText_addNumber G) 5 [some (.inr o), some (.inl z1), some (.inl z2), some (.inl t.1), some (.inl t.2)] [] E (sm_gl o 3 s mi) r
abbrev kText_addNumber_l5 (G : GT) (E : ET) (o : Nat) (mi : MI) (z1 : Int) (z2 : Int) (s : MI) (r : RT) (x : Int) : Prop := sM (xText_addNumber G) 34 [some (.inr o), none, none, some (.inl x), none] [] E (sm_gl o 3 s mi) r
def fText_addNumber_l5 (z1 : Int) (z2 : Int) (z3 : Int) (z4 : Int) (s : MI) : Option ((Int × Int) ⊕ (Int)) :=
  (if sm_w z2 ≤ sm_w z4 then some (.inr z3) else Option.bind (fText_signAt (z1 + z4) s) (fun p1 => some (.inl ((((z3 * 10) + p1) - 48), (z4 + 1)))))
set_option maxRecDepth 100000 in
set_option maxHeartbeats 4000000 in
theorem bText_addNumber_l5 {G : GT} {E : ET} {o : Nat} {s mi : MI} {z1 : Int} {z2 : Int} {z3 : Int} {z4 : Int} {r : RT} {w : (Int × Int) ⊕ (Int)} (g : gT E o)  (h : fText_addNumber_l5 z1 z2 z3 z4 s = some w) (hK : Sum.elim (qText_addNumber_l5 G E o mi z1 z2 s r) (kText_addNumber_l5 G E o mi z1 z2 s r) w) : qText_addNumber_l5 G E o mi z1 z2 s r (z3, z4) := by
  have hN1 := g.1
  have hN2 := g.2.1
  unfold fText_addNumber_l5 at h
  show sM (xText_addNumber G) 5 [some (.inr o), some (.inl z1), some (.inl z2), some (.inl z3), some (.inl z4)] [] E (sm_gl o 3 s mi) r
  refine sm_iload dX2_addNumber_5 rfl ?_
  refine sm_iload_n dX2_addNumber_7 rfl ?_
  refine sc_icmp_ge (X' := sm_w z4) (Y' := sm_w z2) 34 dX2_addNumber_8 rfl rfl rfl (fun c4 => ?_) (fun c4 => ?_)
  · rw [if_pos c4] at h
    cases h
    exact sm_less (lv' := [some (.inr o), none, none, some (.inl z3), none]) ⟨rfl, rfl, trivial⟩ hK
  · rw [if_neg c4] at h
    refine sm_iload_n dX2_addNumber_11 rfl ?_
    refine sm_bipush dX2_addNumber_12 rfl ?_
    refine sm_imul dX2_addNumber_14 ?_
    refine sm_aload_n dX2_addNumber_15 rfl ?_
    refine sm_iload_n dX2_addNumber_16 rfl ?_
    refine sm_iload dX2_addNumber_17 rfl ?_
    refine sm_iadd dX2_addNumber_19 ?_
    obtain ⟨p1, hp2, h⟩ := sl_bind h
    have hc3 := bText_signAt (G := G) (E := E) (o := o) (s := s) (mi := mi) g  hp2
    refine sc_callV1 (avs := [.inl (z1 + z4)]) (st := [.inl (z3 * 10)]) lk_RX2_26 rfl vf_X2_signAt hc3 ⟨(Nat.le_of_ble_eq_true rfl), (Nat.le_of_ble_eq_true rfl)⟩ ⟨rfl, (Nat.le_of_ble_eq_true rfl)⟩ g.2.2.1 (by omega) rfl dX2_addNumber_20 ?_
    refine sm_iadd dX2_addNumber_23 ?_
    refine sm_bipush dX2_addNumber_24 rfl ?_
    refine sm_isub dX2_addNumber_26 ?_
    refine sm_istore_n dX2_addNumber_27 (Nat.le_of_ble_eq_true rfl) ?_
    refine sm_iinc dX2_addNumber_28 (Nat.le_of_ble_eq_true rfl) rfl ?_
    refine sm_goto 5 dX2_addNumber_31 rfl ?_
    cases h
    exact sm_less (lv' := [some (.inr o), some (.inl z1), some (.inl z2), some (.inl (((z3 * 10) + p1) - 48)), some (.inl (z4 + 1))]) ⟨rfl, rfl, rfl, rfl, rfl, trivial⟩ hK
def fText_addNumber (z1 : Int) (z2 : Int) (s : MI) : Option (MI) :=
  Option.bind (sl_it (fun (t : Int × Int) => fText_addNumber_l5 z1 z2 t.1 t.2 s) sl_fu (0, 0)) (fun x7 => (if 30 ≤ sm_w (s 0 3) then some s else if 0 ≤ sm_w (s 0 3) ∧ sm_w (s 0 3) < 30 then Option.bind (some (sm_up s 2 (sm_w (s 0 3)).toNat x7)) (fun s9 => Option.bind (some (sm_up s9 0 3 ((s9 0 3) + 1))) (fun s11 => some s11)) else none))
set_option maxRecDepth 100000 in
set_option maxHeartbeats 4000000 in
theorem bText_addNumber {G : GT} {E : ET} {o : Nat} {s mi : MI} {z1 : Int} {z2 : Int} {w : MI} (g : gT E o)  (h : fText_addNumber z1 z2 s = some w) : cN G yX2_addNumber cX2_addNumber 5 none 1 21 [.inr o, .inl z1, .inl z2] E (sm_gl o 3 s mi) (none, E, sm_gl o 3 w mi) := by
  have hN1 := g.1
  have hN2 := g.2.1
  unfold fText_addNumber at h
  refine sm_meth (by decide +kernel) (Nat.le_of_ble_eq_true rfl) ?_
  show sM (xText_addNumber G) 0 [some (.inr o), some (.inl z1), some (.inl z2), none, none] [] E (sm_gl o 3 s mi) _
  refine sm_iconst dX2_addNumber_0 ?_
  refine sm_istore_n dX2_addNumber_1 (Nat.le_of_ble_eq_true rfl) ?_
  refine sm_iconst dX2_addNumber_2 ?_
  refine sm_istore dX2_addNumber_3 (Nat.le_of_ble_eq_true rfl) ?_
  obtain ⟨x7, hy6, h⟩ := sl_bind h
  refine sm_less (lv' := [some (.inr o), some (.inl z1), some (.inl z2), some (.inl 0), some (.inl 0)]) ⟨rfl, rfl, rfl, rfl, rfl, trivial⟩ (sl_itE (P := qText_addNumber_l5 G E o mi z1 z2 s _) (K := kText_addNumber_l5 G E o mi z1 z2 s _) (fun t q hq hk => bText_addNumber_l5 g  hq hk) sl_fu _ x7 hy6 ?_)
  show sM (xText_addNumber G) 34 [some (.inr o), none, none, some (.inl x7), none] [] E (sm_gl o 3 s mi) _
  refine sm_aload_n dX2_addNumber_34 rfl ?_
  refine sl_getI (D := 0) lf_RX2_23 fI_1_3 g.2.2.1 rfl (by omega) hN2 dX2_addNumber_35 ?_
  refine sm_bipush dX2_addNumber_38 rfl ?_
  refine sc_icmp_ge (X' := sm_w (s 0 3)) (Y' := 30) 63 dX2_addNumber_40 rfl rfl (by decide) (fun c13 => ?_) (fun c13 => ?_)
  · rw [if_pos c13] at h
    cases h
    exact sm_return rfl dX2_addNumber_63
  · rw [if_neg c13] at h
    refine sm_aload_n dX2_addNumber_43 rfl ?_
    refine sm_getR lf_RX2_15 fR_1_2 g.2.2.1 (by omega) g.2.2.2.2.2 dX2_addNumber_44 ?_
    refine sm_aload_n dX2_addNumber_47 rfl ?_
    refine sl_getI (D := 0) lf_RX2_23 fI_1_3 g.2.2.1 rfl (by omega) hN2 dX2_addNumber_48 ?_
    refine sm_iload_n dX2_addNumber_51 rfl ?_
    obtain ⟨q8, h⟩ := sl_guard h
    have xq8 := (sl_ix (m := 30) q8).2
    refine sl_iastk (D := 2) (k := (sm_w (s 0 3)).toNat) g.2.2.2.2.1 rfl (by omega) ⟨hN1, hN2⟩ (sl_ix (m := 30) q8) dX2_addNumber_52 ?_
    obtain ⟨s9, hs10, h⟩ := sl_bind h
    rw [Option.some.inj hs10]
    refine sm_aload_n dX2_addNumber_53 rfl ?_
    refine sm_dup dX2_addNumber_54 ?_
    refine sl_getI (D := 0) lf_RX2_23 fI_1_3 g.2.2.1 rfl (by omega) hN2 dX2_addNumber_55 ?_
    refine sm_iconst dX2_addNumber_58 ?_
    refine sm_iadd dX2_addNumber_59 ?_
    refine sl_putI (D := 0) lf_RX2_23 fP_1_3 (Or.inl rfl) g.2.2.1 rfl (by omega) ⟨hN1, hN2⟩ dX2_addNumber_60 ?_
    obtain ⟨s11, hs12, h⟩ := sl_bind h
    rw [Option.some.inj hs12]
    cases h
    exact sm_return rfl dX2_addNumber_63
abbrev xText_read (G : GT) : XT := (G, yX2_read.cls, cX2_read, 4, (some .int), decide (yX2_read.name = "<init>"), 2, 45)
abbrev qText_read_l7 (G : GT) (E : ET) (o : Nat) (mi : MI)  (r : RT) (t : Int × MI) : Prop := sM (xText_read G) 7 [some (.inr o), some (.inl t.1), none, none] [] E (sm_gl o 3 t.2 mi) r
abbrev kText_read_l7 (G : GT) (E : ET) (o : Nat) (mi : MI)  (r : RT) : (Int × MI) ⊕ (Int × MI) → Prop := Sum.elim (fun x => sM (xText_read G) 95 [none, some (.inl x.1), none, none] [] E (sm_gl o 3 x.2 mi) r) (fun v => (some (.inl v.1), E, sm_gl o 3 v.2 mi) = r)
abbrev qText_read_l15 (G : GT) (E : ET) (o : Nat) (mi : MI)  (r : RT) (t : Int × Int × MI) : Prop := sM (xText_read G) 15 [some (.inr o), some (.inl t.1), some (.inl t.2.1), none] [] E (sm_gl o 3 t.2.2 mi) r
abbrev kText_read_l15 (G : GT) (E : ET) (o : Nat) (mi : MI)  (r : RT) : (Int × MI) ⊕ (Int × MI) → Prop := Sum.elim (fun x => sM (xText_read G) 66 [some (.inr o), some (.inl x.1), none, none] [] E (sm_gl o 3 x.2 mi) r) (fun v => (some (.inl v.1), E, sm_gl o 3 v.2 mi) = r)
def fText_read_l15 (z1 : Int) (z2 : Int) (s : MI) : Option ((Int × Int × MI) ⊕ ((Int × MI) ⊕ (Int × MI))) :=
  (if 3 ≤ sm_w z2 then some (.inr (.inl (z1, s))) else Option.bind (fText_signAt z1 s) (fun p35 => if 0 ≤ sm_w z2 ∧ sm_w z2 < 3 then (if sm_w p35 = sm_w (sl_mark (sm_w z2).toNat) then Option.bind (fText_digitsAt (z1 + 1) s) (fun p39 => (if sm_w p39 = 0 then some (.inr (.inr ((z1 + 1), s))) else Option.bind (fText_addNumber (z1 + 1) p39 s) (fun p42 => some (.inl (((z1 + 1) + p39), (z2 + 1), p42))))) else some (.inr (.inr (z1, s)))) else none))
set_option maxRecDepth 100000 in
set_option maxHeartbeats 4000000 in
theorem bText_read_l15 {G : GT} {E : ET} {o : Nat} {s mi : MI} {z1 : Int} {z2 : Int} {r : RT} {w : (Int × Int × MI) ⊕ ((Int × MI) ⊕ (Int × MI))} (g : gT E o) (gk : gK E mi)  (h : fText_read_l15 z1 z2 s = some w) (hK : Sum.elim (qText_read_l15 G E o mi r) (kText_read_l15 G E o mi r) w) : qText_read_l15 G E o mi r (z1, z2, s) := by
  have hN1 := g.1
  have hN2 := g.2.1
  unfold fText_read_l15 at h
  show sM (xText_read G) 15 [some (.inr o), some (.inl z1), some (.inl z2), none] [] E (sm_gl o 3 s mi) r
  refine sm_iload_n dX2_read_15 rfl ?_
  refine sm_iconst dX2_read_16 ?_
  refine sc_icmp_ge (X' := sm_w z2) (Y' := 3) 66 dX2_read_17 rfl rfl (by decide) (fun c47 => ?_) (fun c47 => ?_)
  · rw [if_pos c47] at h
    cases h
    exact sm_less (lv' := [some (.inr o), some (.inl z1), none, none]) ⟨rfl, rfl, trivial⟩ hK
  · rw [if_neg c47] at h
    refine sm_aload_n dX2_read_20 rfl ?_
    refine sm_iload_n dX2_read_21 rfl ?_
    obtain ⟨p35, hp36, h⟩ := sl_bind h
    have hc37 := bText_signAt (G := G) (E := E) (o := o) (s := s) (mi := mi) g  hp36
    refine sc_callV1 (avs := [.inl z1]) (st := []) lk_RX2_26 rfl vf_X2_signAt hc37 ⟨(Nat.le_of_ble_eq_true rfl), (Nat.le_of_ble_eq_true rfl)⟩ ⟨rfl, (Nat.le_of_ble_eq_true rfl)⟩ g.2.2.1 (by omega) rfl dX2_read_22 ?_
    refine sm_static rfl (Or.inr ⟨rfl, lg_RX2_30, rfl⟩) dX2_read_25 ?_
    refine sm_iload_n dX2_read_28 rfl ?_
    obtain ⟨q38, h⟩ := sl_guard h
    have xq38 := (sl_ix (m := 3) q38).2
    refine sl_marks gk hN1 q38 dX2_read_29 ?_
    refine sc_icmp_eq (X' := sm_w p35) (Y' := sm_w (sl_mark (sm_w z2).toNat)) 35 dX2_read_30 rfl rfl rfl (fun c46 => ?_) (fun c46 => ?_)
    · rw [if_pos c46] at h
      refine sm_iinc dX2_read_35 (Nat.le_of_ble_eq_true rfl) rfl ?_
      refine sm_aload_n dX2_read_38 rfl ?_
      refine sm_iload_n dX2_read_39 rfl ?_
      obtain ⟨p39, hp40, h⟩ := sl_bind h
      have hc41 := bText_digitsAt (G := G) (E := E) (o := o) (s := s) (mi := mi) g  hp40
      refine sc_callV1 (avs := [.inl (z1 + 1)]) (st := []) lk_RX2_33 rfl vf_X2_digitsAt hc41 ⟨(Nat.le_of_ble_eq_true rfl), (Nat.le_of_ble_eq_true rfl)⟩ ⟨rfl, (Nat.le_of_ble_eq_true rfl)⟩ g.2.2.1 (by omega) rfl dX2_read_40 ?_
      refine sm_istore_n dX2_read_43 (Nat.le_of_ble_eq_true rfl) ?_
      refine sm_iload_n dX2_read_44 rfl ?_
      refine sm_if_ne 50 dX2_read_45 rfl (fun c45 => ?_) (fun c45 => ?_)
      · rw [if_neg c45] at h
        refine sm_aload_n dX2_read_50 rfl ?_
        refine sm_iload_n dX2_read_51 rfl ?_
        refine sm_iload_n dX2_read_52 rfl ?_
        obtain ⟨p42, hp43, h⟩ := sl_bind h
        have hc44 := bText_addNumber (G := G) (E := E) (o := o) (s := s) (mi := mi) g  hp43
        refine sc_callV0 (avs := [.inl (z1 + 1), .inl p39]) (st := []) lk_RX2_36 rfl vf_X2_addNumber hc44 ⟨(Nat.le_of_ble_eq_true rfl), (Nat.le_of_ble_eq_true rfl)⟩ ⟨rfl, (Nat.le_of_ble_eq_true rfl)⟩ g.2.2.1 (by omega) rfl dX2_read_53 ?_
        refine sm_iload_n dX2_read_56 rfl ?_
        refine sm_iload_n dX2_read_57 rfl ?_
        refine sm_iadd dX2_read_58 ?_
        refine sm_istore_n dX2_read_59 (Nat.le_of_ble_eq_true rfl) ?_
        refine sm_iinc dX2_read_60 (Nat.le_of_ble_eq_true rfl) rfl ?_
        refine sm_goto 15 dX2_read_63 rfl ?_
        cases h
        exact sm_less (lv' := [some (.inr o), some (.inl ((z1 + 1) + p39)), some (.inl (z2 + 1)), none]) ⟨rfl, rfl, rfl, trivial⟩ hK
      · rw [if_pos c45] at h
        refine sm_iload_n dX2_read_48 rfl ?_
        cases h
        have hK : (some (.inl ((z1 + 1), s).1), E, sm_gl o 3 ((z1 + 1), s).2 mi) = r := hK
        subst hK
        exact sm_ireturn dX2_read_49 (Or.inl rfl)
    · rw [if_neg c46] at h
      refine sm_iload_n dX2_read_33 rfl ?_
      cases h
      have hK : (some (.inl (z1, s).1), E, sm_gl o 3 (z1, s).2 mi) = r := hK
      subst hK
      exact sm_ireturn dX2_read_34 (Or.inl rfl)
def fText_read_l7 (z1 : Int) (s : MI) : Option ((Int × MI) ⊕ ((Int × MI) ⊕ (Int × MI))) :=
  (if 60 ≤ sm_w z1 then some (.inr (.inl (z1, s))) else Option.bind (sl_it (fun (t : Int × Int × MI) => fText_read_l15 t.1 t.2.1 t.2.2) sl_fu (z1, 0, s)) (fun y48 => Sum.elim (fun x50 => Option.bind (fText_signAt x50.1 x50.2) (fun p51 => (if sm_w p51 = (-1) then some (.inr (.inr ((-1), x50.2))) else Option.bind (fText_signAt x50.1 x50.2) (fun p54 => (if sm_w p54 = 59 then some (.inl ((x50.1 + 1), x50.2)) else some (.inr (.inr (x50.1, x50.2)))))))) (fun v59 => some (.inr (.inr v59))) y48))
set_option maxRecDepth 100000 in
set_option maxHeartbeats 4000000 in
theorem bText_read_l7 {G : GT} {E : ET} {o : Nat} {s mi : MI} {z1 : Int} {r : RT} {w : (Int × MI) ⊕ ((Int × MI) ⊕ (Int × MI))} (g : gT E o) (gk : gK E mi)  (h : fText_read_l7 z1 s = some w) (hK : Sum.elim (qText_read_l7 G E o mi r) (kText_read_l7 G E o mi r) w) : qText_read_l7 G E o mi r (z1, s) := by
  have hN1 := g.1
  have hN2 := g.2.1
  unfold fText_read_l7 at h
  show sM (xText_read G) 7 [some (.inr o), some (.inl z1), none, none] [] E (sm_gl o 3 s mi) r
  refine sm_iload_n dX2_read_7 rfl ?_
  refine sm_bipush dX2_read_8 rfl ?_
  refine sc_icmp_ge (X' := sm_w z1) (Y' := 60) 95 dX2_read_10 rfl rfl (by decide) (fun c60 => ?_) (fun c60 => ?_)
  · rw [if_pos c60] at h
    cases h
    exact sm_less (lv' := [none, some (.inl z1), none, none]) ⟨rfl, trivial⟩ hK
  · rw [if_neg c60] at h
    refine sm_iconst dX2_read_13 ?_
    refine sm_istore_n dX2_read_14 (Nat.le_of_ble_eq_true rfl) ?_
    obtain ⟨y48, hy49, h⟩ := sl_bind h
    refine sm_less (lv' := [some (.inr o), some (.inl z1), some (.inl 0), none]) ⟨rfl, rfl, rfl, trivial⟩ (sl_itE (P := qText_read_l15 G E o mi _) (K := kText_read_l15 G E o mi _) (fun t q hq hk => bText_read_l15 g gk  hq hk) sl_fu _ y48 hy49 ?_)
    rcases y48 with x50 | v59
    · show sM (xText_read G) 66 [some (.inr o), some (.inl x50.1), none, none] [] E (sm_gl o 3 x50.2 mi) _
      dsimp only [Sum.elim_inl] at h
      refine sm_aload_n dX2_read_66 rfl ?_
      refine sm_iload_n dX2_read_67 rfl ?_
      obtain ⟨p51, hp52, h⟩ := sl_bind h
      have hc53 := bText_signAt (G := G) (E := E) (o := o) (s := x50.2) (mi := mi) g  hp52
      refine sc_callV1 (avs := [.inl x50.1]) (st := []) lk_RX2_26 rfl vf_X2_signAt hc53 ⟨(Nat.le_of_ble_eq_true rfl), (Nat.le_of_ble_eq_true rfl)⟩ ⟨rfl, (Nat.le_of_ble_eq_true rfl)⟩ g.2.2.1 (by omega) rfl dX2_read_68 ?_
      refine sm_iconst dX2_read_71 ?_
      refine sc_icmp_ne (X' := sm_w p51) (Y' := (-1)) 77 dX2_read_72 rfl rfl (by decide) (fun c58 => ?_) (fun c58 => ?_)
      · rw [if_neg c58] at h
        refine sm_aload_n dX2_read_77 rfl ?_
        refine sm_iload_n dX2_read_78 rfl ?_
        obtain ⟨p54, hp55, h⟩ := sl_bind h
        have hc56 := bText_signAt (G := G) (E := E) (o := o) (s := x50.2) (mi := mi) g  hp55
        refine sc_callV1 (avs := [.inl x50.1]) (st := []) lk_RX2_26 rfl vf_X2_signAt hc56 ⟨(Nat.le_of_ble_eq_true rfl), (Nat.le_of_ble_eq_true rfl)⟩ ⟨rfl, (Nat.le_of_ble_eq_true rfl)⟩ g.2.2.1 (by omega) rfl dX2_read_79 ?_
        refine sm_bipush dX2_read_82 rfl ?_
        refine sc_icmp_eq (X' := sm_w p54) (Y' := 59) 89 dX2_read_84 rfl rfl (by decide) (fun c57 => ?_) (fun c57 => ?_)
        · rw [if_pos c57] at h
          refine sm_iinc dX2_read_89 (Nat.le_of_ble_eq_true rfl) rfl ?_
          refine sm_goto 7 dX2_read_92 rfl ?_
          cases h
          exact sm_less (lv' := [some (.inr o), some (.inl (x50.1 + 1)), none, none]) ⟨rfl, rfl, trivial⟩ hK
        · rw [if_neg c57] at h
          refine sm_iload_n dX2_read_87 rfl ?_
          cases h
          have hK : (some (.inl (x50.1, x50.2).1), E, sm_gl o 3 (x50.1, x50.2).2 mi) = r := hK
          subst hK
          exact sm_ireturn dX2_read_88 (Or.inl rfl)
      · rw [if_pos c58] at h
        refine sm_iconst dX2_read_75 ?_
        cases h
        have hK : (some (.inl ((-1), x50.2).1), E, sm_gl o 3 ((-1), x50.2).2 mi) = r := hK
        subst hK
        exact sm_ireturn dX2_read_76 (Or.inl rfl)
    · dsimp only [Sum.elim_inr] at h
      cases h
      exact hK
def fText_read  (s : MI) : Option (Int × MI) :=
  Option.bind (some (sm_up s 0 3 0)) (fun s1 => Option.bind (sl_it (fun (t : Int × MI) => fText_read_l7 t.1 t.2) sl_fu (0, s1)) (fun y61 => Sum.elim (fun x63 => some (x63.1, x63.2)) (fun v64 => some v64) y61))
set_option maxRecDepth 100000 in
set_option maxHeartbeats 4000000 in
theorem bText_read {G : GT} {E : ET} {o : Nat} {s mi : MI}  {w : Int × MI} (g : gT E o) (gk : gK E mi)  (h : fText_read s = some w) : cN G yX2_read cX2_read 4 (some .int) 2 45 [.inr o] E (sm_gl o 3 s mi) (some (.inl w.1), E, sm_gl o 3 w.2 mi) := by
  have hN1 := g.1
  have hN2 := g.2.1
  unfold fText_read at h
  refine sm_meth (by decide +kernel) (Nat.le_of_ble_eq_true rfl) ?_
  show sM (xText_read G) 0 [some (.inr o), none, none, none] [] E (sm_gl o 3 s mi) _
  refine sm_aload_n dX2_read_0 rfl ?_
  refine sm_iconst dX2_read_1 ?_
  refine sl_putI (D := 0) lf_RX2_23 fP_1_3 (Or.inl rfl) g.2.2.1 rfl (by omega) ⟨hN1, hN2⟩ dX2_read_2 ?_
  obtain ⟨s1, hs2, h⟩ := sl_bind h
  rw [Option.some.inj hs2]
  refine sm_iconst dX2_read_5 ?_
  refine sm_istore_n dX2_read_6 (Nat.le_of_ble_eq_true rfl) ?_
  obtain ⟨y61, hy62, h⟩ := sl_bind h
  refine sm_less (lv' := [some (.inr o), some (.inl 0), none, none]) ⟨rfl, rfl, trivial⟩ (sl_itE (P := qText_read_l7 G E o mi _) (K := kText_read_l7 G E o mi _) (fun t q hq hk => bText_read_l7 g gk  hq hk) sl_fu _ y61 hy62 ?_)
  rcases y61 with x63 | v64
  · show sM (xText_read G) 95 [none, some (.inl x63.1), none, none] [] E (sm_gl o 3 x63.2 mi) _
    dsimp only [Sum.elim_inl] at h
    refine sm_iload_n dX2_read_95 rfl ?_
    cases h
    exact sm_ireturn dX2_read_96 (Or.inl rfl)
  · dsimp only [Sum.elim_inr] at h
    cases h
    exact rfl
abbrev xText_calls (G : GT) : XT := (G, yX2_calls.cls, cX2_calls, 1, (some .int), decide (yX2_calls.name = "<init>"), 0, 0)
def fText_calls  (s : MI) : Option (Int) :=
  some (sm_div (s 0 3) 3)
set_option maxRecDepth 100000 in
set_option maxHeartbeats 4000000 in
theorem bText_calls {G : GT} {E : ET} {o : Nat} {s mi : MI}  {w : Int} (g : gT E o)  (h : fText_calls s = some w) : cN G yX2_calls cX2_calls 1 (some .int) 0 0 [.inr o] E (sm_gl o 3 s mi) (some (.inl w), E, (sm_gl o 3 s mi)) := by
  have hN1 := g.1
  have hN2 := g.2.1
  unfold fText_calls at h
  refine sm_meth (by decide +kernel) (Nat.le_of_ble_eq_true rfl) ?_
  show sM (xText_calls G) 0 [some (.inr o)] [] E (sm_gl o 3 s mi) _
  refine sm_aload_n dX2_calls_0 rfl ?_
  refine sl_getI (D := 0) lf_RX2_23 fI_1_3 g.2.2.1 rfl (by omega) hN2 dX2_calls_1 ?_
  refine sm_iconst dX2_calls_4 ?_
  refine sm_idiv dX2_calls_5 (by decide) ?_
  cases h
  exact sm_ireturn dX2_calls_6 (Or.inl rfl)
abbrev xText_number (G : GT) : XT := (G, yX2_number.cls, cX2_number, 4, (some .int), decide (yX2_number.name = "<init>"), 0, 0)
def fText_number (z1 : Int) (z2 : Int) (s : MI) : Option (Int) :=
  (if sm_w ((z1 * 3) + z2) < 0 then some (-5) else (if sm_w (s 0 3) ≤ sm_w ((z1 * 3) + z2) then some (-5) else (if 30 ≤ sm_w ((z1 * 3) + z2) then some (-5) else if 0 ≤ sm_w ((z1 * 3) + z2) ∧ sm_w ((z1 * 3) + z2) < 30 then some (s 2 (sm_w ((z1 * 3) + z2)).toNat) else none)))
set_option maxRecDepth 100000 in
set_option maxHeartbeats 4000000 in
theorem bText_number {G : GT} {E : ET} {o : Nat} {s mi : MI} {z1 : Int} {z2 : Int} {w : Int} (g : gT E o)  (h : fText_number z1 z2 s = some w) : cN G yX2_number cX2_number 4 (some .int) 0 0 [.inr o, .inl z1, .inl z2] E (sm_gl o 3 s mi) (some (.inl w), E, (sm_gl o 3 s mi)) := by
  have hN1 := g.1
  have hN2 := g.2.1
  unfold fText_number at h
  refine sm_meth (by decide +kernel) (Nat.le_of_ble_eq_true rfl) ?_
  show sM (xText_number G) 0 [some (.inr o), some (.inl z1), some (.inl z2), none] [] E (sm_gl o 3 s mi) _
  refine sm_iload_n dX2_number_0 rfl ?_
  refine sm_iconst dX2_number_1 ?_
  refine sm_imul dX2_number_2 ?_
  refine sm_iload_n dX2_number_3 rfl ?_
  refine sm_iadd dX2_number_4 ?_
  refine sm_istore_n dX2_number_5 (Nat.le_of_ble_eq_true rfl) ?_
  refine sm_iload_n dX2_number_6 rfl ?_
  refine sm_if_lt 33 dX2_number_7 rfl (fun c4 => ?_) (fun c4 => ?_)
  · rw [if_pos c4] at h
    refine sm_bipush dX2_number_33 rfl ?_
    cases h
    exact sm_ireturn dX2_number_35 (Or.inl rfl)
  · rw [if_neg c4] at h
    refine sm_iload_n dX2_number_10 rfl ?_
    refine sm_aload_n dX2_number_11 rfl ?_
    refine sl_getI (D := 0) lf_RX2_23 fI_1_3 g.2.2.1 rfl (by omega) hN2 dX2_number_12 ?_
    refine sc_icmp_ge (X' := sm_w ((z1 * 3) + z2)) (Y' := sm_w (s 0 3)) 33 dX2_number_15 rfl rfl rfl (fun c3 => ?_) (fun c3 => ?_)
    · rw [if_pos c3] at h
      refine sm_bipush dX2_number_33 rfl ?_
      cases h
      exact sm_ireturn dX2_number_35 (Or.inl rfl)
    · rw [if_neg c3] at h
      refine sm_iload_n dX2_number_18 rfl ?_
      refine sm_bipush dX2_number_19 rfl ?_
      refine sc_icmp_ge (X' := sm_w ((z1 * 3) + z2)) (Y' := 30) 33 dX2_number_21 rfl rfl (by decide) (fun c2 => ?_) (fun c2 => ?_)
      · rw [if_pos c2] at h
        refine sm_bipush dX2_number_33 rfl ?_
        cases h
        exact sm_ireturn dX2_number_35 (Or.inl rfl)
      · rw [if_neg c2] at h
        refine sm_aload_n dX2_number_24 rfl ?_
        refine sm_getR lf_RX2_15 fR_1_2 g.2.2.1 (by omega) g.2.2.2.2.2 dX2_number_25 ?_
        refine sm_iload_n dX2_number_28 rfl ?_
        obtain ⟨q1, h⟩ := sl_guard h
        have xq1 := (sl_ix (m := 30) q1).2
        refine sl_ialdk (D := 2) (k := (sm_w ((z1 * 3) + z2)).toNat) g.2.2.2.2.1 rfl (by omega) hN2 (sl_ix (m := 30) q1) dX2_number_29 ?_
        refine sm_goto 35 dX2_number_30 rfl ?_
        cases h
        exact sm_ireturn dX2_number_35 (Or.inl rfl)
