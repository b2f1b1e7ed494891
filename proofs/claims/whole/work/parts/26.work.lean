abbrev xWork_nearestGarage (G : GT) : XT := (G, yX8_nearestGarage.cls, cX8_nearestGarage, 6, (some .int), decide (yX8_nearestGarage.name = "<init>"), 1, 22)
abbrev qWork_nearestGarage_l9 (G : GT) (E : ET) (o : Nat) (mi : MI) (z1 : Int) (s : MI) (r : RT) (t : Int × Int × Int) : Prop := sM (xWork_nearestGarage G) 9 [some (.inr o), some (.inl z1), some (.inl t.1), some (.inl t.2.1), some (.inl t.2.2), none] [] E (sm_gl o 61 s mi) r
abbrev kWork_nearestGarage_l9 (G : GT) (E : ET) (o : Nat) (mi : MI) (z1 : Int) (s : MI) (r : RT) (x : Int) : Prop := sM (xWork_nearestGarage G) 75 [none, none, some (.inl x), none, none, none] [] E (sm_gl o 61 s mi) r
def fWork_nearestGarage_j69_l9 (z1 : Int) (z2 : Int) (z3 : Int) (z4 : Int) (s : MI) : Option ((Int × Int × Int) ⊕ (Int)) :=
  some (.inl (z2, z3, (z4 + 1)))
set_option maxRecDepth 100000 in
set_option maxHeartbeats 4000000 in
theorem bWork_nearestGarage_j69_l9 {G : GT} {E : ET} {o : Nat} {s mi : MI} {z1 : Int} {z2 : Int} {z3 : Int} {z4 : Int} {r : RT} {w : (Int × Int × Int) ⊕ (Int)} (g : gS E o)  (h : fWork_nearestGarage_j69_l9 z1 z2 z3 z4 s = some w) (hK : Sum.elim (qWork_nearestGarage_l9 G E o mi z1 s r) (kWork_nearestGarage_l9 G E o mi z1 s r) w) : sM (xWork_nearestGarage G) 69 [some (.inr o), some (.inl z1), some (.inl z2), some (.inl z3), some (.inl z4), none] [] E (sm_gl o 61 s mi) r := by
  have hN1 := g.1
  have hN2 := g.2.1
  unfold fWork_nearestGarage_j69_l9 at h
  refine sm_iinc dX8_nearestGarage_69 (Nat.le_of_ble_eq_true rfl) rfl ?_
  refine sm_goto 9 dX8_nearestGarage_72 rfl ?_
  cases h
  exact sm_less (lv' := [some (.inr o), some (.inl z1), some (.inl z2), some (.inl z3), some (.inl (z4 + 1)), none]) ⟨rfl, rfl, rfl, rfl, rfl, trivial⟩ hK
def fWork_nearestGarage_l9 (z1 : Int) (z2 : Int) (z3 : Int) (z4 : Int) (s : MI) : Option ((Int × Int × Int) ⊕ (Int)) :=
  (if sm_w (s 0 6) ≤ sm_w z4 then some (.inr z2) else (if 5 ≤ sm_w z4 then some (.inr z2) else if 0 ≤ sm_w z4 ∧ sm_w z4 < 5 then Option.bind (fMap_between z1 (s (16 + (sm_w z4).toNat) 0) (sm_lo 1 s)) (fun p3 => Option.bind (fGarage_hasRoom (sm_lo (16 + (sm_w z4).toNat) s)) (fun p7 => (if sm_w p7 = 0 then fWork_nearestGarage_j69_l9 z1 z2 z3 z4 s else (if sm_w z3 ≤ sm_w p3 then fWork_nearestGarage_j69_l9 z1 z2 z3 z4 s else fWork_nearestGarage_j69_l9 z1 z4 p3 z4 s)))) else none))
set_option maxRecDepth 100000 in
set_option maxHeartbeats 4000000 in
theorem bWork_nearestGarage_l9 {G : GT} {E : ET} {o : Nat} {s mi : MI} {z1 : Int} {z2 : Int} {z3 : Int} {z4 : Int} {r : RT} {w : (Int × Int × Int) ⊕ (Int)} (g : gS E o)  (h : fWork_nearestGarage_l9 z1 z2 z3 z4 s = some w) (hK : Sum.elim (qWork_nearestGarage_l9 G E o mi z1 s r) (kWork_nearestGarage_l9 G E o mi z1 s r) w) : qWork_nearestGarage_l9 G E o mi z1 s r (z2, z3, z4) := by
  have hN1 := g.1
  have hN2 := g.2.1
  unfold fWork_nearestGarage_l9 at h
  show sM (xWork_nearestGarage G) 9 [some (.inr o), some (.inl z1), some (.inl z2), some (.inl z3), some (.inl z4), none] [] E (sm_gl o 61 s mi) r
  refine sm_iload dX8_nearestGarage_9 rfl ?_
  refine sm_aload_n dX8_nearestGarage_11 rfl ?_
  refine sl_getI (D := 0) lf_RX8_180 fI_5_6 g.2.2.1 rfl (by omega) hN2 dX8_nearestGarage_12 ?_
  refine sc_icmp_ge (X' := sm_w z4) (Y' := sm_w (s 0 6)) 75 dX8_nearestGarage_15 rfl rfl rfl (fun c13 => ?_) (fun c13 => ?_)
  · rw [if_pos c13] at h
    cases h
    exact sm_less (lv' := [none, none, some (.inl z2), none, none, none]) ⟨rfl, trivial⟩ hK
  · rw [if_neg c13] at h
    refine sm_iload dX8_nearestGarage_18 rfl ?_
    refine sm_iconst dX8_nearestGarage_20 ?_
    refine sc_icmp_ge (X' := sm_w z4) (Y' := 5) 75 dX8_nearestGarage_21 rfl rfl (by decide) (fun c12 => ?_) (fun c12 => ?_)
    · rw [if_pos c12] at h
      cases h
      exact sm_less (lv' := [none, none, some (.inl z2), none, none, none]) ⟨rfl, trivial⟩ hK
    · rw [if_neg c12] at h
      refine sm_aload_n dX8_nearestGarage_24 rfl ?_
      refine sm_getR lf_RX8_95 fR_5_0 g.2.2.1 (by omega) g.2.2.2.1.2 dX8_nearestGarage_25 ?_
      refine sm_iload_n dX8_nearestGarage_28 rfl ?_
      refine sm_aload_n dX8_nearestGarage_29 rfl ?_
      refine sm_getR lf_RX8_154 fR_5_5 g.2.2.1 (by omega) g.2.2.2.2.2.2.1.1.2 dX8_nearestGarage_30 ?_
      refine sm_iload dX8_nearestGarage_33 rfl ?_
      obtain ⟨q1, h⟩ := sl_guard h
      have xq1 := (sl_ix (m := 5) q1).2
      have e2 := g.2.2.2.2.2.2.1.2 (sm_w z4).toNat xq1
      refine sl_aald (k := (sm_w z4).toNat) (Or.inr (Or.inl rfl)) g.2.2.2.2.2.2.1.1.1 (by omega) (sl_ix (m := 5) q1) e2.1 dX8_nearestGarage_35 ?_
      refine sl_getI (D := (16 + (sm_w z4).toNat)) lf_RX8_166 fI_2_0 e2.2.2.2 rfl (by omega) hN2 dX8_nearestGarage_36 ?_
      obtain ⟨p3, hp4, h⟩ := sl_bind h
      have hc5 := bMap_between (G := G) (E := E) (o := o + 1) (s := (sm_lo 1 s)) (mi := (sm_gl o 61 s mi)) g.2.2.2.1.1  hp4
      rw [gl_in (o := o) (D := 1) (ha := (rfl : o + 1 = o + 1)) (hD := (by omega : 1 + 3 ≤ 61))] at hc5
      refine sc_callV1 (avs := [.inl z1, .inl (s (16 + (sm_w z4).toNat) 0)]) (st := []) lk_RX8_103 rfl vf_X5_between hc5 ⟨(Nat.le_of_ble_eq_true rfl), (Nat.le_of_ble_eq_true rfl)⟩ ⟨rfl, (Nat.le_of_ble_eq_true rfl)⟩ g.2.2.2.1.1.2.2.1 (by omega) rfl dX8_nearestGarage_39 ?_
      refine sm_istore dX8_nearestGarage_42 (Nat.le_of_ble_eq_true rfl) ?_
      refine sm_aload_n dX8_nearestGarage_44 rfl ?_
      refine sm_getR lf_RX8_154 fR_5_5 g.2.2.1 (by omega) g.2.2.2.2.2.2.1.1.2 dX8_nearestGarage_45 ?_
      refine sm_iload dX8_nearestGarage_48 rfl ?_
      have e6 := g.2.2.2.2.2.2.1.2 (sm_w z4).toNat xq1
      refine sl_aald (k := (sm_w z4).toNat) (Or.inr (Or.inl rfl)) g.2.2.2.2.2.2.1.1.1 (by omega) (sl_ix (m := 5) q1) e6.1 dX8_nearestGarage_50 ?_
      obtain ⟨p7, hp8, h⟩ := sl_bind h
      have hc9 := bGarage_hasRoom (G := G) (E := E) (o := o + (16 + (sm_w z4).toNat)) (s := (sm_lo (16 + (sm_w z4).toNat) s)) (mi := (sm_gl o 61 s mi)) e6.2  hp8
      rw [gl_in (o := o) (D := (16 + (sm_w z4).toNat)) (ha := (rfl : o + (16 + (sm_w z4).toNat) = o + (16 + (sm_w z4).toNat))) (hD := (by omega : (16 + (sm_w z4).toNat) + 1 ≤ 61))] at hc9
      refine sc_callV1 (avs := []) (st := []) lk_RX8_183 rfl vf_X3_hasRoom hc9 ⟨(Nat.le_of_ble_eq_true rfl), (Nat.le_of_ble_eq_true rfl)⟩ ⟨rfl, (Nat.le_of_ble_eq_true rfl)⟩ e6.2.2.2 (by omega) rfl dX8_nearestGarage_51 ?_
      refine sm_if_eq 69 dX8_nearestGarage_54 rfl (fun c11 => ?_) (fun c11 => ?_)
      · rw [if_pos c11] at h
        exact sm_less (lv' := [some (.inr o), some (.inl z1), some (.inl z2), some (.inl z3), some (.inl z4), none]) ⟨rfl, rfl, rfl, rfl, rfl, trivial⟩ (bWork_nearestGarage_j69_l9 g   h hK)
      · rw [if_neg c11] at h
        refine sm_iload dX8_nearestGarage_57 rfl ?_
        refine sm_iload_n dX8_nearestGarage_59 rfl ?_
        refine sc_icmp_ge (X' := sm_w p3) (Y' := sm_w z3) 69 dX8_nearestGarage_60 rfl rfl rfl (fun c10 => ?_) (fun c10 => ?_)
        · rw [if_pos c10] at h
          exact sm_less (lv' := [some (.inr o), some (.inl z1), some (.inl z2), some (.inl z3), some (.inl z4), none]) ⟨rfl, rfl, rfl, rfl, rfl, trivial⟩ (bWork_nearestGarage_j69_l9 g   h hK)
        · rw [if_neg c10] at h
          refine sm_iload dX8_nearestGarage_63 rfl ?_
          refine sm_istore_n dX8_nearestGarage_65 (Nat.le_of_ble_eq_true rfl) ?_
          refine sm_iload dX8_nearestGarage_66 rfl ?_
          refine sm_istore_n dX8_nearestGarage_68 (Nat.le_of_ble_eq_true rfl) ?_
          exact sm_less (lv' := [some (.inr o), some (.inl z1), some (.inl z4), some (.inl p3), some (.inl z4), none]) ⟨rfl, rfl, rfl, rfl, rfl, trivial⟩ (bWork_nearestGarage_j69_l9 g   h hK)
def fWork_nearestGarage (z1 : Int) (s : MI) : Option (Int) :=
  Option.bind (sl_it (fun (t : Int × Int × Int) => fWork_nearestGarage_l9 z1 t.1 t.2.1 t.2.2 s) sl_fu ((-5), 1000000, 0)) (fun x16 => some x16)
set_option maxRecDepth 100000 in
set_option maxHeartbeats 4000000 in
theorem bWork_nearestGarage {G : GT} {E : ET} {o : Nat} {s mi : MI} {z1 : Int} {w : Int} (g : gS E o)  (h : fWork_nearestGarage z1 s = some w) : cN G yX8_nearestGarage cX8_nearestGarage 6 (some .int) 1 22 [.inr o, .inl z1] E (sm_gl o 61 s mi) (some (.inl w), E, (sm_gl o 61 s mi)) := by
  have hN1 := g.1
  have hN2 := g.2.1
  unfold fWork_nearestGarage at h
  refine sm_meth (by decide +kernel) (Nat.le_of_ble_eq_true rfl) ?_
  show sM (xWork_nearestGarage G) 0 [some (.inr o), some (.inl z1), none, none, none, none] [] E (sm_gl o 61 s mi) _
  refine sm_bipush dX8_nearestGarage_0 rfl ?_
  refine sm_istore_n dX8_nearestGarage_2 (Nat.le_of_ble_eq_true rfl) ?_
  refine sm_ldc (v := 1000000) rfl lc_RX8_179 dX8_nearestGarage_3 ?_
  refine sm_istore_n dX8_nearestGarage_5 (Nat.le_of_ble_eq_true rfl) ?_
  refine sm_iconst dX8_nearestGarage_6 ?_
  refine sm_istore dX8_nearestGarage_7 (Nat.le_of_ble_eq_true rfl) ?_
  obtain ⟨x16, hy15, h⟩ := sl_bind h
  refine sm_less (lv' := [some (.inr o), some (.inl z1), some (.inl (-5)), some (.inl 1000000), some (.inl 0), none]) ⟨rfl, rfl, rfl, rfl, rfl, trivial⟩ (sl_itE (P := qWork_nearestGarage_l9 G E o mi z1 s _) (K := kWork_nearestGarage_l9 G E o mi z1 s _) (fun t q hq hk => bWork_nearestGarage_l9 g  hq hk) sl_fu _ x16 hy15 ?_)
  show sM (xWork_nearestGarage G) 75 [none, none, some (.inl x16), none, none, none] [] E (sm_gl o 61 s mi) _
  refine sm_iload_n dX8_nearestGarage_75 rfl ?_
  cases h
  exact sm_ireturn dX8_nearestGarage_76 (Or.inl rfl)
abbrev xWork_endOfTow (G : GT) : XT := (G, yX8_endOfTow.cls, cX8_endOfTow, 6, (some .int), decide (yX8_endOfTow.name = "<init>"), 1, 25)
abbrev qWork_endOfTow_l13 (G : GT) (E : ET) (o : Nat) (mi : MI) (z1 : Int) (z2 : Int) (s : MI) (r : RT) (t : Int × Int × Int) : Prop := sM (xWork_endOfTow G) 13 [some (.inr o), some (.inl z1), some (.inl z2), some (.inl t.1), some (.inl t.2.1), some (.inl t.2.2)] [] E (sm_gl o 3 s mi) r
abbrev kWork_endOfTow_l13 (G : GT) (E : ET) (o : Nat) (mi : MI) (z1 : Int) (z2 : Int) (s : MI) (r : RT) : (Int) ⊕ (Int) → Prop := Sum.elim (fun x => sM (xWork_endOfTow G) 68 [none, none, none, some (.inl x), none, none] [] E (sm_gl o 3 s mi) r) (fun v => (some (.inl v), E, (sm_gl o 3 s mi)) = r)
def fWork_endOfTow_l13 (z1 : Int) (z2 : Int) (z3 : Int) (z4 : Int) (z5 : Int) (s : MI) : Option ((Int × Int × Int) ⊕ ((Int) ⊕ (Int))) :=
  (if 12 ≤ sm_w z5 then some (.inr (.inl z3)) else (if sm_w z4 = (-5) then some (.inr (.inl z3)) else Option.bind (fDesk_regionOf z4) (fun p13 => Option.bind (fDesk_regionOf z1) (fun p16 => (if sm_w p13 = sm_w p16 then Option.bind (fMap_nextOnWay z4 z2 s) (fun p19 => some (.inl (z4, p19, (z5 + 1)))) else (if sm_w z3 = sm_w z1 then some (.inr (.inr z4)) else some (.inr (.inr z3))))))))
set_option maxRecDepth 100000 in
set_option maxHeartbeats 4000000 in
theorem bWork_endOfTow_l13 {G : GT} {E : ET} {o : Nat} {s mi : MI} {z1 : Int} {z2 : Int} {z3 : Int} {z4 : Int} {z5 : Int} {r : RT} {w : (Int × Int × Int) ⊕ ((Int) ⊕ (Int))} (g : gM E o)  (h : fWork_endOfTow_l13 z1 z2 z3 z4 z5 s = some w) (hK : Sum.elim (qWork_endOfTow_l13 G E o mi z1 z2 s r) (kWork_endOfTow_l13 G E o mi z1 z2 s r) w) : qWork_endOfTow_l13 G E o mi z1 z2 s r (z3, z4, z5) := by
  have hN1 := g.1
  have hN2 := g.2.1
  unfold fWork_endOfTow_l13 at h
  show sM (xWork_endOfTow G) 13 [some (.inr o), some (.inl z1), some (.inl z2), some (.inl z3), some (.inl z4), some (.inl z5)] [] E (sm_gl o 3 s mi) r
  refine sm_iload dX8_endOfTow_13 rfl ?_
  refine sm_bipush dX8_endOfTow_15 rfl ?_
  refine sc_icmp_ge (X' := sm_w z5) (Y' := 12) 68 dX8_endOfTow_17 rfl rfl (by decide) (fun c25 => ?_) (fun c25 => ?_)
  · rw [if_pos c25] at h
    cases h
    exact sm_less (lv' := [none, none, none, some (.inl z3), none, none]) ⟨rfl, trivial⟩ hK
  · rw [if_neg c25] at h
    refine sm_iload dX8_endOfTow_20 rfl ?_
    refine sm_bipush dX8_endOfTow_22 rfl ?_
    refine sc_icmp_eq (X' := sm_w z4) (Y' := (-5)) 68 dX8_endOfTow_24 rfl rfl (by decide) (fun c24 => ?_) (fun c24 => ?_)
    · rw [if_pos c24] at h
      cases h
      exact sm_less (lv' := [none, none, none, some (.inl z3), none, none]) ⟨rfl, trivial⟩ hK
    · rw [if_neg c24] at h
      refine sm_iload dX8_endOfTow_27 rfl ?_
      obtain ⟨p13, hp14, h⟩ := sl_bind h
      have hc15 := bDesk_regionOf (G := G) (E := E) (mi := (sm_gl o 3 s mi))   hp14
      refine sc_callS1 (avs := [.inl z4]) (st := []) lk_RX8_145 rfl sf_X9_regionOf hc15 ⟨(Nat.le_of_ble_eq_true rfl), (Nat.le_of_ble_eq_true rfl)⟩ ⟨rfl, (Nat.le_of_ble_eq_true rfl)⟩ rfl dX8_endOfTow_29 ?_
      refine sm_iload_n dX8_endOfTow_32 rfl ?_
      obtain ⟨p16, hp17, h⟩ := sl_bind h
      have hc18 := bDesk_regionOf (G := G) (E := E) (mi := (sm_gl o 3 s mi))   hp17
      refine sc_callS1 (avs := [.inl z1]) (st := [.inl p13]) lk_RX8_145 rfl sf_X9_regionOf hc18 ⟨(Nat.le_of_ble_eq_true rfl), (Nat.le_of_ble_eq_true rfl)⟩ ⟨rfl, (Nat.le_of_ble_eq_true rfl)⟩ rfl dX8_endOfTow_33 ?_
      refine sc_icmp_eq (X' := sm_w p13) (Y' := sm_w p16) 51 dX8_endOfTow_36 rfl rfl rfl (fun c23 => ?_) (fun c23 => ?_)
      · rw [if_pos c23] at h
        refine sm_iload dX8_endOfTow_51 rfl ?_
        refine sm_istore_n dX8_endOfTow_53 (Nat.le_of_ble_eq_true rfl) ?_
        refine sm_aload_n dX8_endOfTow_54 rfl ?_
        refine sm_iload_n dX8_endOfTow_55 rfl ?_
        refine sm_iload_n dX8_endOfTow_56 rfl ?_
        obtain ⟨p19, hp20, h⟩ := sl_bind h
        have hc21 := bMap_nextOnWay (G := G) (E := E) (o := o) (s := s) (mi := mi) g  hp20
        refine sc_callV1 (avs := [.inl z4, .inl z2]) (st := []) lk_RX8_186 rfl vf_X5_nextOnWay hc21 ⟨(Nat.le_of_ble_eq_true rfl), (Nat.le_of_ble_eq_true rfl)⟩ ⟨rfl, (Nat.le_of_ble_eq_true rfl)⟩ g.2.2.1 (by omega) rfl dX8_endOfTow_57 ?_
        refine sm_istore dX8_endOfTow_60 (Nat.le_of_ble_eq_true rfl) ?_
        refine sm_iinc dX8_endOfTow_62 (Nat.le_of_ble_eq_true rfl) rfl ?_
        refine sm_goto 13 dX8_endOfTow_65 rfl ?_
        cases h
        exact sm_less (lv' := [some (.inr o), some (.inl z1), some (.inl z2), some (.inl z4), some (.inl p19), some (.inl (z5 + 1))]) ⟨rfl, rfl, rfl, rfl, rfl, rfl, trivial⟩ hK
      · rw [if_neg c23] at h
        refine sm_iload_n dX8_endOfTow_39 rfl ?_
        refine sm_iload_n dX8_endOfTow_40 rfl ?_
        refine sc_icmp_ne (X' := sm_w z3) (Y' := sm_w z1) 49 dX8_endOfTow_41 rfl rfl rfl (fun c22 => ?_) (fun c22 => ?_)
        · rw [if_neg c22] at h
          refine sm_iload_n dX8_endOfTow_49 rfl ?_
          cases h
          have hK : (some (.inl z3), E, (sm_gl o 3 s mi)) = r := hK
          subst hK
          exact sm_ireturn dX8_endOfTow_50 (Or.inl rfl)
        · rw [if_pos c22] at h
          refine sm_iload dX8_endOfTow_44 rfl ?_
          refine sm_goto 50 dX8_endOfTow_46 rfl ?_
          cases h
          have hK : (some (.inl z4), E, (sm_gl o 3 s mi)) = r := hK
          subst hK
          exact sm_ireturn dX8_endOfTow_50 (Or.inl rfl)
def fWork_endOfTow (z1 : Int) (z2 : Int) (s : MI) : Option (Int) :=
  Option.bind (fMap_nextOnWay z1 z2 s) (fun p1 => Option.bind (sl_it (fun (t : Int × Int × Int) => fWork_endOfTow_l13 z1 z2 t.1 t.2.1 t.2.2 s) sl_fu (z1, p1, 0)) (fun y26 => Sum.elim (fun x28 => some x28) (fun v29 => some v29) y26))
set_option maxRecDepth 100000 in
set_option maxHeartbeats 4000000 in
theorem bWork_endOfTow {G : GT} {E : ET} {o : Nat} {s mi : MI} {z1 : Int} {z2 : Int} {w : Int} (g : gM E o)  (h : fWork_endOfTow z1 z2 s = some w) : cN G yX8_endOfTow cX8_endOfTow 6 (some .int) 1 25 [.inr o, .inl z1, .inl z2] E (sm_gl o 3 s mi) (some (.inl w), E, (sm_gl o 3 s mi)) := by
  have hN1 := g.1
  have hN2 := g.2.1
  unfold fWork_endOfTow at h
  refine sm_meth (by decide +kernel) (Nat.le_of_ble_eq_true rfl) ?_
  show sM (xWork_endOfTow G) 0 [some (.inr o), some (.inl z1), some (.inl z2), none, none, none] [] E (sm_gl o 3 s mi) _
  refine sm_iload_n dX8_endOfTow_0 rfl ?_
  refine sm_istore_n dX8_endOfTow_1 (Nat.le_of_ble_eq_true rfl) ?_
  refine sm_aload_n dX8_endOfTow_2 rfl ?_
  refine sm_iload_n dX8_endOfTow_3 rfl ?_
  refine sm_iload_n dX8_endOfTow_4 rfl ?_
  obtain ⟨p1, hp2, h⟩ := sl_bind h
  have hc3 := bMap_nextOnWay (G := G) (E := E) (o := o) (s := s) (mi := mi) g  hp2
  refine sc_callV1 (avs := [.inl z1, .inl z2]) (st := []) lk_RX8_186 rfl vf_X5_nextOnWay hc3 ⟨(Nat.le_of_ble_eq_true rfl), (Nat.le_of_ble_eq_true rfl)⟩ ⟨rfl, (Nat.le_of_ble_eq_true rfl)⟩ g.2.2.1 (by omega) rfl dX8_endOfTow_5 ?_
  refine sm_istore dX8_endOfTow_8 (Nat.le_of_ble_eq_true rfl) ?_
  refine sm_iconst dX8_endOfTow_10 ?_
  refine sm_istore dX8_endOfTow_11 (Nat.le_of_ble_eq_true rfl) ?_
  obtain ⟨y26, hy27, h⟩ := sl_bind h
  refine sm_less (lv' := [some (.inr o), some (.inl z1), some (.inl z2), some (.inl z1), some (.inl p1), some (.inl 0)]) ⟨rfl, rfl, rfl, rfl, rfl, rfl, trivial⟩ (sl_itE (P := qWork_endOfTow_l13 G E o mi z1 z2 s _) (K := kWork_endOfTow_l13 G E o mi z1 z2 s _) (fun t q hq hk => bWork_endOfTow_l13 g  hq hk) sl_fu _ y26 hy27 ?_)
  rcases y26 with x28 | v29
  · show sM (xWork_endOfTow G) 68 [none, none, none, some (.inl x28), none, none] [] E (sm_gl o 3 s mi) _
    dsimp only [Sum.elim_inl] at h
    refine sm_iload_n dX8_endOfTow_68 rfl ?_
    cases h
    exact sm_ireturn dX8_endOfTow_69 (Or.inl rfl)
  · dsimp only [Sum.elim_inr] at h
    cases h
    exact rfl
abbrev xWork_startTow (G : GT) : XT := (G, yX8_startTow.cls, cX8_startTow, 5, none, decide (yX8_startTow.name = "<init>"), 2, 50)
def fWork_startTow (d1 : Nat) (d2 : Nat) (s : MI) : Option (MI) :=
  Option.bind (fWork_nearestGarage (s d2 1) s) (fun p1 => Option.bind (fState_isGarage p1 s) (fun p4 => (if sm_w p4 = 0 then Option.bind (some (sm_up s d2 5 3)) (fun s27 => Option.bind (fPatrol_becomeFree (sm_lo d1 s27)) (fun p29 => Option.bind (some (sm_gl d1 1 p29 s27)) (fun s32 => some s32))) else if 0 ≤ sm_w p1 ∧ sm_w p1 < 5 then Option.bind (some (sm_up s (16 + (sm_w p1).toNat) 3 ((s (16 + (sm_w p1).toNat) 3) + 1))) (fun s9 => Option.bind (some (sm_up s9 d2 5 4)) (fun s11 => Option.bind (some (sm_up s11 d1 3 3)) (fun s13 => Option.bind (some (sm_up s13 d1 8 p1)) (fun s15 => Option.bind (fWork_endOfTow (s15 d2 1) (s15 (16 + (sm_w p1).toNat) 0) (sm_lo 1 s15)) (fun p17 => Option.bind (some (sm_up s15 d1 7 p17)) (fun s20 => Option.bind (fMap_between (s20 d2 1) (s20 d1 7) (sm_lo 1 s20)) (fun p22 => Option.bind (some (sm_up s20 d1 6 (sm_max 1 (2 * p22)))) (fun s25 => some s25)))))))) else none)))
set_option maxRecDepth 100000 in
set_option maxHeartbeats 4000000 in
theorem bWork_startTow {G : GT} {E : ET} {o : Nat} {s mi : MI} {d1 : Nat} {d2 : Nat} {w : MI} (g : gS E o) (gd1 : gO 3 E (o + d1)) (hd1 : d1 + 1 ≤ 61) (gd2 : gO 0 E (o + d2)) (hd2 : d2 + 1 ≤ 61) (h : fWork_startTow d1 d2 s = some w) : cN G yX8_startTow cX8_startTow 5 none 2 50 [.inr o, .inr (o + d1), .inr (o + d2)] E (sm_gl o 61 s mi) (none, E, sm_gl o 61 w mi) := by
  have hN1 := g.1
  have hN2 := g.2.1
  unfold fWork_startTow at h
  refine sm_meth (by decide +kernel) (Nat.le_of_ble_eq_true rfl) ?_
  show sM (xWork_startTow G) 0 [some (.inr o), some (.inr (o + d1)), some (.inr (o + d2)), none, none] [] E (sm_gl o 61 s mi) _
  refine sm_aload_n dX8_startTow_0 rfl ?_
  refine sm_aload_n dX8_startTow_1 rfl ?_
  refine sl_getI (D := d2) lf_RX8_102 fI_0_1 gd2.2.2 rfl (by omega) hN2 dX8_startTow_2 ?_
  obtain ⟨p1, hp2, h⟩ := sl_bind h
  have hc3 := bWork_nearestGarage (G := G) (E := E) (o := o) (s := s) (mi := mi) g  hp2
  refine sc_callS1 (avs := [.inr o, .inl (s d2 1)]) (st := []) lk_RX8_148 rfl sf_X8_nearestGarage hc3 ⟨(Nat.le_of_ble_eq_true rfl), (Nat.le_of_ble_eq_true rfl)⟩ ⟨rfl, (Nat.le_of_ble_eq_true rfl)⟩ rfl dX8_startTow_5 ?_
  refine sm_istore_n dX8_startTow_8 (Nat.le_of_ble_eq_true rfl) ?_
  refine sm_aload_n dX8_startTow_9 rfl ?_
  refine sm_iload_n dX8_startTow_10 rfl ?_
  obtain ⟨p4, hp5, h⟩ := sl_bind h
  have hc6 := bState_isGarage (G := G) (E := E) (o := o) (s := s) (mi := mi) g  hp5
  refine sc_callV1 (avs := [.inl p1]) (st := []) lk_RX8_151 rfl vf_X7_isGarage hc6 ⟨(Nat.le_of_ble_eq_true rfl), (Nat.le_of_ble_eq_true rfl)⟩ ⟨rfl, (Nat.le_of_ble_eq_true rfl)⟩ g.2.2.1 (by omega) rfl dX8_startTow_11 ?_
  refine sm_if_ne 27 dX8_startTow_14 rfl (fun c34 => ?_) (fun c34 => ?_)
  · rw [if_neg c34] at h
    refine sm_aload_n dX8_startTow_27 rfl ?_
    refine sm_getR lf_RX8_154 fR_5_5 g.2.2.1 (by omega) g.2.2.2.2.2.2.1.1.2 dX8_startTow_28 ?_
    refine sm_iload_n dX8_startTow_31 rfl ?_
    obtain ⟨q7, h⟩ := sl_guard h
    have xq7 := (sl_ix (m := 5) q7).2
    have e8 := g.2.2.2.2.2.2.1.2 (sm_w p1).toNat xq7
    refine sl_aald (k := (sm_w p1).toNat) (Or.inr (Or.inl rfl)) g.2.2.2.2.2.2.1.1.1 (by omega) (sl_ix (m := 5) q7) e8.1 dX8_startTow_32 ?_
    refine sm_astore dX8_startTow_33 (Nat.le_of_ble_eq_true rfl) ?_
    refine sm_aload dX8_startTow_35 rfl ?_
    refine sm_dup dX8_startTow_37 ?_
    refine sl_getI (D := (16 + (sm_w p1).toNat)) lf_RX8_158 fI_2_3 e8.2.2.2 rfl (by omega) hN2 dX8_startTow_38 ?_
    refine sm_iconst dX8_startTow_41 ?_
    refine sm_iadd dX8_startTow_42 ?_
    refine sl_putI (D := (16 + (sm_w p1).toNat)) lf_RX8_158 fP_2_3 (Or.inl rfl) e8.2.2.2 rfl (by omega) ⟨hN1, hN2⟩ dX8_startTow_43 ?_
    obtain ⟨s9, hs10, h⟩ := sl_bind h
    rw [Option.some.inj hs10]
    refine sm_aload_n dX8_startTow_46 rfl ?_
    refine sm_iconst dX8_startTow_47 ?_
    refine sl_putI (D := d2) lf_RX8_112 fP_0_5 (Or.inl rfl) gd2.2.2 rfl (by omega) ⟨hN1, hN2⟩ dX8_startTow_48 ?_
    obtain ⟨s11, hs12, h⟩ := sl_bind h
    rw [Option.some.inj hs12]
    refine sm_aload_n dX8_startTow_51 rfl ?_
    refine sm_iconst dX8_startTow_52 ?_
    refine sl_putI (D := d1) lf_RX8_55 fP_3_3 (Or.inl rfl) gd1.2.2 rfl (by omega) ⟨hN1, hN2⟩ dX8_startTow_53 ?_
    obtain ⟨s13, hs14, h⟩ := sl_bind h
    rw [Option.some.inj hs14]
    refine sm_aload_n dX8_startTow_56 rfl ?_
    refine sm_iload_n dX8_startTow_57 rfl ?_
    refine sl_putI (D := d1) lf_RX8_163 fP_3_8 (Or.inl rfl) gd1.2.2 rfl (by omega) ⟨hN1, hN2⟩ dX8_startTow_58 ?_
    obtain ⟨s15, hs16, h⟩ := sl_bind h
    rw [Option.some.inj hs16]
    refine sm_aload_n dX8_startTow_61 rfl ?_
    refine sm_aload_n dX8_startTow_62 rfl ?_
    refine sm_getR lf_RX8_95 fR_5_0 g.2.2.1 (by omega) g.2.2.2.1.2 dX8_startTow_63 ?_
    refine sm_aload_n dX8_startTow_66 rfl ?_
    refine sl_getI (D := d2) lf_RX8_102 fI_0_1 gd2.2.2 rfl (by omega) hN2 dX8_startTow_67 ?_
    refine sm_aload dX8_startTow_70 rfl ?_
    refine sl_getI (D := (16 + (sm_w p1).toNat)) lf_RX8_166 fI_2_0 e8.2.2.2 rfl (by omega) hN2 dX8_startTow_72 ?_
    obtain ⟨p17, hp18, h⟩ := sl_bind h
    have hc19 := bWork_endOfTow (G := G) (E := E) (o := o + 1) (s := (sm_lo 1 s15)) (mi := (sm_gl o 61 s15 mi)) g.2.2.2.1.1  hp18
    rw [gl_in (o := o) (D := 1) (ha := (rfl : o + 1 = o + 1)) (hD := (by omega : 1 + 3 ≤ 61))] at hc19
    refine sc_callS1 (avs := [.inr (o + 1), .inl (s15 d2 1), .inl (s15 (16 + (sm_w p1).toNat) 0)]) (st := [.inr (o + d1)]) lk_RX8_167 rfl sf_X8_endOfTow hc19 ⟨(Nat.le_of_ble_eq_true rfl), (Nat.le_of_ble_eq_true rfl)⟩ ⟨rfl, (Nat.le_of_ble_eq_true rfl)⟩ rfl dX8_startTow_75 ?_
    refine sl_putI (D := d1) lf_RX8_171 fP_3_7 (Or.inl rfl) gd1.2.2 rfl (by omega) ⟨hN1, hN2⟩ dX8_startTow_78 ?_
    obtain ⟨s20, hs21, h⟩ := sl_bind h
    rw [Option.some.inj hs21]
    refine sm_aload_n dX8_startTow_81 rfl ?_
    refine sm_iconst dX8_startTow_82 ?_
    refine sm_iconst dX8_startTow_83 ?_
    refine sm_aload_n dX8_startTow_84 rfl ?_
    refine sm_getR lf_RX8_95 fR_5_0 g.2.2.1 (by omega) g.2.2.2.1.2 dX8_startTow_85 ?_
    refine sm_aload_n dX8_startTow_88 rfl ?_
    refine sl_getI (D := d2) lf_RX8_102 fI_0_1 gd2.2.2 rfl (by omega) hN2 dX8_startTow_89 ?_
    refine sm_aload_n dX8_startTow_92 rfl ?_
    refine sl_getI (D := d1) lf_RX8_171 fI_3_7 gd1.2.2 rfl (by omega) hN2 dX8_startTow_93 ?_
    obtain ⟨p22, hp23, h⟩ := sl_bind h
    have hc24 := bMap_between (G := G) (E := E) (o := o + 1) (s := (sm_lo 1 s20)) (mi := (sm_gl o 61 s20 mi)) g.2.2.2.1.1  hp23
    rw [gl_in (o := o) (D := 1) (ha := (rfl : o + 1 = o + 1)) (hD := (by omega : 1 + 3 ≤ 61))] at hc24
    refine sc_callV1 (avs := [.inl (s20 d2 1), .inl (s20 d1 7)]) (st := [.inl 2, .inl 1, .inr (o + d1)]) lk_RX8_103 rfl vf_X5_between hc24 ⟨(Nat.le_of_ble_eq_true rfl), (Nat.le_of_ble_eq_true rfl)⟩ ⟨rfl, (Nat.le_of_ble_eq_true rfl)⟩ g.2.2.2.1.1.2.2.1 (by omega) rfl dX8_startTow_96 ?_
    refine sm_imul dX8_startTow_99 ?_
    refine sm_mmax lm_RX8_174 ⟨(Nat.le_of_ble_eq_true rfl), (Nat.le_of_ble_eq_true rfl)⟩ dX8_startTow_100 ?_
    refine sl_putI (D := d1) lf_RX8_41 fP_3_6 (Or.inl rfl) gd1.2.2 rfl (by omega) ⟨hN1, hN2⟩ dX8_startTow_103 ?_
    obtain ⟨s25, hs26, h⟩ := sl_bind h
    rw [Option.some.inj hs26]
    cases h
    exact sm_return rfl dX8_startTow_106
  · rw [if_pos c34] at h
    refine sm_aload_n dX8_startTow_17 rfl ?_
    refine sm_iconst dX8_startTow_18 ?_
    refine sl_putI (D := d2) lf_RX8_112 fP_0_5 (Or.inl rfl) gd2.2.2 rfl (by omega) ⟨hN1, hN2⟩ dX8_startTow_19 ?_
    obtain ⟨s27, hs28, h⟩ := sl_bind h
    rw [Option.some.inj hs28]
    refine sm_aload_n dX8_startTow_22 rfl ?_
    obtain ⟨p29, hp30, h⟩ := sl_bind h
    have hc31 := bPatrol_becomeFree (G := G) (E := E) (o := o + d1) (s := (sm_lo d1 s27)) (mi := (sm_gl o 61 s27 mi)) gd1  hp30
    rw [gl_in (o := o) (D := d1) (ha := (rfl : o + d1 = o + d1)) (hD := (by omega : d1 + 1 ≤ 61)), gl_out (o := o) (D := d1) (ha := (rfl : o + d1 = o + d1)) (hD := (by omega : d1 + 1 ≤ 61))] at hc31
    refine sc_callV0 (avs := []) (st := []) lk_RX8_75 rfl vf_X4_becomeFree hc31 ⟨(Nat.le_of_ble_eq_true rfl), (Nat.le_of_ble_eq_true rfl)⟩ ⟨rfl, (Nat.le_of_ble_eq_true rfl)⟩ gd1.2.2 (by omega) rfl dX8_startTow_23 ?_
    obtain ⟨s32, hs33, h⟩ := sl_bind h
    rw [Option.some.inj hs33]
    cases h
    exact sm_return rfl dX8_startTow_26
abbrev xWork_arrive (G : GT) : XT := (G, yX8_arrive.cls, cX8_arrive, 4, none, decide (yX8_arrive.name = "<init>"), 3, 74)
def fWork_arrive_j129 (d2 : Nat) (d3 : Nat) (s : MI) : Option (MI) :=
  Option.bind (some (sm_up s d2 5 3)) (fun s14 => Option.bind (fPatrol_becomeFree (sm_lo d3 s14)) (fun p16 => Option.bind (some (sm_gl d3 1 p16 s14)) (fun s19 => some s19)))
set_option maxRecDepth 100000 in
set_option maxHeartbeats 4000000 in
theorem bWork_arrive_j129 {G : GT} {E : ET} {o : Nat} {s mi : MI} {d2 : Nat} {d3 : Nat} {w : MI} (g : gS E o) (gd2 : gO 0 E (o + d2)) (hd2 : d2 + 1 ≤ 61) (gd3 : gO 3 E (o + d3)) (hd3 : d3 + 1 ≤ 61) (h : fWork_arrive_j129 d2 d3 s = some w) : sM (xWork_arrive G) 129 [none, none, some (.inr (o + d2)), some (.inr (o + d3))] [] E (sm_gl o 61 s mi) (none, E, sm_gl o 61 w mi) := by
  have hN1 := g.1
  have hN2 := g.2.1
  unfold fWork_arrive_j129 at h
  refine sm_aload_n dX8_arrive_129 rfl ?_
  refine sm_iconst dX8_arrive_130 ?_
  refine sl_putI (D := d2) lf_RX8_112 fP_0_5 (Or.inl rfl) gd2.2.2 rfl (by omega) ⟨hN1, hN2⟩ dX8_arrive_131 ?_
  obtain ⟨s14, hs15, h⟩ := sl_bind h
  rw [Option.some.inj hs15]
  refine sm_aload_n dX8_arrive_134 rfl ?_
  obtain ⟨p16, hp17, h⟩ := sl_bind h
  have hc18 := bPatrol_becomeFree (G := G) (E := E) (o := o + d3) (s := (sm_lo d3 s14)) (mi := (sm_gl o 61 s14 mi)) gd3  hp17
  rw [gl_in (o := o) (D := d3) (ha := (rfl : o + d3 = o + d3)) (hD := (by omega : d3 + 1 ≤ 61)), gl_out (o := o) (D := d3) (ha := (rfl : o + d3 = o + d3)) (hD := (by omega : d3 + 1 ≤ 61))] at hc18
  refine sc_callV0 (avs := []) (st := []) lk_RX8_75 rfl vf_X4_becomeFree hc18 ⟨(Nat.le_of_ble_eq_true rfl), (Nat.le_of_ble_eq_true rfl)⟩ ⟨rfl, (Nat.le_of_ble_eq_true rfl)⟩ gd3.2.2 (by omega) rfl dX8_arrive_135 ?_
  obtain ⟨s19, hs20, h⟩ := sl_bind h
  rw [Option.some.inj hs20]
  cases h
  exact sm_return rfl dX8_arrive_138
def fWork_arrive (z1 : Int) (d2 : Nat) (s : MI) : Option (MI) :=
  if 0 ≤ sm_w z1 ∧ sm_w z1 < 6 then Option.bind (some (sm_up s (10 + (sm_w z1).toNat) 4 (s d2 1))) (fun s3 => (if sm_w (s3 d2 5) = 3 then Option.bind (fWork_startTow (10 + (sm_w z1).toNat) d2 s3) (fun p39 => some p39) else Option.bind (some (sm_up s3 d2 6 z1)) (fun s5 => Option.bind (some (sm_up s5 d2 7 (s5 0 11))) (fun s7 => Option.bind (fBreakdown_waited (s7 0 11) (sm_lo d2 s7)) (fun p9 => Option.bind (some (sm_up s7 (10 + (sm_w z1).toNat) 12 ((s7 (10 + (sm_w z1).toNat) 12) + p9))) (fun s12 => (if sm_w (s12 (10 + (sm_w z1).toNat) 1) < sm_w ((s12 d2 2) - 3) then (if sm_w (s12 (10 + (sm_w z1).toNat) 2) = 0 then fWork_arrive_j129 d2 (10 + (sm_w z1).toNat) s12 else Option.bind (fDesk_regionOf (s12 (10 + (sm_w z1).toNat) 0)) (fun p21 => Option.bind (fDesk_regionOf (s12 d2 1)) (fun p24 => (if sm_w p21 = sm_w p24 then Option.bind (fWork_startTow (10 + (sm_w z1).toNat) d2 s12) (fun p27 => some p27) else fWork_arrive_j129 d2 (10 + (sm_w z1).toNat) s12)))) else Option.bind (some (sm_up s12 (10 + (sm_w z1).toNat) 3 2)) (fun s32 => Option.bind (some (sm_up s32 (10 + (sm_w z1).toNat) 6 (5 * (s32 d2 2)))) (fun s34 => Option.bind (some (sm_up s34 d2 5 2)) (fun s36 => some s36)))))))))) else none
set_option maxRecDepth 100000 in
set_option maxHeartbeats 4000000 in
theorem bWork_arrive {G : GT} {E : ET} {o : Nat} {s mi : MI} {z1 : Int} {d2 : Nat} {w : MI} (g : gS E o) (gd2 : gO 0 E (o + d2)) (hd2 : d2 + 1 ≤ 61) (h : fWork_arrive z1 d2 s = some w) : cN G yX8_arrive cX8_arrive 4 none 3 74 [.inr o, .inl z1, .inr (o + d2)] E (sm_gl o 61 s mi) (none, E, sm_gl o 61 w mi) := by
  have hN1 := g.1
  have hN2 := g.2.1
  unfold fWork_arrive at h
  refine sm_meth (by decide +kernel) (Nat.le_of_ble_eq_true rfl) ?_
  show sM (xWork_arrive G) 0 [some (.inr o), some (.inl z1), some (.inr (o + d2)), none] [] E (sm_gl o 61 s mi) _
  refine sm_aload_n dX8_arrive_0 rfl ?_
  refine sm_getR lf_RX8_15 fR_5_3 g.2.2.1 (by omega) g.2.2.2.2.2.1.1.2 dX8_arrive_1 ?_
  refine sm_iload_n dX8_arrive_4 rfl ?_
  obtain ⟨q1, h⟩ := sl_guard h
  have xq1 := (sl_ix (m := 6) q1).2
  have e2 := g.2.2.2.2.2.1.2 (sm_w z1).toNat xq1
  refine sl_aald (k := (sm_w z1).toNat) (Or.inl rfl) g.2.2.2.2.2.1.1.1 (by omega) (sl_ix (m := 6) q1) e2.1 dX8_arrive_5 ?_
  refine sm_astore_n dX8_arrive_6 (Nat.le_of_ble_eq_true rfl) ?_
  refine sm_aload_n dX8_arrive_7 rfl ?_
  refine sm_aload_n dX8_arrive_8 rfl ?_
  refine sl_getI (D := d2) lf_RX8_102 fI_0_1 gd2.2.2 rfl (by omega) hN2 dX8_arrive_9 ?_
  refine sl_putI (D := (10 + (sm_w z1).toNat)) lf_RX8_99 fP_3_4 (Or.inl rfl) e2.2.2.2 rfl (by omega) ⟨hN1, hN2⟩ dX8_arrive_12 ?_
  obtain ⟨s3, hs4, h⟩ := sl_bind h
  rw [Option.some.inj hs4]
  refine sm_aload_n dX8_arrive_15 rfl ?_
  refine sl_getI (D := d2) lf_RX8_112 fI_0_5 gd2.2.2 rfl (by omega) hN2 dX8_arrive_16 ?_
  refine sm_iconst dX8_arrive_19 ?_
  refine sc_icmp_ne (X' := sm_w (s3 d2 5)) (Y' := 3) 30 dX8_arrive_20 rfl rfl (by decide) (fun c42 => ?_) (fun c42 => ?_)
  · rw [if_neg c42] at h
    refine sm_aload_n dX8_arrive_30 rfl ?_
    refine sm_iload_n dX8_arrive_31 rfl ?_
    refine sl_putI (D := d2) lf_RX8_119 fP_0_6 (Or.inl rfl) gd2.2.2 rfl (by omega) ⟨hN1, hN2⟩ dX8_arrive_32 ?_
    obtain ⟨s5, hs6, h⟩ := sl_bind h
    rw [Option.some.inj hs6]
    refine sm_aload_n dX8_arrive_35 rfl ?_
    refine sm_aload_n dX8_arrive_36 rfl ?_
    refine sl_getI (D := 0) lf_RX8_35 fI_5_11 g.2.2.1 rfl (by omega) hN2 dX8_arrive_37 ?_
    refine sl_putI (D := d2) lf_RX8_122 fP_0_7 (Or.inl rfl) gd2.2.2 rfl (by omega) ⟨hN1, hN2⟩ dX8_arrive_40 ?_
    obtain ⟨s7, hs8, h⟩ := sl_bind h
    rw [Option.some.inj hs8]
    refine sm_aload_n dX8_arrive_43 rfl ?_
    refine sm_dup dX8_arrive_44 ?_
    refine sl_getI (D := (10 + (sm_w z1).toNat)) lf_RX8_125 fI_3_12 e2.2.2.2 rfl (by omega) hN2 dX8_arrive_45 ?_
    refine sm_aload_n dX8_arrive_48 rfl ?_
    refine sm_aload_n dX8_arrive_49 rfl ?_
    refine sl_getI (D := 0) lf_RX8_35 fI_5_11 g.2.2.1 rfl (by omega) hN2 dX8_arrive_50 ?_
    obtain ⟨p9, hp10, h⟩ := sl_bind h
    have hc11 := bBreakdown_waited (G := G) (E := E) (o := o + d2) (s := (sm_lo d2 s7)) (mi := (sm_gl o 61 s7 mi)) gd2  hp10
    rw [gl_in (o := o) (D := d2) (ha := (rfl : o + d2 = o + d2)) (hD := (by omega : d2 + 1 ≤ 61))] at hc11
    refine sc_callV1 (avs := [.inl (s7 0 11)]) (st := [.inl (s7 (10 + (sm_w z1).toNat) 12), .inr (o + (10 + (sm_w z1).toNat))]) lk_RX8_128 rfl vf_X1_waited hc11 ⟨(Nat.le_of_ble_eq_true rfl), (Nat.le_of_ble_eq_true rfl)⟩ ⟨rfl, (Nat.le_of_ble_eq_true rfl)⟩ gd2.2.2 (by omega) rfl dX8_arrive_53 ?_
    refine sm_iadd dX8_arrive_56 ?_
    refine sl_putI (D := (10 + (sm_w z1).toNat)) lf_RX8_125 fP_3_12 (Or.inl rfl) e2.2.2.2 rfl (by omega) ⟨hN1, hN2⟩ dX8_arrive_57 ?_
    obtain ⟨s12, hs13, h⟩ := sl_bind h
    rw [Option.some.inj hs13]
    refine sm_aload_n dX8_arrive_60 rfl ?_
    refine sl_getI (D := (10 + (sm_w z1).toNat)) lf_RX8_132 fI_3_1 e2.2.2.2 rfl (by omega) hN2 dX8_arrive_61 ?_
    refine sm_aload_n dX8_arrive_64 rfl ?_
    refine sl_getI (D := d2) lf_RX8_135 fI_0_2 gd2.2.2 rfl (by omega) hN2 dX8_arrive_65 ?_
    refine sm_iconst dX8_arrive_68 ?_
    refine sm_isub dX8_arrive_69 ?_
    refine sc_icmp_lt (X' := sm_w (s12 (10 + (sm_w z1).toNat) 1)) (Y' := sm_w ((s12 d2 2) - 3)) 96 dX8_arrive_70 rfl rfl rfl (fun c38 => ?_) (fun c38 => ?_)
    · rw [if_pos c38] at h
      refine sm_aload_n dX8_arrive_96 rfl ?_
      refine sl_getI (D := (10 + (sm_w z1).toNat)) lf_RX8_138 fI_3_2 e2.2.2.2 rfl (by omega) hN2 dX8_arrive_97 ?_
      refine sm_if_eq 129 dX8_arrive_100 rfl (fun c31 => ?_) (fun c31 => ?_)
      · rw [if_pos c31] at h
        exact sm_less (lv' := [none, none, some (.inr (o + d2)), some (.inr (o + (10 + (sm_w z1).toNat)))]) ⟨rfl, rfl, trivial⟩ (bWork_arrive_j129 g gd2 (by omega) e2.2 (by omega)  h)
      · rw [if_neg c31] at h
        refine sm_aload_n dX8_arrive_103 rfl ?_
        refine sl_getI (D := (10 + (sm_w z1).toNat)) lf_RX8_142 fI_3_0 e2.2.2.2 rfl (by omega) hN2 dX8_arrive_104 ?_
        obtain ⟨p21, hp22, h⟩ := sl_bind h
        have hc23 := bDesk_regionOf (G := G) (E := E) (mi := (sm_gl o 61 s12 mi))   hp22
        refine sc_callS1 (avs := [.inl (s12 (10 + (sm_w z1).toNat) 0)]) (st := []) lk_RX8_145 rfl sf_X9_regionOf hc23 ⟨(Nat.le_of_ble_eq_true rfl), (Nat.le_of_ble_eq_true rfl)⟩ ⟨rfl, (Nat.le_of_ble_eq_true rfl)⟩ rfl dX8_arrive_107 ?_
        refine sm_aload_n dX8_arrive_110 rfl ?_
        refine sl_getI (D := d2) lf_RX8_102 fI_0_1 gd2.2.2 rfl (by omega) hN2 dX8_arrive_111 ?_
        obtain ⟨p24, hp25, h⟩ := sl_bind h
        have hc26 := bDesk_regionOf (G := G) (E := E) (mi := (sm_gl o 61 s12 mi))   hp25
        refine sc_callS1 (avs := [.inl (s12 d2 1)]) (st := [.inl p21]) lk_RX8_145 rfl sf_X9_regionOf hc26 ⟨(Nat.le_of_ble_eq_true rfl), (Nat.le_of_ble_eq_true rfl)⟩ ⟨rfl, (Nat.le_of_ble_eq_true rfl)⟩ rfl dX8_arrive_114 ?_
        refine sc_icmp_ne (X' := sm_w p21) (Y' := sm_w p24) 129 dX8_arrive_117 rfl rfl rfl (fun c30 => ?_) (fun c30 => ?_)
        · rw [if_neg c30] at h
          exact sm_less (lv' := [none, none, some (.inr (o + d2)), some (.inr (o + (10 + (sm_w z1).toNat)))]) ⟨rfl, rfl, trivial⟩ (bWork_arrive_j129 g gd2 (by omega) e2.2 (by omega)  h)
        · rw [if_pos c30] at h
          refine sm_aload_n dX8_arrive_120 rfl ?_
          refine sm_aload_n dX8_arrive_121 rfl ?_
          refine sm_aload_n dX8_arrive_122 rfl ?_
          obtain ⟨p27, hp28, h⟩ := sl_bind h
          have hc29 := bWork_startTow (G := G) (E := E) (o := o) (s := s12) (mi := mi) g e2.2 (by omega) gd2 (by omega) hp28
          refine sc_callS0 (avs := [.inr o, .inr (o + (10 + (sm_w z1).toNat)), .inr (o + d2)]) (st := []) lk_RX8_115 rfl sf_X8_startTow hc29 ⟨(Nat.le_of_ble_eq_true rfl), (Nat.le_of_ble_eq_true rfl)⟩ ⟨rfl, (Nat.le_of_ble_eq_true rfl)⟩ rfl dX8_arrive_123 ?_
          refine sm_goto 138 dX8_arrive_126 rfl ?_
          cases h
          exact sm_return rfl dX8_arrive_138
    · rw [if_neg c38] at h
      refine sm_aload_n dX8_arrive_73 rfl ?_
      refine sm_iconst dX8_arrive_74 ?_
      refine sl_putI (D := (10 + (sm_w z1).toNat)) lf_RX8_55 fP_3_3 (Or.inl rfl) e2.2.2.2 rfl (by omega) ⟨hN1, hN2⟩ dX8_arrive_75 ?_
      obtain ⟨s32, hs33, h⟩ := sl_bind h
      rw [Option.some.inj hs33]
      refine sm_aload_n dX8_arrive_78 rfl ?_
      refine sm_iconst dX8_arrive_79 ?_
      refine sm_aload_n dX8_arrive_80 rfl ?_
      refine sl_getI (D := d2) lf_RX8_135 fI_0_2 gd2.2.2 rfl (by omega) hN2 dX8_arrive_81 ?_
      refine sm_imul dX8_arrive_84 ?_
      refine sl_putI (D := (10 + (sm_w z1).toNat)) lf_RX8_41 fP_3_6 (Or.inl rfl) e2.2.2.2 rfl (by omega) ⟨hN1, hN2⟩ dX8_arrive_85 ?_
      obtain ⟨s34, hs35, h⟩ := sl_bind h
      rw [Option.some.inj hs35]
      refine sm_aload_n dX8_arrive_88 rfl ?_
      refine sm_iconst dX8_arrive_89 ?_
      refine sl_putI (D := d2) lf_RX8_112 fP_0_5 (Or.inl rfl) gd2.2.2 rfl (by omega) ⟨hN1, hN2⟩ dX8_arrive_90 ?_
      obtain ⟨s36, hs37, h⟩ := sl_bind h
      rw [Option.some.inj hs37]
      refine sm_goto 138 dX8_arrive_93 rfl ?_
      cases h
      exact sm_return rfl dX8_arrive_138
  · rw [if_pos c42] at h
    refine sm_aload_n dX8_arrive_23 rfl ?_
    refine sm_aload_n dX8_arrive_24 rfl ?_
    refine sm_aload_n dX8_arrive_25 rfl ?_
    obtain ⟨p39, hp40, h⟩ := sl_bind h
    have hc41 := bWork_startTow (G := G) (E := E) (o := o) (s := s3) (mi := mi) g e2.2 (by omega) gd2 (by omega) hp40
    refine sc_callS0 (avs := [.inr o, .inr (o + (10 + (sm_w z1).toNat)), .inr (o + d2)]) (st := []) lk_RX8_115 rfl sf_X8_startTow hc41 ⟨(Nat.le_of_ble_eq_true rfl), (Nat.le_of_ble_eq_true rfl)⟩ ⟨rfl, (Nat.le_of_ble_eq_true rfl)⟩ rfl dX8_arrive_26 ?_
    cases h
    exact sm_return rfl dX8_arrive_29
abbrev xWork_endTow (G : GT) : XT := (G, yX8_endTow.cls, cX8_endTow, 6, (some .int), decide (yX8_endTow.name = "<init>"), 1, 22)
def fWork_endTow (d1 : Nat) (d2 : Nat) (s : MI) : Option (Int × MI) :=
  Option.bind (some (sm_up s d1 4 (s d1 7))) (fun s1 => Option.bind (some (sm_up s1 d1 10 ((s1 d1 10) + 1))) (fun s3 => Option.bind (fPatrol_becomeFree (sm_lo d1 s3)) (fun p5 => Option.bind (some (sm_gl d1 1 p5 s3)) (fun s8 => Option.bind (some (sm_up s8 d2 1 (s d1 7))) (fun s10 => Option.bind (some (sm_up s10 d2 5 3)) (fun s12 => Option.bind (fState_isGarage (s d1 8) s12) (fun p14 => (if sm_w p14 = 0 then some (0, s12) else if 0 ≤ sm_w (s d1 8) ∧ sm_w (s d1 8) < 5 then Option.bind (some (sm_up s12 (16 + (sm_w (s d1 8)).toNat) 3 ((s12 (16 + (sm_w (s d1 8)).toNat) 3) - 1))) (fun s19 => (if sm_w (s19 (16 + (sm_w (s d1 8)).toNat) 0) = sm_w (s d1 7) then Option.bind (some (sm_up s19 (16 + (sm_w (s d1 8)).toNat) 2 ((s19 (16 + (sm_w (s d1 8)).toNat) 2) + 1))) (fun s21 => Option.bind (some (sm_up s21 (16 + (sm_w (s d1 8)).toNat) 4 ((s21 (16 + (sm_w (s d1 8)).toNat) 4) + 1))) (fun s23 => Option.bind (some (sm_up s23 d2 9 (s d1 8))) (fun s25 => Option.bind (fBreakdown_end 6 (s25 0 11) (sm_lo d2 s25)) (fun p27 => Option.bind (some (sm_gl d2 1 p27 s25)) (fun s30 => some (1, s30)))))) else some (0, s19))) else none))))))))
set_option maxRecDepth 100000 in
set_option maxHeartbeats 4000000 in
theorem bWork_endTow {G : GT} {E : ET} {o : Nat} {s mi : MI} {d1 : Nat} {d2 : Nat} {w : Int × MI} (g : gS E o) (gd1 : gO 3 E (o + d1)) (hd1 : d1 + 1 ≤ 61) (gd2 : gO 0 E (o + d2)) (hd2 : d2 + 1 ≤ 61) (h : fWork_endTow d1 d2 s = some w) : cN G yX8_endTow cX8_endTow 6 (some .int) 1 22 [.inr o, .inr (o + d1), .inr (o + d2)] E (sm_gl o 61 s mi) (some (.inl w.1), E, sm_gl o 61 w.2 mi) := by
  have hN1 := g.1
  have hN2 := g.2.1
  unfold fWork_endTow at h
  refine sm_meth (by decide +kernel) (Nat.le_of_ble_eq_true rfl) ?_
  show sM (xWork_endTow G) 0 [some (.inr o), some (.inr (o + d1)), some (.inr (o + d2)), none, none, none] [] E (sm_gl o 61 s mi) _
  refine sm_aload_n dX8_endTow_0 rfl ?_
  refine sl_getI (D := d1) lf_RX8_171 fI_3_7 gd1.2.2 rfl (by omega) hN2 dX8_endTow_1 ?_
  refine sm_istore_n dX8_endTow_4 (Nat.le_of_ble_eq_true rfl) ?_
  refine sm_aload_n dX8_endTow_5 rfl ?_
  refine sl_getI (D := d1) lf_RX8_163 fI_3_8 gd1.2.2 rfl (by omega) hN2 dX8_endTow_6 ?_
  refine sm_istore dX8_endTow_9 (Nat.le_of_ble_eq_true rfl) ?_
  refine sm_aload_n dX8_endTow_11 rfl ?_
  refine sm_iload_n dX8_endTow_12 rfl ?_
  refine sl_putI (D := d1) lf_RX8_99 fP_3_4 (Or.inl rfl) gd1.2.2 rfl (by omega) ⟨hN1, hN2⟩ dX8_endTow_13 ?_
  obtain ⟨s1, hs2, h⟩ := sl_bind h
  rw [Option.some.inj hs2]
  refine sm_aload_n dX8_endTow_16 rfl ?_
  refine sm_dup dX8_endTow_17 ?_
  refine sl_getI (D := d1) lf_RX8_189 fI_3_10 gd1.2.2 rfl (by omega) hN2 dX8_endTow_18 ?_
  refine sm_iconst dX8_endTow_21 ?_
  refine sm_iadd dX8_endTow_22 ?_
  refine sl_putI (D := d1) lf_RX8_189 fP_3_10 (Or.inl rfl) gd1.2.2 rfl (by omega) ⟨hN1, hN2⟩ dX8_endTow_23 ?_
  obtain ⟨s3, hs4, h⟩ := sl_bind h
  rw [Option.some.inj hs4]
  refine sm_aload_n dX8_endTow_26 rfl ?_
  obtain ⟨p5, hp6, h⟩ := sl_bind h
  have hc7 := bPatrol_becomeFree (G := G) (E := E) (o := o + d1) (s := (sm_lo d1 s3)) (mi := (sm_gl o 61 s3 mi)) gd1  hp6
  rw [gl_in (o := o) (D := d1) (ha := (rfl : o + d1 = o + d1)) (hD := (by omega : d1 + 1 ≤ 61)), gl_out (o := o) (D := d1) (ha := (rfl : o + d1 = o + d1)) (hD := (by omega : d1 + 1 ≤ 61))] at hc7
  refine sc_callV0 (avs := []) (st := []) lk_RX8_75 rfl vf_X4_becomeFree hc7 ⟨(Nat.le_of_ble_eq_true rfl), (Nat.le_of_ble_eq_true rfl)⟩ ⟨rfl, (Nat.le_of_ble_eq_true rfl)⟩ gd1.2.2 (by omega) rfl dX8_endTow_27 ?_
  obtain ⟨s8, hs9, h⟩ := sl_bind h
  rw [Option.some.inj hs9]
  refine sm_aload_n dX8_endTow_30 rfl ?_
  refine sm_iload_n dX8_endTow_31 rfl ?_
  refine sl_putI (D := d2) lf_RX8_102 fP_0_1 (Or.inl rfl) gd2.2.2 rfl (by omega) ⟨hN1, hN2⟩ dX8_endTow_32 ?_
  obtain ⟨s10, hs11, h⟩ := sl_bind h
  rw [Option.some.inj hs11]
  refine sm_aload_n dX8_endTow_35 rfl ?_
  refine sm_iconst dX8_endTow_36 ?_
  refine sl_putI (D := d2) lf_RX8_112 fP_0_5 (Or.inl rfl) gd2.2.2 rfl (by omega) ⟨hN1, hN2⟩ dX8_endTow_37 ?_
  obtain ⟨s12, hs13, h⟩ := sl_bind h
  rw [Option.some.inj hs13]
  refine sm_aload_n dX8_endTow_40 rfl ?_
  refine sm_iload dX8_endTow_41 rfl ?_
  obtain ⟨p14, hp15, h⟩ := sl_bind h
  have hc16 := bState_isGarage (G := G) (E := E) (o := o) (s := s12) (mi := mi) g  hp15
  refine sc_callV1 (avs := [.inl (s d1 8)]) (st := []) lk_RX8_151 rfl vf_X7_isGarage hc16 ⟨(Nat.le_of_ble_eq_true rfl), (Nat.le_of_ble_eq_true rfl)⟩ ⟨rfl, (Nat.le_of_ble_eq_true rfl)⟩ g.2.2.1 (by omega) rfl dX8_endTow_43 ?_
  refine sm_if_ne 51 dX8_endTow_46 rfl (fun c33 => ?_) (fun c33 => ?_)
  · rw [if_neg c33] at h
    refine sm_aload_n dX8_endTow_51 rfl ?_
    refine sm_getR lf_RX8_154 fR_5_5 g.2.2.1 (by omega) g.2.2.2.2.2.2.1.1.2 dX8_endTow_52 ?_
    refine sm_iload dX8_endTow_55 rfl ?_
    obtain ⟨q17, h⟩ := sl_guard h
    have xq17 := (sl_ix (m := 5) q17).2
    have e18 := g.2.2.2.2.2.2.1.2 (sm_w (s d1 8)).toNat xq17
    refine sl_aald (k := (sm_w (s d1 8)).toNat) (Or.inr (Or.inl rfl)) g.2.2.2.2.2.2.1.1.1 (by omega) (sl_ix (m := 5) q17) e18.1 dX8_endTow_57 ?_
    refine sm_astore dX8_endTow_58 (Nat.le_of_ble_eq_true rfl) ?_
    refine sm_aload dX8_endTow_60 rfl ?_
    refine sm_dup dX8_endTow_62 ?_
    refine sl_getI (D := (16 + (sm_w (s d1 8)).toNat)) lf_RX8_158 fI_2_3 e18.2.2.2 rfl (by omega) hN2 dX8_endTow_63 ?_
    refine sm_iconst dX8_endTow_66 ?_
    refine sm_isub dX8_endTow_67 ?_
    refine sl_putI (D := (16 + (sm_w (s d1 8)).toNat)) lf_RX8_158 fP_2_3 (Or.inl rfl) e18.2.2.2 rfl (by omega) ⟨hN1, hN2⟩ dX8_endTow_68 ?_
    obtain ⟨s19, hs20, h⟩ := sl_bind h
    rw [Option.some.inj hs20]
    refine sm_aload dX8_endTow_71 rfl ?_
    refine sl_getI (D := (16 + (sm_w (s d1 8)).toNat)) lf_RX8_166 fI_2_0 e18.2.2.2 rfl (by omega) hN2 dX8_endTow_73 ?_
    refine sm_iload_n dX8_endTow_76 rfl ?_
    refine sc_icmp_eq (X' := sm_w (s19 (16 + (sm_w (s d1 8)).toNat) 0)) (Y' := sm_w (s d1 7)) 82 dX8_endTow_77 rfl rfl rfl (fun c32 => ?_) (fun c32 => ?_)
    · rw [if_pos c32] at h
      refine sm_aload dX8_endTow_82 rfl ?_
      refine sm_dup dX8_endTow_84 ?_
      refine sl_getI (D := (16 + (sm_w (s d1 8)).toNat)) lf_RX8_192 fI_2_2 e18.2.2.2 rfl (by omega) hN2 dX8_endTow_85 ?_
      refine sm_iconst dX8_endTow_88 ?_
      refine sm_iadd dX8_endTow_89 ?_
      refine sl_putI (D := (16 + (sm_w (s d1 8)).toNat)) lf_RX8_192 fP_2_2 (Or.inl rfl) e18.2.2.2 rfl (by omega) ⟨hN1, hN2⟩ dX8_endTow_90 ?_
      obtain ⟨s21, hs22, h⟩ := sl_bind h
      rw [Option.some.inj hs22]
      refine sm_aload dX8_endTow_93 rfl ?_
      refine sm_dup dX8_endTow_95 ?_
      refine sl_getI (D := (16 + (sm_w (s d1 8)).toNat)) lf_RX8_195 fI_2_4 e18.2.2.2 rfl (by omega) hN2 dX8_endTow_96 ?_
      refine sm_iconst dX8_endTow_99 ?_
      refine sm_iadd dX8_endTow_100 ?_
      refine sl_putI (D := (16 + (sm_w (s d1 8)).toNat)) lf_RX8_195 fP_2_4 (Or.inl rfl) e18.2.2.2 rfl (by omega) ⟨hN1, hN2⟩ dX8_endTow_101 ?_
      obtain ⟨s23, hs24, h⟩ := sl_bind h
      rw [Option.some.inj hs24]
      refine sm_aload_n dX8_endTow_104 rfl ?_
      refine sm_iload dX8_endTow_105 rfl ?_
      refine sl_putI (D := d2) lf_RX8_198 fP_0_9 (Or.inl rfl) gd2.2.2 rfl (by omega) ⟨hN1, hN2⟩ dX8_endTow_107 ?_
      obtain ⟨s25, hs26, h⟩ := sl_bind h
      rw [Option.some.inj hs26]
      refine sm_aload_n dX8_endTow_110 rfl ?_
      refine sm_bipush dX8_endTow_111 rfl ?_
      refine sm_aload_n dX8_endTow_113 rfl ?_
      refine sl_getI (D := 0) lf_RX8_35 fI_5_11 g.2.2.1 rfl (by omega) hN2 dX8_endTow_114 ?_
      obtain ⟨p27, hp28, h⟩ := sl_bind h
      have hc29 := bBreakdown_end (G := G) (E := E) (o := o + d2) (s := (sm_lo d2 s25)) (mi := (sm_gl o 61 s25 mi)) gd2  hp28
      rw [gl_in (o := o) (D := d2) (ha := (rfl : o + d2 = o + d2)) (hD := (by omega : d2 + 1 ≤ 61)), gl_out (o := o) (D := d2) (ha := (rfl : o + d2 = o + d2)) (hD := (by omega : d2 + 1 ≤ 61))] at hc29
      refine sc_callV0 (avs := [.inl 6, .inl (s25 0 11)]) (st := []) lk_RX8_66 rfl vf_X1_end hc29 ⟨(Nat.le_of_ble_eq_true rfl), (Nat.le_of_ble_eq_true rfl)⟩ ⟨rfl, (Nat.le_of_ble_eq_true rfl)⟩ gd2.2.2 (by omega) rfl dX8_endTow_117 ?_
      obtain ⟨s30, hs31, h⟩ := sl_bind h
      rw [Option.some.inj hs31]
      refine sm_iconst dX8_endTow_120 ?_
      cases h
      exact sm_ireturn dX8_endTow_121 (Or.inl rfl)
    · rw [if_neg c32] at h
      refine sm_iconst dX8_endTow_80 ?_
      cases h
      exact sm_ireturn dX8_endTow_81 (Or.inl rfl)
  · rw [if_pos c33] at h
    refine sm_iconst dX8_endTow_49 ?_
    cases h
    exact sm_ireturn dX8_endTow_50 (Or.inl rfl)
abbrev xWork_goOn (G : GT) : XT := (G, yX8_goOn.cls, cX8_goOn, 4, (some .int), decide (yX8_goOn.name = "<init>"), 4, 97)
def fWork_goOn (z1 : Int) (s : MI) : Option (Int × MI) :=
  if 0 ≤ sm_w z1 ∧ sm_w z1 < 6 then Option.bind (some (sm_up s (10 + (sm_w z1).toNat) 13 ((s (10 + (sm_w z1).toNat) 13) + 1))) (fun s3 => Option.bind (some (sm_up s3 (10 + (sm_w z1).toNat) 6 ((s3 (10 + (sm_w z1).toNat) 6) - 1))) (fun s5 => (if 0 < sm_w (s5 (10 + (sm_w z1).toNat) 6) then some (0, s5) else Option.bind (fState_isCall (s5 (10 + (sm_w z1).toNat) 5) s5) (fun p7 => (if sm_w p7 = 0 then some (0, s5) else if 0 ≤ sm_w (s5 (10 + (sm_w z1).toNat) 5) ∧ sm_w (s5 (10 + (sm_w z1).toNat) 5) < 40 then (if sm_w (s5 (10 + (sm_w z1).toNat) 3) = 1 then Option.bind (fWork_arrive z1 (21 + (sm_w (s5 (10 + (sm_w z1).toNat) 5)).toNat) s5) (fun p28 => some (0, p28)) else (if sm_w (s5 (10 + (sm_w z1).toNat) 3) = 3 then Option.bind (fWork_endTow (10 + (sm_w z1).toNat) (21 + (sm_w (s5 (10 + (sm_w z1).toNat) 5)).toNat) s5) (fun p24 => some (p24.1, p24.2)) else Option.bind (fBreakdown_end 5 (s5 0 11) (sm_lo (21 + (sm_w (s5 (10 + (sm_w z1).toNat) 5)).toNat) s5)) (fun p12 => Option.bind (some (sm_gl (21 + (sm_w (s5 (10 + (sm_w z1).toNat) 5)).toNat) 1 p12 s5)) (fun s15 => Option.bind (some (sm_up s15 (10 + (sm_w z1).toNat) 9 ((s15 (10 + (sm_w z1).toNat) 9) + 1))) (fun s17 => Option.bind (fPatrol_becomeFree (sm_lo (10 + (sm_w z1).toNat) s17)) (fun p19 => Option.bind (some (sm_gl (10 + (sm_w z1).toNat) 1 p19 s17)) (fun s22 => some (1, s22)))))))) else none))))) else none
set_option maxRecDepth 100000 in
set_option maxHeartbeats 4000000 in
theorem bWork_goOn {G : GT} {E : ET} {o : Nat} {s mi : MI} {z1 : Int} {w : Int × MI} (g : gS E o)  (h : fWork_goOn z1 s = some w) : cN G yX8_goOn cX8_goOn 4 (some .int) 4 97 [.inr o, .inl z1] E (sm_gl o 61 s mi) (some (.inl w.1), E, sm_gl o 61 w.2 mi) := by
  have hN1 := g.1
  have hN2 := g.2.1
  unfold fWork_goOn at h
  refine sm_meth (by decide +kernel) (Nat.le_of_ble_eq_true rfl) ?_
  show sM (xWork_goOn G) 0 [some (.inr o), some (.inl z1), none, none] [] E (sm_gl o 61 s mi) _
  refine sm_aload_n dX8_goOn_0 rfl ?_
  refine sm_getR lf_RX8_15 fR_5_3 g.2.2.1 (by omega) g.2.2.2.2.2.1.1.2 dX8_goOn_1 ?_
  refine sm_iload_n dX8_goOn_4 rfl ?_
  obtain ⟨q1, h⟩ := sl_guard h
  have xq1 := (sl_ix (m := 6) q1).2
  have e2 := g.2.2.2.2.2.1.2 (sm_w z1).toNat xq1
  refine sl_aald (k := (sm_w z1).toNat) (Or.inl rfl) g.2.2.2.2.2.1.1.1 (by omega) (sl_ix (m := 6) q1) e2.1 dX8_goOn_5 ?_
  refine sm_astore_n dX8_goOn_6 (Nat.le_of_ble_eq_true rfl) ?_
  refine sm_aload_n dX8_goOn_7 rfl ?_
  refine sm_dup dX8_goOn_8 ?_
  refine sl_getI (D := (10 + (sm_w z1).toNat)) lf_RX8_38 fI_3_13 e2.2.2.2 rfl (by omega) hN2 dX8_goOn_9 ?_
  refine sm_iconst dX8_goOn_12 ?_
  refine sm_iadd dX8_goOn_13 ?_
  refine sl_putI (D := (10 + (sm_w z1).toNat)) lf_RX8_38 fP_3_13 (Or.inl rfl) e2.2.2.2 rfl (by omega) ⟨hN1, hN2⟩ dX8_goOn_14 ?_
  obtain ⟨s3, hs4, h⟩ := sl_bind h
  rw [Option.some.inj hs4]
  refine sm_aload_n dX8_goOn_17 rfl ?_
  refine sm_dup dX8_goOn_18 ?_
  refine sl_getI (D := (10 + (sm_w z1).toNat)) lf_RX8_41 fI_3_6 e2.2.2.2 rfl (by omega) hN2 dX8_goOn_19 ?_
  refine sm_iconst dX8_goOn_22 ?_
  refine sm_isub dX8_goOn_23 ?_
  refine sl_putI (D := (10 + (sm_w z1).toNat)) lf_RX8_41 fP_3_6 (Or.inl rfl) e2.2.2.2 rfl (by omega) ⟨hN1, hN2⟩ dX8_goOn_24 ?_
  obtain ⟨s5, hs6, h⟩ := sl_bind h
  rw [Option.some.inj hs6]
  refine sm_aload_n dX8_goOn_27 rfl ?_
  refine sl_getI (D := (10 + (sm_w z1).toNat)) lf_RX8_41 fI_3_6 e2.2.2.2 rfl (by omega) hN2 dX8_goOn_28 ?_
  refine sm_if_gt 45 dX8_goOn_31 rfl (fun c33 => ?_) (fun c33 => ?_)
  · rw [if_pos c33] at h
    refine sm_iconst dX8_goOn_45 ?_
    cases h
    exact sm_ireturn dX8_goOn_46 (Or.inl rfl)
  · rw [if_neg c33] at h
    refine sm_aload_n dX8_goOn_34 rfl ?_
    refine sm_aload_n dX8_goOn_35 rfl ?_
    refine sl_getI (D := (10 + (sm_w z1).toNat)) lf_RX8_44 fI_3_5 e2.2.2.2 rfl (by omega) hN2 dX8_goOn_36 ?_
    obtain ⟨p7, hp8, h⟩ := sl_bind h
    have hc9 := bState_isCall (G := G) (E := E) (o := o) (s := s5) (mi := mi) g  hp8
    refine sc_callV1 (avs := [.inl (s5 (10 + (sm_w z1).toNat) 5)]) (st := []) lk_RX8_47 rfl vf_X7_isCall hc9 ⟨(Nat.le_of_ble_eq_true rfl), (Nat.le_of_ble_eq_true rfl)⟩ ⟨rfl, (Nat.le_of_ble_eq_true rfl)⟩ g.2.2.1 (by omega) rfl dX8_goOn_39 ?_
    refine sm_if_ne 47 dX8_goOn_42 rfl (fun c32 => ?_) (fun c32 => ?_)
    · rw [if_neg c32] at h
      refine sm_aload_n dX8_goOn_47 rfl ?_
      refine sm_getR lf_RX8_51 fR_5_7 g.2.2.1 (by omega) g.2.2.2.2.2.2.2.1.1.2 dX8_goOn_48 ?_
      refine sm_aload_n dX8_goOn_51 rfl ?_
      refine sl_getI (D := (10 + (sm_w z1).toNat)) lf_RX8_44 fI_3_5 e2.2.2.2 rfl (by omega) hN2 dX8_goOn_52 ?_
      obtain ⟨q10, h⟩ := sl_guard h
      have xq10 := (sl_ix (m := 40) q10).2
      have e11 := g.2.2.2.2.2.2.2.1.2 (sm_w (s5 (10 + (sm_w z1).toNat) 5)).toNat xq10
      refine sl_aald (k := (sm_w (s5 (10 + (sm_w z1).toNat) 5)).toNat) (Or.inr (Or.inr (Or.inl rfl))) g.2.2.2.2.2.2.2.1.1.1 (by omega) (sl_ix (m := 40) q10) e11.1 dX8_goOn_55 ?_
      refine sm_astore_n dX8_goOn_56 (Nat.le_of_ble_eq_true rfl) ?_
      refine sm_aload_n dX8_goOn_57 rfl ?_
      refine sl_getI (D := (10 + (sm_w z1).toNat)) lf_RX8_55 fI_3_3 e2.2.2.2 rfl (by omega) hN2 dX8_goOn_58 ?_
      refine sm_iconst dX8_goOn_61 ?_
      refine sc_icmp_ne (X' := sm_w (s5 (10 + (sm_w z1).toNat) 3)) (Y' := 1) 73 dX8_goOn_62 rfl rfl (by decide) (fun c31 => ?_) (fun c31 => ?_)
      · rw [if_neg c31] at h
        refine sm_aload_n dX8_goOn_73 rfl ?_
        refine sl_getI (D := (10 + (sm_w z1).toNat)) lf_RX8_55 fI_3_3 e2.2.2.2 rfl (by omega) hN2 dX8_goOn_74 ?_
        refine sm_iconst dX8_goOn_77 ?_
        refine sc_icmp_ne (X' := sm_w (s5 (10 + (sm_w z1).toNat) 3)) (Y' := 3) 88 dX8_goOn_78 rfl rfl (by decide) (fun c27 => ?_) (fun c27 => ?_)
        · rw [if_neg c27] at h
          refine sm_aload_n dX8_goOn_88 rfl ?_
          refine sm_iconst dX8_goOn_89 ?_
          refine sm_aload_n dX8_goOn_90 rfl ?_
          refine sl_getI (D := 0) lf_RX8_35 fI_5_11 g.2.2.1 rfl (by omega) hN2 dX8_goOn_91 ?_
          obtain ⟨p12, hp13, h⟩ := sl_bind h
          have hc14 := bBreakdown_end (G := G) (E := E) (o := o + (21 + (sm_w (s5 (10 + (sm_w z1).toNat) 5)).toNat)) (s := (sm_lo (21 + (sm_w (s5 (10 + (sm_w z1).toNat) 5)).toNat) s5)) (mi := (sm_gl o 61 s5 mi)) e11.2  hp13
          rw [gl_in (o := o) (D := (21 + (sm_w (s5 (10 + (sm_w z1).toNat) 5)).toNat)) (ha := (rfl : o + (21 + (sm_w (s5 (10 + (sm_w z1).toNat) 5)).toNat) = o + (21 + (sm_w (s5 (10 + (sm_w z1).toNat) 5)).toNat))) (hD := (by omega : (21 + (sm_w (s5 (10 + (sm_w z1).toNat) 5)).toNat) + 1 ≤ 61)), gl_out (o := o) (D := (21 + (sm_w (s5 (10 + (sm_w z1).toNat) 5)).toNat)) (ha := (rfl : o + (21 + (sm_w (s5 (10 + (sm_w z1).toNat) 5)).toNat) = o + (21 + (sm_w (s5 (10 + (sm_w z1).toNat) 5)).toNat))) (hD := (by omega : (21 + (sm_w (s5 (10 + (sm_w z1).toNat) 5)).toNat) + 1 ≤ 61))] at hc14
          refine sc_callV0 (avs := [.inl 5, .inl (s5 0 11)]) (st := []) lk_RX8_66 rfl vf_X1_end hc14 ⟨(Nat.le_of_ble_eq_true rfl), (Nat.le_of_ble_eq_true rfl)⟩ ⟨rfl, (Nat.le_of_ble_eq_true rfl)⟩ e11.2.2.2 (by omega) rfl dX8_goOn_94 ?_
          obtain ⟨s15, hs16, h⟩ := sl_bind h
          rw [Option.some.inj hs16]
          refine sm_aload_n dX8_goOn_97 rfl ?_
          refine sm_dup dX8_goOn_98 ?_
          refine sl_getI (D := (10 + (sm_w z1).toNat)) lf_RX8_72 fI_3_9 e2.2.2.2 rfl (by omega) hN2 dX8_goOn_99 ?_
          refine sm_iconst dX8_goOn_102 ?_
          refine sm_iadd dX8_goOn_103 ?_
          refine sl_putI (D := (10 + (sm_w z1).toNat)) lf_RX8_72 fP_3_9 (Or.inl rfl) e2.2.2.2 rfl (by omega) ⟨hN1, hN2⟩ dX8_goOn_104 ?_
          obtain ⟨s17, hs18, h⟩ := sl_bind h
          rw [Option.some.inj hs18]
          refine sm_aload_n dX8_goOn_107 rfl ?_
          obtain ⟨p19, hp20, h⟩ := sl_bind h
          have hc21 := bPatrol_becomeFree (G := G) (E := E) (o := o + (10 + (sm_w z1).toNat)) (s := (sm_lo (10 + (sm_w z1).toNat) s17)) (mi := (sm_gl o 61 s17 mi)) e2.2  hp20
          rw [gl_in (o := o) (D := (10 + (sm_w z1).toNat)) (ha := (rfl : o + (10 + (sm_w z1).toNat) = o + (10 + (sm_w z1).toNat))) (hD := (by omega : (10 + (sm_w z1).toNat) + 1 ≤ 61)), gl_out (o := o) (D := (10 + (sm_w z1).toNat)) (ha := (rfl : o + (10 + (sm_w z1).toNat) = o + (10 + (sm_w z1).toNat))) (hD := (by omega : (10 + (sm_w z1).toNat) + 1 ≤ 61))] at hc21
          refine sc_callV0 (avs := []) (st := []) lk_RX8_75 rfl vf_X4_becomeFree hc21 ⟨(Nat.le_of_ble_eq_true rfl), (Nat.le_of_ble_eq_true rfl)⟩ ⟨rfl, (Nat.le_of_ble_eq_true rfl)⟩ e2.2.2.2 (by omega) rfl dX8_goOn_108 ?_
          obtain ⟨s22, hs23, h⟩ := sl_bind h
          rw [Option.some.inj hs23]
          refine sm_iconst dX8_goOn_111 ?_
          cases h
          exact sm_ireturn dX8_goOn_112 (Or.inl rfl)
        · rw [if_pos c27] at h
          refine sm_aload_n dX8_goOn_81 rfl ?_
          refine sm_aload_n dX8_goOn_82 rfl ?_
          refine sm_aload_n dX8_goOn_83 rfl ?_
          obtain ⟨p24, hp25, h⟩ := sl_bind h
          have hc26 := bWork_endTow (G := G) (E := E) (o := o) (s := s5) (mi := mi) g e2.2 (by omega) e11.2 (by omega) hp25
          refine sc_callS1 (avs := [.inr o, .inr (o + (10 + (sm_w z1).toNat)), .inr (o + (21 + (sm_w (s5 (10 + (sm_w z1).toNat) 5)).toNat))]) (st := []) lk_RX8_62 rfl sf_X8_endTow hc26 ⟨(Nat.le_of_ble_eq_true rfl), (Nat.le_of_ble_eq_true rfl)⟩ ⟨rfl, (Nat.le_of_ble_eq_true rfl)⟩ rfl dX8_goOn_84 ?_
          cases h
          exact sm_ireturn dX8_goOn_87 (Or.inl rfl)
      · rw [if_pos c31] at h
        refine sm_aload_n dX8_goOn_65 rfl ?_
        refine sm_iload_n dX8_goOn_66 rfl ?_
        refine sm_aload_n dX8_goOn_67 rfl ?_
        obtain ⟨p28, hp29, h⟩ := sl_bind h
        have hc30 := bWork_arrive (G := G) (E := E) (o := o) (s := s5) (mi := mi) g e11.2 (by omega) hp29
        refine sc_callS0 (avs := [.inr o, .inl z1, .inr (o + (21 + (sm_w (s5 (10 + (sm_w z1).toNat) 5)).toNat))]) (st := []) lk_RX8_58 rfl sf_X8_arrive hc30 ⟨(Nat.le_of_ble_eq_true rfl), (Nat.le_of_ble_eq_true rfl)⟩ ⟨rfl, (Nat.le_of_ble_eq_true rfl)⟩ rfl dX8_goOn_68 ?_
        refine sm_iconst dX8_goOn_71 ?_
        cases h
        exact sm_ireturn dX8_goOn_72 (Or.inl rfl)
    · rw [if_pos c32] at h
      refine sm_iconst dX8_goOn_45 ?_
      cases h
      exact sm_ireturn dX8_goOn_46 (Or.inl rfl)
abbrev xWork_sendPatrols (G : GT) : XT := (G, yX8_sendPatrols.cls, cX8_sendPatrols, 7, none, decide (yX8_sendPatrols.name = "<init>"), 4, 97)
abbrev qWork_sendPatrols_l7 (G : GT) (E : ET) (o : Nat) (mi : MI) (z1 : Int) (r : RT) (t : Int × MI) : Prop := sM (xWork_sendPatrols G) 7 [some (.inr o), some (.inl z1), some (.inl t.1), none, none, none, none] [] E (sm_gl o 61 t.2 mi) r
abbrev kWork_sendPatrols_l7 (G : GT) (E : ET) (o : Nat) (mi : MI) (z1 : Int) (r : RT) (x : MI) : Prop := sM (xWork_sendPatrols G) 140 [none, none, none, none, none, none, none] [] E (sm_gl o 61 x mi) r
def fWork_sendPatrols_j134_l7 (z1 : Int) (z2 : Int) (s : MI) : Option ((Int × MI) ⊕ (MI)) :=
  some (.inl ((z2 + 1), s))
set_option maxRecDepth 100000 in
set_option maxHeartbeats 4000000 in
theorem bWork_sendPatrols_j134_l7 {G : GT} {E : ET} {o : Nat} {s mi : MI} {z1 : Int} {z2 : Int} {r : RT} {w : (Int × MI) ⊕ (MI)} (g : gS E o)  (h : fWork_sendPatrols_j134_l7 z1 z2 s = some w) (hK : Sum.elim (qWork_sendPatrols_l7 G E o mi z1 r) (kWork_sendPatrols_l7 G E o mi z1 r) w) : sM (xWork_sendPatrols G) 134 [some (.inr o), some (.inl z1), some (.inl z2), none, none, none, none] [] E (sm_gl o 61 s mi) r := by
  have hN1 := g.1
  have hN2 := g.2.1
  unfold fWork_sendPatrols_j134_l7 at h
  refine sm_iinc dX8_sendPatrols_134 (Nat.le_of_ble_eq_true rfl) rfl ?_
  refine sm_goto 7 dX8_sendPatrols_137 rfl ?_
  cases h
  exact sm_less (lv' := [some (.inr o), some (.inl z1), some (.inl (z2 + 1)), none, none, none, none]) ⟨rfl, rfl, rfl, trivial⟩ hK
def fWork_sendPatrols_j115_l7 (z1 : Int) (z2 : Int) (d4 : Nat) (z5 : Int) (d6 : Nat) (e0 : Nat) (y1 : Int) (s : MI) : Option ((Int × MI) ⊕ (MI)) :=
  Option.bind (some (sm_up s e0 5 y1)) (fun s26 => (if sm_w (s26 d6 6) = 0 then Option.bind (fWork_arrive z5 d4 s26) (fun p28 => fWork_sendPatrols_j134_l7 z1 z2 p28) else fWork_sendPatrols_j134_l7 z1 z2 s26))
set_option maxRecDepth 100000 in
set_option maxHeartbeats 4000000 in
theorem bWork_sendPatrols_j115_l7 {G : GT} {E : ET} {o : Nat} {s mi : MI} {z1 : Int} {z2 : Int} {d4 : Nat} {z5 : Int} {d6 : Nat} {e0 : Nat} {y1 : Int} {r : RT} {w : (Int × MI) ⊕ (MI)} (g : gS E o) (gd4 : gO 0 E (o + d4)) (hd4 : d4 + 1 ≤ 61) (gd6 : gO 3 E (o + d6)) (hd6 : d6 + 1 ≤ 61) (ge0 : gO 0 E (o + e0)) (he0 : e0 + 1 ≤ 61) (h : fWork_sendPatrols_j115_l7 z1 z2 d4 z5 d6 e0 y1 s = some w) (hK : Sum.elim (qWork_sendPatrols_l7 G E o mi z1 r) (kWork_sendPatrols_l7 G E o mi z1 r) w) : sM (xWork_sendPatrols G) 115 [some (.inr o), some (.inl z1), some (.inl z2), none, some (.inr (o + d4)), some (.inl z5), some (.inr (o + d6))] [.inl y1, .inr (o + e0)] E (sm_gl o 61 s mi) r := by
  have hN1 := g.1
  have hN2 := g.2.1
  unfold fWork_sendPatrols_j115_l7 at h
  refine sl_putI (D := e0) lf_RX8_112 fP_0_5 (Or.inl rfl) ge0.2.2 rfl (by omega) ⟨hN1, hN2⟩ dX8_sendPatrols_115 ?_
  obtain ⟨s26, hs27, h⟩ := sl_bind h
  rw [Option.some.inj hs27]
  refine sm_aload dX8_sendPatrols_118 rfl ?_
  refine sl_getI (D := d6) lf_RX8_41 fI_3_6 gd6.2.2 rfl (by omega) hN2 dX8_sendPatrols_120 ?_
  refine sm_if_ne 134 dX8_sendPatrols_123 rfl (fun c31 => ?_) (fun c31 => ?_)
  · rw [if_neg c31] at h
    exact sm_less (lv' := [some (.inr o), some (.inl z1), some (.inl z2), none, none, none, none]) ⟨rfl, rfl, rfl, trivial⟩ (bWork_sendPatrols_j134_l7 g   h hK)
  · rw [if_pos c31] at h
    refine sm_aload_n dX8_sendPatrols_126 rfl ?_
    refine sm_iload dX8_sendPatrols_127 rfl ?_
    refine sm_aload dX8_sendPatrols_129 rfl ?_
    obtain ⟨p28, hp29, h⟩ := sl_bind h
    have hc30 := bWork_arrive (G := G) (E := E) (o := o) (s := s26) (mi := mi) g gd4 (by omega) hp29
    refine sc_callS0 (avs := [.inr o, .inl z5, .inr (o + d4)]) (st := []) lk_RX8_58 rfl sf_X8_arrive hc30 ⟨(Nat.le_of_ble_eq_true rfl), (Nat.le_of_ble_eq_true rfl)⟩ ⟨rfl, (Nat.le_of_ble_eq_true rfl)⟩ rfl dX8_sendPatrols_131 ?_
    exact sm_less (lv' := [some (.inr o), some (.inl z1), some (.inl z2), none, none, none, none]) ⟨rfl, rfl, rfl, trivial⟩ (bWork_sendPatrols_j134_l7 g   h hK)
def fWork_sendPatrols_l7 (z1 : Int) (z2 : Int) (s : MI) : Option ((Int × MI) ⊕ (MI)) :=
  (if sm_w z1 ≤ sm_w z2 then some (.inr s) else (if 40 ≤ sm_w z2 then some (.inr s) else if 0 ≤ sm_w z2 ∧ sm_w z2 < 40 then Option.bind (fState_isCall (s 9 (sm_w z2).toNat) s) (fun p5 => (if sm_w p5 = 0 then fWork_sendPatrols_j134_l7 z1 z2 s else if 0 ≤ sm_w (s 9 (sm_w z2).toNat) ∧ sm_w (s 9 (sm_w z2).toNat) < 40 then Option.bind (fSending_nearestPatrol (21 + (sm_w (s 9 (sm_w z2).toNat)).toNat) s) (fun p10 => Option.bind (fState_isPatrol p10 s) (fun p13 => (if sm_w p13 = 0 then fWork_sendPatrols_j134_l7 z1 z2 s else if 0 ≤ sm_w p10 ∧ sm_w p10 < 6 then Option.bind (fMap_between (s (10 + (sm_w p10).toNat) 4) (s (21 + (sm_w (s 9 (sm_w z2).toNat)).toNat) 1) (sm_lo 1 s)) (fun p18 => Option.bind (fPatrol_leaveFor (s 9 (sm_w z2).toNat) p18 (sm_lo (10 + (sm_w p10).toNat) s)) (fun p21 => Option.bind (some (sm_gl (10 + (sm_w p10).toNat) 1 p21 s)) (fun s24 => (if sm_w (s24 (21 + (sm_w (s 9 (sm_w z2).toNat)).toNat) 5) = 0 then fWork_sendPatrols_j115_l7 z1 z2 (21 + (sm_w (s 9 (sm_w z2).toNat)).toNat) p10 (10 + (sm_w p10).toNat) (21 + (sm_w (s 9 (sm_w z2).toNat)).toNat) 1 s24 else fWork_sendPatrols_j115_l7 z1 z2 (21 + (sm_w (s 9 (sm_w z2).toNat)).toNat) p10 (10 + (sm_w p10).toNat) (21 + (sm_w (s 9 (sm_w z2).toNat)).toNat) (s24 (21 + (sm_w (s 9 (sm_w z2).toNat)).toNat) 5) s24)))) else none))) else none)) else none))
set_option maxRecDepth 100000 in
set_option maxHeartbeats 4000000 in
theorem bWork_sendPatrols_l7 {G : GT} {E : ET} {o : Nat} {s mi : MI} {z1 : Int} {z2 : Int} {r : RT} {w : (Int × MI) ⊕ (MI)} (g : gS E o)  (h : fWork_sendPatrols_l7 z1 z2 s = some w) (hK : Sum.elim (qWork_sendPatrols_l7 G E o mi z1 r) (kWork_sendPatrols_l7 G E o mi z1 r) w) : qWork_sendPatrols_l7 G E o mi z1 r (z2, s) := by
  have hN1 := g.1
  have hN2 := g.2.1
  unfold fWork_sendPatrols_l7 at h
  show sM (xWork_sendPatrols G) 7 [some (.inr o), some (.inl z1), some (.inl z2), none, none, none, none] [] E (sm_gl o 61 s mi) r
  refine sm_iload_n dX8_sendPatrols_7 rfl ?_
  refine sm_iload_n dX8_sendPatrols_8 rfl ?_
  refine sc_icmp_ge (X' := sm_w z2) (Y' := sm_w z1) 140 dX8_sendPatrols_9 rfl rfl rfl (fun c36 => ?_) (fun c36 => ?_)
  · rw [if_pos c36] at h
    cases h
    exact sm_less (lv' := [none, none, none, none, none, none, none]) trivial hK
  · rw [if_neg c36] at h
    refine sm_iload_n dX8_sendPatrols_12 rfl ?_
    refine sm_bipush dX8_sendPatrols_13 rfl ?_
    refine sc_icmp_ge (X' := sm_w z2) (Y' := 40) 140 dX8_sendPatrols_15 rfl rfl (by decide) (fun c35 => ?_) (fun c35 => ?_)
    · rw [if_pos c35] at h
      cases h
      exact sm_less (lv' := [none, none, none, none, none, none, none]) trivial hK
    · rw [if_neg c35] at h
      refine sm_aload_n dX8_sendPatrols_18 rfl ?_
      refine sm_getR lf_RX8_84 fR_5_12 g.2.2.1 (by omega) g.2.2.2.2.2.2.2.2.2.2 dX8_sendPatrols_19 ?_
      refine sm_iload_n dX8_sendPatrols_22 rfl ?_
      obtain ⟨q4, h⟩ := sl_guard h
      have xq4 := (sl_ix (m := 40) q4).2
      refine sl_ialdk (D := 9) (k := (sm_w z2).toNat) g.2.2.2.2.2.2.2.2.2.1 rfl (by omega) hN2 (sl_ix (m := 40) q4) dX8_sendPatrols_23 ?_
      refine sm_istore_n dX8_sendPatrols_24 (Nat.le_of_ble_eq_true rfl) ?_
      refine sm_aload_n dX8_sendPatrols_25 rfl ?_
      refine sm_iload_n dX8_sendPatrols_26 rfl ?_
      obtain ⟨p5, hp6, h⟩ := sl_bind h
      have hc7 := bState_isCall (G := G) (E := E) (o := o) (s := s) (mi := mi) g  hp6
      refine sc_callV1 (avs := [.inl (s 9 (sm_w z2).toNat)]) (st := []) lk_RX8_47 rfl vf_X7_isCall hc7 ⟨(Nat.le_of_ble_eq_true rfl), (Nat.le_of_ble_eq_true rfl)⟩ ⟨rfl, (Nat.le_of_ble_eq_true rfl)⟩ g.2.2.1 (by omega) rfl dX8_sendPatrols_27 ?_
      refine sm_if_ne 36 dX8_sendPatrols_30 rfl (fun c34 => ?_) (fun c34 => ?_)
      · rw [if_neg c34] at h
        refine sm_aload_n dX8_sendPatrols_36 rfl ?_
        refine sm_getR lf_RX8_51 fR_5_7 g.2.2.1 (by omega) g.2.2.2.2.2.2.2.1.1.2 dX8_sendPatrols_37 ?_
        refine sm_iload_n dX8_sendPatrols_40 rfl ?_
        obtain ⟨q8, h⟩ := sl_guard h
        have xq8 := (sl_ix (m := 40) q8).2
        have e9 := g.2.2.2.2.2.2.2.1.2 (sm_w (s 9 (sm_w z2).toNat)).toNat xq8
        refine sl_aald (k := (sm_w (s 9 (sm_w z2).toNat)).toNat) (Or.inr (Or.inr (Or.inl rfl))) g.2.2.2.2.2.2.2.1.1.1 (by omega) (sl_ix (m := 40) q8) e9.1 dX8_sendPatrols_41 ?_
        refine sm_astore dX8_sendPatrols_42 (Nat.le_of_ble_eq_true rfl) ?_
        refine sm_aload_n dX8_sendPatrols_44 rfl ?_
        refine sm_aload dX8_sendPatrols_45 rfl ?_
        obtain ⟨p10, hp11, h⟩ := sl_bind h
        have hc12 := bSending_nearestPatrol (G := G) (E := E) (o := o) (s := s) (mi := mi) g e9.2 (by omega) hp11
        refine sc_callS1 (avs := [.inr o, .inr (o + (21 + (sm_w (s 9 (sm_w z2).toNat)).toNat))]) (st := []) lk_RX8_88 rfl sf_X6_nearestPatrol hc12 ⟨(Nat.le_of_ble_eq_true rfl), (Nat.le_of_ble_eq_true rfl)⟩ ⟨rfl, (Nat.le_of_ble_eq_true rfl)⟩ rfl dX8_sendPatrols_47 ?_
        refine sm_istore dX8_sendPatrols_50 (Nat.le_of_ble_eq_true rfl) ?_
        refine sm_aload_n dX8_sendPatrols_52 rfl ?_
        refine sm_iload dX8_sendPatrols_53 rfl ?_
        obtain ⟨p13, hp14, h⟩ := sl_bind h
        have hc15 := bState_isPatrol (G := G) (E := E) (o := o) (s := s) (mi := mi) g  hp14
        refine sc_callV1 (avs := [.inl p10]) (st := []) lk_RX8_92 rfl vf_X7_isPatrol hc15 ⟨(Nat.le_of_ble_eq_true rfl), (Nat.le_of_ble_eq_true rfl)⟩ ⟨rfl, (Nat.le_of_ble_eq_true rfl)⟩ g.2.2.1 (by omega) rfl dX8_sendPatrols_55 ?_
        refine sm_if_ne 64 dX8_sendPatrols_58 rfl (fun c33 => ?_) (fun c33 => ?_)
        · rw [if_neg c33] at h
          refine sm_aload_n dX8_sendPatrols_64 rfl ?_
          refine sm_getR lf_RX8_15 fR_5_3 g.2.2.1 (by omega) g.2.2.2.2.2.1.1.2 dX8_sendPatrols_65 ?_
          refine sm_iload dX8_sendPatrols_68 rfl ?_
          obtain ⟨q16, h⟩ := sl_guard h
          have xq16 := (sl_ix (m := 6) q16).2
          have e17 := g.2.2.2.2.2.1.2 (sm_w p10).toNat xq16
          refine sl_aald (k := (sm_w p10).toNat) (Or.inl rfl) g.2.2.2.2.2.1.1.1 (by omega) (sl_ix (m := 6) q16) e17.1 dX8_sendPatrols_70 ?_
          refine sm_astore dX8_sendPatrols_71 (Nat.le_of_ble_eq_true rfl) ?_
          refine sm_aload dX8_sendPatrols_73 rfl ?_
          refine sm_iload_n dX8_sendPatrols_75 rfl ?_
          refine sm_aload_n dX8_sendPatrols_76 rfl ?_
          refine sm_getR lf_RX8_95 fR_5_0 g.2.2.1 (by omega) g.2.2.2.1.2 dX8_sendPatrols_77 ?_
          refine sm_aload dX8_sendPatrols_80 rfl ?_
          refine sl_getI (D := (10 + (sm_w p10).toNat)) lf_RX8_99 fI_3_4 e17.2.2.2 rfl (by omega) hN2 dX8_sendPatrols_82 ?_
          refine sm_aload dX8_sendPatrols_85 rfl ?_
          refine sl_getI (D := (21 + (sm_w (s 9 (sm_w z2).toNat)).toNat)) lf_RX8_102 fI_0_1 e9.2.2.2 rfl (by omega) hN2 dX8_sendPatrols_87 ?_
          obtain ⟨p18, hp19, h⟩ := sl_bind h
          have hc20 := bMap_between (G := G) (E := E) (o := o + 1) (s := (sm_lo 1 s)) (mi := (sm_gl o 61 s mi)) g.2.2.2.1.1  hp19
          rw [gl_in (o := o) (D := 1) (ha := (rfl : o + 1 = o + 1)) (hD := (by omega : 1 + 3 ≤ 61))] at hc20
          refine sc_callV1 (avs := [.inl (s (10 + (sm_w p10).toNat) 4), .inl (s (21 + (sm_w (s 9 (sm_w z2).toNat)).toNat) 1)]) (st := [.inl (s 9 (sm_w z2).toNat), .inr (o + (10 + (sm_w p10).toNat))]) lk_RX8_103 rfl vf_X5_between hc20 ⟨(Nat.le_of_ble_eq_true rfl), (Nat.le_of_ble_eq_true rfl)⟩ ⟨rfl, (Nat.le_of_ble_eq_true rfl)⟩ g.2.2.2.1.1.2.2.1 (by omega) rfl dX8_sendPatrols_90 ?_
          obtain ⟨p21, hp22, h⟩ := sl_bind h
          have hc23 := bPatrol_leaveFor (G := G) (E := E) (o := o + (10 + (sm_w p10).toNat)) (s := (sm_lo (10 + (sm_w p10).toNat) s)) (mi := (sm_gl o 61 s mi)) e17.2  hp22
          rw [gl_in (o := o) (D := (10 + (sm_w p10).toNat)) (ha := (rfl : o + (10 + (sm_w p10).toNat) = o + (10 + (sm_w p10).toNat))) (hD := (by omega : (10 + (sm_w p10).toNat) + 1 ≤ 61)), gl_out (o := o) (D := (10 + (sm_w p10).toNat)) (ha := (rfl : o + (10 + (sm_w p10).toNat) = o + (10 + (sm_w p10).toNat))) (hD := (by omega : (10 + (sm_w p10).toNat) + 1 ≤ 61))] at hc23
          refine sc_callV0 (avs := [.inl (s 9 (sm_w z2).toNat), .inl p18]) (st := []) lk_RX8_109 rfl vf_X4_leaveFor hc23 ⟨(Nat.le_of_ble_eq_true rfl), (Nat.le_of_ble_eq_true rfl)⟩ ⟨rfl, (Nat.le_of_ble_eq_true rfl)⟩ e17.2.2.2 (by omega) rfl dX8_sendPatrols_93 ?_
          obtain ⟨s24, hs25, h⟩ := sl_bind h
          rw [Option.some.inj hs25]
          refine sm_aload dX8_sendPatrols_96 rfl ?_
          refine sm_aload dX8_sendPatrols_98 rfl ?_
          refine sl_getI (D := (21 + (sm_w (s 9 (sm_w z2).toNat)).toNat)) lf_RX8_112 fI_0_5 e9.2.2.2 rfl (by omega) hN2 dX8_sendPatrols_100 ?_
          refine sm_if_ne 110 dX8_sendPatrols_103 rfl (fun c32 => ?_) (fun c32 => ?_)
          · rw [if_neg c32] at h
            refine sm_aload dX8_sendPatrols_110 rfl ?_
            refine sl_getI (D := (21 + (sm_w (s 9 (sm_w z2).toNat)).toNat)) lf_RX8_112 fI_0_5 e9.2.2.2 rfl (by omega) hN2 dX8_sendPatrols_112 ?_
            exact sm_less (lv' := [some (.inr o), some (.inl z1), some (.inl z2), none, some (.inr (o + (21 + (sm_w (s 9 (sm_w z2).toNat)).toNat))), some (.inl p10), some (.inr (o + (10 + (sm_w p10).toNat)))]) ⟨rfl, rfl, rfl, rfl, rfl, rfl, trivial⟩ (bWork_sendPatrols_j115_l7 g e9.2 (by omega) e17.2 (by omega) e9.2 (by omega)  h hK)
          · rw [if_pos c32] at h
            refine sm_iconst dX8_sendPatrols_106 ?_
            refine sm_goto 115 dX8_sendPatrols_107 rfl ?_
            exact sm_less (lv' := [some (.inr o), some (.inl z1), some (.inl z2), none, some (.inr (o + (21 + (sm_w (s 9 (sm_w z2).toNat)).toNat))), some (.inl p10), some (.inr (o + (10 + (sm_w p10).toNat)))]) ⟨rfl, rfl, rfl, rfl, rfl, rfl, trivial⟩ (bWork_sendPatrols_j115_l7 g e9.2 (by omega) e17.2 (by omega) e9.2 (by omega)  h hK)
        · rw [if_pos c33] at h
          refine sm_goto 134 dX8_sendPatrols_61 rfl ?_
          exact sm_less (lv' := [some (.inr o), some (.inl z1), some (.inl z2), none, none, none, none]) ⟨rfl, rfl, rfl, trivial⟩ (bWork_sendPatrols_j134_l7 g   h hK)
      · rw [if_pos c34] at h
        refine sm_goto 134 dX8_sendPatrols_33 rfl ?_
        exact sm_less (lv' := [some (.inr o), some (.inl z1), some (.inl z2), none, none, none, none]) ⟨rfl, rfl, rfl, trivial⟩ (bWork_sendPatrols_j134_l7 g   h hK)
def fWork_sendPatrols  (s : MI) : Option (MI) :=
  Option.bind (fSending_putInOrder s) (fun p1 => Option.bind (sl_it (fun (t : Int × MI) => fWork_sendPatrols_l7 p1.1 t.1 t.2) sl_fu (0, p1.2)) (fun x39 => some x39))
set_option maxRecDepth 100000 in
set_option maxHeartbeats 4000000 in
theorem bWork_sendPatrols {G : GT} {E : ET} {o : Nat} {s mi : MI}  {w : MI} (g : gS E o)  (h : fWork_sendPatrols s = some w) : cN G yX8_sendPatrols cX8_sendPatrols 7 none 4 97 [.inr o] E (sm_gl o 61 s mi) (none, E, sm_gl o 61 w mi) := by
  have hN1 := g.1
  have hN2 := g.2.1
  unfold fWork_sendPatrols at h
  refine sm_meth (by decide +kernel) (Nat.le_of_ble_eq_true rfl) ?_
  show sM (xWork_sendPatrols G) 0 [some (.inr o), none, none, none, none, none, none] [] E (sm_gl o 61 s mi) _
  refine sm_aload_n dX8_sendPatrols_0 rfl ?_
  obtain ⟨p1, hp2, h⟩ := sl_bind h
  have hc3 := bSending_putInOrder (G := G) (E := E) (o := o) (s := s) (mi := mi) g  hp2
  refine sc_callS1 (avs := [.inr o]) (st := []) lk_RX8_78 rfl sf_X6_putInOrder hc3 ⟨(Nat.le_of_ble_eq_true rfl), (Nat.le_of_ble_eq_true rfl)⟩ ⟨rfl, (Nat.le_of_ble_eq_true rfl)⟩ rfl dX8_sendPatrols_1 ?_
  refine sm_istore_n dX8_sendPatrols_4 (Nat.le_of_ble_eq_true rfl) ?_
  refine sm_iconst dX8_sendPatrols_5 ?_
  refine sm_istore_n dX8_sendPatrols_6 (Nat.le_of_ble_eq_true rfl) ?_
  obtain ⟨x39, hy38, h⟩ := sl_bind h
  refine sm_less (lv' := [some (.inr o), some (.inl p1.1), some (.inl 0), none, none, none, none]) ⟨rfl, rfl, rfl, trivial⟩ (sl_itE (P := qWork_sendPatrols_l7 G E o mi p1.1 _) (K := kWork_sendPatrols_l7 G E o mi p1.1 _) (fun t q hq hk => bWork_sendPatrols_l7 g  hq hk) sl_fu _ x39 hy38 ?_)
  show sM (xWork_sendPatrols G) 140 [none, none, none, none, none, none, none] [] E (sm_gl o 61 x39 mi) _
  cases h
  exact sm_return rfl dX8_sendPatrols_140
abbrev xWork_passMinute (G : GT) : XT := (G, yX8_passMinute.cls, cX8_passMinute, 3, (some .int), decide (yX8_passMinute.name = "<init>"), 5, 123)
abbrev qWork_passMinute_l4 (G : GT) (E : ET) (o : Nat) (mi : MI)  (r : RT) (t : Int × Int × MI) : Prop := sM (xWork_passMinute G) 4 [some (.inr o), some (.inl t.1), some (.inl t.2.1)] [] E (sm_gl o 61 t.2.2 mi) r
abbrev kWork_passMinute_l4 (G : GT) (E : ET) (o : Nat) (mi : MI)  (r : RT) (x : Int × MI) : Prop := sM (xWork_passMinute G) 44 [some (.inr o), some (.inl x.1), none] [] E (sm_gl o 61 x.2 mi) r
def fWork_passMinute_j38_l4 (z1 : Int) (z2 : Int) (s : MI) : Option ((Int × Int × MI) ⊕ (Int × MI)) :=
  some (.inl (z1, (z2 + 1), s))
set_option maxRecDepth 100000 in
set_option maxHeartbeats 4000000 in
theorem bWork_passMinute_j38_l4 {G : GT} {E : ET} {o : Nat} {s mi : MI} {z1 : Int} {z2 : Int} {r : RT} {w : (Int × Int × MI) ⊕ (Int × MI)} (g : gS E o)  (h : fWork_passMinute_j38_l4 z1 z2 s = some w) (hK : Sum.elim (qWork_passMinute_l4 G E o mi r) (kWork_passMinute_l4 G E o mi r) w) : sM (xWork_passMinute G) 38 [some (.inr o), some (.inl z1), some (.inl z2)] [] E (sm_gl o 61 s mi) r := by
  have hN1 := g.1
  have hN2 := g.2.1
  unfold fWork_passMinute_j38_l4 at h
  refine sm_iinc dX8_passMinute_38 (Nat.le_of_ble_eq_true rfl) rfl ?_
  refine sm_goto 4 dX8_passMinute_41 rfl ?_
  cases h
  exact sm_less (lv' := [some (.inr o), some (.inl z1), some (.inl (z2 + 1))]) ⟨rfl, rfl, rfl, trivial⟩ hK
def fWork_passMinute_l4 (z1 : Int) (z2 : Int) (s : MI) : Option ((Int × Int × MI) ⊕ (Int × MI)) :=
  (if sm_w (s 0 4) ≤ sm_w z2 then some (.inr (z1, s)) else (if 6 ≤ sm_w z2 then some (.inr (z1, s)) else if 0 ≤ sm_w z2 ∧ sm_w z2 < 6 then Option.bind (fPatrol_isBusy (sm_lo (10 + (sm_w z2).toNat) s)) (fun p3 => (if sm_w p3 = 0 then fWork_passMinute_j38_l4 z1 z2 s else Option.bind (fWork_goOn z2 s) (fun p6 => fWork_passMinute_j38_l4 (z1 + p6.1) z2 p6.2))) else none))
set_option maxRecDepth 100000 in
set_option maxHeartbeats 4000000 in
theorem bWork_passMinute_l4 {G : GT} {E : ET} {o : Nat} {s mi : MI} {z1 : Int} {z2 : Int} {r : RT} {w : (Int × Int × MI) ⊕ (Int × MI)} (g : gS E o)  (h : fWork_passMinute_l4 z1 z2 s = some w) (hK : Sum.elim (qWork_passMinute_l4 G E o mi r) (kWork_passMinute_l4 G E o mi r) w) : qWork_passMinute_l4 G E o mi r (z1, z2, s) := by
  have hN1 := g.1
  have hN2 := g.2.1
  unfold fWork_passMinute_l4 at h
  show sM (xWork_passMinute G) 4 [some (.inr o), some (.inl z1), some (.inl z2)] [] E (sm_gl o 61 s mi) r
  refine sm_iload_n dX8_passMinute_4 rfl ?_
  refine sm_aload_n dX8_passMinute_5 rfl ?_
  refine sl_getI (D := 0) lf_RX8_9 fI_5_4 g.2.2.1 rfl (by omega) hN2 dX8_passMinute_6 ?_
  refine sc_icmp_ge (X' := sm_w z2) (Y' := sm_w (s 0 4)) 44 dX8_passMinute_9 rfl rfl rfl (fun c11 => ?_) (fun c11 => ?_)
  · rw [if_pos c11] at h
    cases h
    exact sm_less (lv' := [some (.inr o), some (.inl z1), none]) ⟨rfl, rfl, trivial⟩ hK
  · rw [if_neg c11] at h
    refine sm_iload_n dX8_passMinute_12 rfl ?_
    refine sm_bipush dX8_passMinute_13 rfl ?_
    refine sc_icmp_ge (X' := sm_w z2) (Y' := 6) 44 dX8_passMinute_15 rfl rfl (by decide) (fun c10 => ?_) (fun c10 => ?_)
    · rw [if_pos c10] at h
      cases h
      exact sm_less (lv' := [some (.inr o), some (.inl z1), none]) ⟨rfl, rfl, trivial⟩ hK
    · rw [if_neg c10] at h
      refine sm_aload_n dX8_passMinute_18 rfl ?_
      refine sm_getR lf_RX8_15 fR_5_3 g.2.2.1 (by omega) g.2.2.2.2.2.1.1.2 dX8_passMinute_19 ?_
      refine sm_iload_n dX8_passMinute_22 rfl ?_
      obtain ⟨q1, h⟩ := sl_guard h
      have xq1 := (sl_ix (m := 6) q1).2
      have e2 := g.2.2.2.2.2.1.2 (sm_w z2).toNat xq1
      refine sl_aald (k := (sm_w z2).toNat) (Or.inl rfl) g.2.2.2.2.2.1.1.1 (by omega) (sl_ix (m := 6) q1) e2.1 dX8_passMinute_23 ?_
      obtain ⟨p3, hp4, h⟩ := sl_bind h
      have hc5 := bPatrol_isBusy (G := G) (E := E) (o := o + (10 + (sm_w z2).toNat)) (s := (sm_lo (10 + (sm_w z2).toNat) s)) (mi := (sm_gl o 61 s mi)) e2.2  hp4
      rw [gl_in (o := o) (D := (10 + (sm_w z2).toNat)) (ha := (rfl : o + (10 + (sm_w z2).toNat) = o + (10 + (sm_w z2).toNat))) (hD := (by omega : (10 + (sm_w z2).toNat) + 1 ≤ 61))] at hc5
      refine sc_callV1 (avs := []) (st := []) lk_RX8_19 rfl vf_X4_isBusy hc5 ⟨(Nat.le_of_ble_eq_true rfl), (Nat.le_of_ble_eq_true rfl)⟩ ⟨rfl, (Nat.le_of_ble_eq_true rfl)⟩ e2.2.2.2 (by omega) rfl dX8_passMinute_24 ?_
      refine sm_if_eq 38 dX8_passMinute_27 rfl (fun c9 => ?_) (fun c9 => ?_)
      · rw [if_pos c9] at h
        exact sm_less (lv' := [some (.inr o), some (.inl z1), some (.inl z2)]) ⟨rfl, rfl, rfl, trivial⟩ (bWork_passMinute_j38_l4 g   h hK)
      · rw [if_neg c9] at h
        refine sm_iload_n dX8_passMinute_30 rfl ?_
        refine sm_aload_n dX8_passMinute_31 rfl ?_
        refine sm_iload_n dX8_passMinute_32 rfl ?_
        obtain ⟨p6, hp7, h⟩ := sl_bind h
        have hc8 := bWork_goOn (G := G) (E := E) (o := o) (s := s) (mi := mi) g  hp7
        refine sc_callS1 (avs := [.inr o, .inl z2]) (st := [.inl z1]) lk_RX8_25 rfl sf_X8_goOn hc8 ⟨(Nat.le_of_ble_eq_true rfl), (Nat.le_of_ble_eq_true rfl)⟩ ⟨rfl, (Nat.le_of_ble_eq_true rfl)⟩ rfl dX8_passMinute_33 ?_
        refine sm_iadd dX8_passMinute_36 ?_
        refine sm_istore_n dX8_passMinute_37 (Nat.le_of_ble_eq_true rfl) ?_
        exact sm_less (lv' := [some (.inr o), some (.inl (z1 + p6.1)), some (.inl z2)]) ⟨rfl, rfl, rfl, trivial⟩ (bWork_passMinute_j38_l4 g   h hK)
def fWork_passMinute_j44 (z1 : Int) (s : MI) : Option (Int × MI) :=
  Option.bind (fWork_sendPatrols s) (fun p15 => Option.bind (some (sm_up p15 0 11 ((p15 0 11) + 1))) (fun s18 => some (z1, s18)))
set_option maxRecDepth 100000 in
set_option maxHeartbeats 4000000 in
theorem bWork_passMinute_j44 {G : GT} {E : ET} {o : Nat} {s mi : MI} {z1 : Int} {w : Int × MI} (g : gS E o)  (h : fWork_passMinute_j44 z1 s = some w) : sM (xWork_passMinute G) 44 [some (.inr o), some (.inl z1), none] [] E (sm_gl o 61 s mi) (some (.inl w.1), E, sm_gl o 61 w.2 mi) := by
  have hN1 := g.1
  have hN2 := g.2.1
  unfold fWork_passMinute_j44 at h
  refine sm_aload_n dX8_passMinute_44 rfl ?_
  obtain ⟨p15, hp16, h⟩ := sl_bind h
  have hc17 := bWork_sendPatrols (G := G) (E := E) (o := o) (s := s) (mi := mi) g  hp16
  refine sc_callS0 (avs := [.inr o]) (st := []) lk_RX8_31 rfl sf_X8_sendPatrols hc17 ⟨(Nat.le_of_ble_eq_true rfl), (Nat.le_of_ble_eq_true rfl)⟩ ⟨rfl, (Nat.le_of_ble_eq_true rfl)⟩ rfl dX8_passMinute_45 ?_
  refine sm_aload_n dX8_passMinute_48 rfl ?_
  refine sm_dup dX8_passMinute_49 ?_
  refine sl_getI (D := 0) lf_RX8_35 fI_5_11 g.2.2.1 rfl (by omega) hN2 dX8_passMinute_50 ?_
  refine sm_iconst dX8_passMinute_53 ?_
  refine sm_iadd dX8_passMinute_54 ?_
  refine sl_putI (D := 0) lf_RX8_35 fP_5_11 (Or.inl rfl) g.2.2.1 rfl (by omega) ⟨hN1, hN2⟩ dX8_passMinute_55 ?_
  obtain ⟨s18, hs19, h⟩ := sl_bind h
  rw [Option.some.inj hs19]
  refine sm_iload_n dX8_passMinute_58 rfl ?_
  cases h
  exact sm_ireturn dX8_passMinute_59 (Or.inl rfl)
def fWork_passMinute  (s : MI) : Option (Int × MI) :=
  Option.bind (sl_it (fun (t : Int × Int × MI) => fWork_passMinute_l4 t.1 t.2.1 t.2.2) sl_fu (0, 0, s)) (fun x14 => fWork_passMinute_j44 x14.1 x14.2)
set_option maxRecDepth 100000 in
set_option maxHeartbeats 4000000 in
theorem bWork_passMinute {G : GT} {E : ET} {o : Nat} {s mi : MI}  {w : Int × MI} (g : gS E o)  (h : fWork_passMinute s = some w) : cN G yX8_passMinute cX8_passMinute 3 (some .int) 5 123 [.inr o] E (sm_gl o 61 s mi) (some (.inl w.1), E, sm_gl o 61 w.2 mi) := by
  have hN1 := g.1
  have hN2 := g.2.1
  unfold fWork_passMinute at h
  refine sm_meth (by decide +kernel) (Nat.le_of_ble_eq_true rfl) ?_
  show sM (xWork_passMinute G) 0 [some (.inr o), none, none] [] E (sm_gl o 61 s mi) _
  refine sm_iconst dX8_passMinute_0 ?_
  refine sm_istore_n dX8_passMinute_1 (Nat.le_of_ble_eq_true rfl) ?_
  refine sm_iconst dX8_passMinute_2 ?_
  refine sm_istore_n dX8_passMinute_3 (Nat.le_of_ble_eq_true rfl) ?_
  obtain ⟨x14, hy13, h⟩ := sl_bind h
  refine sm_less (lv' := [some (.inr o), some (.inl 0), some (.inl 0)]) ⟨rfl, rfl, rfl, trivial⟩ (sl_itE (P := qWork_passMinute_l4 G E o mi _) (K := kWork_passMinute_l4 G E o mi _) (fun t q hq hk => bWork_passMinute_l4 g  hq hk) sl_fu _ x14 hy13 ?_)
  show sM (xWork_passMinute G) 44 [some (.inr o), some (.inl x14.1), none] [] E (sm_gl o 61 x14.2 mi) _
  exact sm_less (lv' := [some (.inr o), some (.inl x14.1), none]) ⟨rfl, rfl, trivial⟩ (bWork_passMinute_j44 g   h)
