/-- what a new state holds -/
def iS (s : MI) : Prop := (∀ j, s 0 j = 0) ∧ s 1 0 = 0 ∧ (∀ j, s 2 j = 0) ∧ (∀ x y, x < 12 → y < 12 → s 3 (12 * x + y) = if x = y then 0 else 1000000) ∧ s 8 0 = 90 ∧ s 8 1 = 60 ∧ s 8 2 = 40
theorem st_prom {G : GT} {E : ET} {mi : MI} {a : Nat} (hk : (E.sh a).1 = 5) (h3 : 3 ≤ a) (ha : a < E.sz) :
    ∃ E' mi', FW (xState_init G) 51 [some (.inr a), none] [.inl 3, .inr a] E mi 71 [some (.inr a), none] [] E' mi' ∧ E'.sz = E.sz + 1 ∧ E'.us = E.us + 3 ∧ (∀ k, E'.sh k = if k = E.sz then (20, 3) else E.sh k) ∧ (∀ b i, E'.mr b i = if b = a ∧ i = 9 then some E.sz else if b = E.sz then none else E.mr b i) ∧ (∀ b, ¬ b = E.sz → mi' b = mi b) ∧ mi' E.sz 0 = 90 ∧ mi' E.sz 1 = 60 ∧ mi' E.sz 2 = 40 := by
  have na := na_al E mi a 9 20 3 3
  obtain ⟨n1, n2, n3, n4, _⟩ := na
  have h20 : (sm_al E 20 3 3).sh E.sz = (20, 3) := by
    show (if E.1 = E.1 then _ else _) = _
    rw [if_pos rfl]
  have w2 : sm_w 2 = 2 := tw (by omega) (by omega)
  refine ⟨_, sm_up (sm_up (sm_up (sm_z mi E.sz) E.sz 0 90) E.sz 1 60) E.sz 2 40, fun r kk => ?_, n1, n2, n3, n4, fun b hb => ?_, ?_, ?_, ?_⟩
  · refine sm_newarray (n := 3) (Or.inl ⟨rfl, rfl⟩) ac_int (by decide) dX7_init_51 ?_
    refine sm_dup dX7_init_53 ?_
    refine sm_iconst dX7_init_54 ?_
    refine sm_bipush dX7_init_55 rfl ?_
    refine sm_iastore h20 (by omega) (Nat.lt_succ_self _) (by rw [w0]; omega) (by rw [w0]; omega) dX7_init_57 ?_
    refine sm_dup dX7_init_58 ?_
    refine sm_iconst dX7_init_59 ?_
    refine sm_bipush dX7_init_60 rfl ?_
    refine sm_iastore h20 (by omega) (Nat.lt_succ_self _) (by rw [w1]; omega) (by rw [w1]; omega) dX7_init_62 ?_
    refine sm_dup dX7_init_63 ?_
    refine sm_iconst dX7_init_64 ?_
    refine sm_bipush dX7_init_65 rfl ?_
    refine sm_iastore h20 (by omega) (Nat.lt_succ_self _) (by rw [w2]; omega) (by rw [w2]; omega) dX7_init_67 ?_
    refine sm_putR lp_RX7_40 fQ_5_9 rfl rfl (by rw [al_sh ha]; exact hk) h3 (by show a < E.1 + 1; exact Nat.lt_succ_of_lt ha) dX7_init_68 ?_
    rw [w0, w1, w2]
    exact kk
  · rw [up_D hb, up_D hb, up_D hb]
    unfold sm_z
    rw [if_neg hb]
  · rw [up_j (by omega), up_j (by omega), up_s]
  · rw [up_j (by omega), up_s]
  · rw [up_s]
theorem bState_init {G : GT} {E : ET} {mi : MI} {a : Nat} (h3 : 3 ≤ a) (hsz : E.sz = a + 1) (hk : (E.sh a).1 = 5) (hm : ∀ j, mi a j = 0) : ∃ E' mi', cN G yX7_init cX7_init 2 none 2 41 [.inr a] E mi (none, E', mi') ∧ E'.sz = a + 61 ∧ E'.us = E.us + 954 ∧ (∀ k, k < a → E'.sh k = E.sh k ∧ E'.mr k = E.mr k ∧ mi' k = mi k) ∧ gS E' a ∧ iS (sm_lo a mi') := by
  have alu : (sm_al E 4 0 3).us = E.us + 3 := rfl
  obtain ⟨Eb, mb, hc, nb, ub, pb, qb, vb, gb, cb1, cb2⟩ := bMap_init (G := G) (E := sm_al E 4 0 3) (mi := sm_z mi E.sz) (a := E.sz) (by omega) rfl (by
    show ((if E.1 = E.1 then (4, 0) else E.2.2.1 E.1) : Nat × Nat).1 = 4
    rw [if_pos rfl])
  have pb' : ∀ k, k < E.sz → Eb.sh k = E.sh k := fun k hk' => by rw [pb k (by omega), al_sh hk']
  have qb' : ∀ k i, k < E.sz → Eb.mr k i = E.mr k i := fun k i hk' => by
    rw [qb k hk']
    show (if k = E.1 then (fun _ => none) else E.2.2.2 k) i = _
    rw [if_neg (by have : k < E.1 := hk'; omega)]
  have vb' : ∀ k i, k < E.sz → mb k i = mi k i := fun k i hk' => by
    rw [vb k (by omega)]
    unfold sm_z
    rw [if_neg (by omega)]
  have vbm : ∀ j, mb (a + 1) j = 0 := fun j => by
    rw [vb _ (by omega)]
    unfold sm_z
    rw [if_pos (by omega)]
  obtain ⟨Ec, sc, nc, uc, pc', qc⟩ := st_put (X := xState_init G) (pc := 12) (lv := [some (.inr a), none]) (st := []) (E := Eb) (mi := mb) (a := a) (b := E.sz) (j := 0) (kdo := 5) lp_RX7_12 fQ_5_0 rfl rfl (by rw [pb' a (by omega)]; exact hk) h3 (by omega) dX7_init_12
  have kc : (Ec.sh a).1 = 5 := by rw [pc', pb' a (by omega)]; exact hk
  obtain ⟨E1, m1, s1, n1, u1, p1, q1, v1⟩ := st_arr (X := xState_init G) (pc := 18) (lv := [some (.inr a), none]) (st := []) (E := Ec) (mi := mb) (a := a) (j := 1) (kdo := 5) (n := 20) (kd := 20) (Or.inl ⟨rfl, rfl⟩) ac_int (by decide) dX7_init_18 lp_RX7_18 fQ_5_1 rfl rfl kc h3 (by omega) dX7_init_20
  have k1 : (E1.sh a).1 = 5 := by rw [p1, if_neg (by omega)]; exact kc
  obtain ⟨E2, m2, s2, n2, u2, p2, q2, v2⟩ := st_aarr (X := xState_init G) (pc := 26) (lv := [some (.inr a), none]) (st := []) (E := E1) (mi := m1) (a := a) (j := 3) (kdo := 5) (n := 6) (kd := 22) (Or.inl rfl) la_RX7_22 (by decide) dX7_init_26 lp_RX7_24 fQ_5_3 rfl rfl k1 h3 (by omega) dX7_init_29
  have k2 : (E2.sh a).1 = 5 := by rw [p2, if_neg (by omega)]; exact k1
  obtain ⟨E3, m3, s3, n3, u3, p3, q3, v3⟩ := st_aarr (X := xState_init G) (pc := 34) (lv := [some (.inr a), none]) (st := []) (E := E2) (mi := m2) (a := a) (j := 5) (kdo := 5) (n := 5) (kd := 23) (Or.inr (Or.inl rfl)) la_RX7_28 (by decide) dX7_init_34 lp_RX7_30 fQ_5_5 rfl rfl k2 h3 (by omega) dX7_init_37
  have k3 : (E3.sh a).1 = 5 := by rw [p3, if_neg (by omega)]; exact k2
  obtain ⟨E4, m4, s4, n4, u4, p4, q4, v4⟩ := st_aarr (X := xState_init G) (pc := 43) (lv := [some (.inr a), none]) (st := []) (E := E3) (mi := m3) (a := a) (j := 7) (kdo := 5) (n := 40) (kd := 24) (Or.inr (Or.inr (Or.inl rfl))) la_RX7_34 (by decide) dX7_init_43 lp_RX7_36 fQ_5_7 rfl rfl k3 h3 (by omega) dX7_init_46
  have k4 : (E4.sh a).1 = 5 := by rw [p4, if_neg (by omega)]; exact k3
  obtain ⟨E5, m5, s5, n5, u5, p5, q5, v5, v50, v51, v52⟩ := st_prom (G := G) (E := E4) (mi := m4) (a := a) k4 h3 (by omega)
  have k5 : (E5.sh a).1 = 5 := by rw [p5, if_neg (by omega)]; exact k4
  obtain ⟨E6, m6, s6, n6, u6, p6, q6, v6⟩ := st_arr (X := xState_init G) (pc := 74) (lv := [some (.inr a), none]) (st := []) (E := E5) (mi := m5) (a := a) (j := 12) (kdo := 5) (n := 40) (kd := 20) (Or.inl ⟨rfl, rfl⟩) ac_int (by decide) dX7_init_74 lp_RX7_43 fQ_5_12 rfl rfl k5 h3 (by omega) dX7_init_76
  have k6 : (E6.sh a).1 = 5 := by rw [p6, if_neg (by omega)]; exact k5
  -- what stands after the straight part
  have z1 : Ec.sz = a + 4 := by omega
  have z2 : E1.sz = a + 5 := by omega
  have z3 : E2.sz = a + 6 := by omega
  have z4 : E3.sz = a + 7 := by omega
  have z5 : E4.sz = a + 8 := by omega
  have z6 : E5.sz = a + 9 := by omega
  have z7 : E6.sz = a + 10 := by omega
  have f6 : ∀ k, k < a + 4 → E6.sh k = Ec.sh k := fun k hk' => by rw [p6, if_neg (by omega), p5, if_neg (by omega), p4, if_neg (by omega), p3, if_neg (by omega), p2, if_neg (by omega), p1, if_neg (by omega)]
  have g6 : ∀ k i, k < a + 4 → ¬ k = a → E6.mr k i = Ec.mr k i := fun k i hk' hn => by rw [q6, if_neg (by omega), if_neg (by omega), q5, if_neg (by omega), if_neg (by omega), q4, if_neg (by omega), if_neg (by omega), q3, if_neg (by omega), if_neg (by omega), q2, if_neg (by omega), if_neg (by omega), q1, if_neg (by omega), if_neg (by omega)]
  have h6 : ∀ k i, k < a + 4 → m6 k i = mb k i := fun k i hk' => by rw [v6, if_neg (by omega), v5 k (by omega), v4, if_neg (by omega), v3, if_neg (by omega), v2, if_neg (by omega), v1, if_neg (by omega)]
  have t4 : E6.sh (a + 4) = (20, 20) := by rw [p6, if_neg (by omega), p5, if_neg (by omega), p4, if_neg (by omega), p3, if_neg (by omega), p2, if_neg (by omega), p1, if_pos (by omega)]
  have t5 : E6.sh (a + 5) = (22, 6) := by rw [p6, if_neg (by omega), p5, if_neg (by omega), p4, if_neg (by omega), p3, if_neg (by omega), p2, if_pos (by omega)]
  have t6 : E6.sh (a + 6) = (23, 5) := by rw [p6, if_neg (by omega), p5, if_neg (by omega), p4, if_neg (by omega), p3, if_pos (by omega)]
  have t7 : E6.sh (a + 7) = (24, 40) := by rw [p6, if_neg (by omega), p5, if_neg (by omega), p4, if_pos (by omega)]
  have t8 : E6.sh (a + 8) = (20, 3) := by rw [p6, if_neg (by omega), p5, if_pos (by omega)]
  have t9 : E6.sh (a + 9) = (20, 40) := by rw [p6, if_pos (by omega)]
  have r0 : E6.mr a 0 = some (a + 1) := by rw [q6, if_neg (by omega), if_neg (by omega), q5, if_neg (by omega), if_neg (by omega), q4, if_neg (by omega), if_neg (by omega), q3, if_neg (by omega), if_neg (by omega), q2, if_neg (by omega), if_neg (by omega), q1, if_neg (by omega), if_neg (by omega), qc, if_pos ⟨rfl, rfl⟩, hsz]
  have r1 : E6.mr a 1 = some (a + 4) := by rw [q6, if_neg (by omega), if_neg (by omega), q5, if_neg (by omega), if_neg (by omega), q4, if_neg (by omega), if_neg (by omega), q3, if_neg (by omega), if_neg (by omega), q2, if_neg (by omega), if_neg (by omega), q1, if_pos ⟨rfl, rfl⟩, z1]
  have r3 : E6.mr a 3 = some (a + 5) := by rw [q6, if_neg (by omega), if_neg (by omega), q5, if_neg (by omega), if_neg (by omega), q4, if_neg (by omega), if_neg (by omega), q3, if_neg (by omega), if_neg (by omega), q2, if_pos ⟨rfl, rfl⟩, z2]
  have r5 : E6.mr a 5 = some (a + 6) := by rw [q6, if_neg (by omega), if_neg (by omega), q5, if_neg (by omega), if_neg (by omega), q4, if_neg (by omega), if_neg (by omega), q3, if_pos ⟨rfl, rfl⟩, z3]
  have r7 : E6.mr a 7 = some (a + 7) := by rw [q6, if_neg (by omega), if_neg (by omega), q5, if_neg (by omega), if_neg (by omega), q4, if_pos ⟨rfl, rfl⟩, z4]
  have r9 : E6.mr a 9 = some (a + 8) := by rw [q6, if_neg (by omega), if_neg (by omega), q5, if_pos ⟨rfl, rfl⟩, z5]
  have r12 : E6.mr a 12 = some (a + 9) := by rw [q6, if_pos ⟨rfl, rfl⟩, z6]
  have c8 : m6 (a + 8) 0 = 90 ∧ m6 (a + 8) 1 = 60 ∧ m6 (a + 8) 2 = 40 := by
    rw [z5] at v50 v51 v52
    refine ⟨?_, ?_, ?_⟩
    · rw [v6, if_neg (by omega)]; exact v50
    · rw [v6, if_neg (by omega)]; exact v51
    · rw [v6, if_neg (by omega)]; exact v52
  -- the loops
  obtain ⟨E7, m7, s7, n7, u7, p7, q7, w7, v7⟩ := sl_pats (G := G) (a := a) (arr := a + 5) 6 0 E6 m6 (by omega) k6 (by omega) r3 t5 (by omega) (by omega) (by omega)
  obtain ⟨E8, m8, s8, n8, u8, p8, q8, w8, v8⟩ := sl_gars (G := G) (a := a) (arr := a + 6) 5 0 E7 m7 (by omega) (by rw [p7, if_neg (by omega)]; exact k6) (by omega) (by rw [q7 _ _ (by omega) (by omega)]; exact r5) (by rw [p7, if_neg (by omega)]; exact t6) (by omega) (by omega) (by omega)
  obtain ⟨E9, m9, s9, n9, u9, p9, q9, w9, v9⟩ := sl_cals (G := G) (a := a) (arr := a + 7) 40 0 E8 m8 (by omega) (by rw [p8, if_neg (by omega), p7, if_neg (by omega)]; exact k6) (by omega) (by rw [q8 _ _ (by omega) (by omega), q7 _ _ (by omega) (by omega)]; exact r7) (by rw [p8, if_neg (by omega), p7, if_neg (by omega)]; exact t7) (by omega) (by omega) (by omega)
  have F9 : ∀ k, k < a + 10 → E9.sh k = E6.sh k := fun k hk' => by rw [p9, if_neg (by omega), p8, if_neg (by omega), p7, if_neg (by omega)]
  have G9 : ∀ k i, k < a + 10 → ¬ k = a + 5 → ¬ k = a + 6 → ¬ k = a + 7 → E9.mr k i = E6.mr k i := fun k i hk' x5 x6 x7 => by rw [q9 k i x7 (by omega), q8 k i x6 (by omega), q7 k i x5 (by omega)]
  have H9 : ∀ k i, k < a + 10 → m9 k i = m6 k i := fun k i hk' => by rw [v9 k (by omega), v8 k (by omega), v7 k (by omega)]
  refine ⟨E9, m9, ?_, by omega, by omega, fun k hk' => ⟨?_, ?_, ?_⟩, ⟨h3, by omega, by rw [F9 a (by omega)]; exact k6, ⟨?_, by rw [G9 a _ (by omega) (by omega) (by omega) (by omega)]; exact r0⟩, ⟨by rw [F9 _ (by omega)]; exact t4, by rw [G9 a _ (by omega) (by omega) (by omega) (by omega)]; exact r1⟩, ⟨⟨by rw [F9 _ (by omega)]; exact t5, by rw [G9 a _ (by omega) (by omega) (by omega) (by omega)]; exact r3⟩, fun i hi => ⟨?_, ?_⟩⟩, ⟨⟨by rw [F9 _ (by omega)]; exact t6, by rw [G9 a _ (by omega) (by omega) (by omega) (by omega)]; exact r5⟩, fun i hi => ⟨?_, ?_⟩⟩, ⟨⟨by rw [F9 _ (by omega)]; exact t7, by rw [G9 a _ (by omega) (by omega) (by omega) (by omega)]; exact r7⟩, fun i hi => ⟨?_, ?_⟩⟩, ⟨by rw [F9 _ (by omega)]; exact t8, by rw [G9 a _ (by omega) (by omega) (by omega) (by omega)]; exact r9⟩, by rw [F9 _ (by omega)]; exact t9, by rw [G9 a _ (by omega) (by omega) (by omega) (by omega)]; exact r12⟩, ?_, ?_, ?_, ?_, ?_, ?_, ?_⟩
  · refine sm_meth (by decide +kernel) (Nat.le_of_ble_eq_true rfl) ?_
    refine sm_aload_n dX7_init_0 rfl ?_
    refine sm_objInit lo_RX7_3 ⟨Nat.le_of_ble_eq_true rfl, Nat.le_of_ble_eq_true rfl⟩ dX7_init_1 ?_
    refine sm_aload_n dX7_init_4 rfl ?_
    refine sm_new (kd := 4) (by decide) ln_RX7_9 dX7_init_5 ?_
    refine sm_dup dX7_init_8 ?_
    refine sm_callI (avs := []) (st := [.inr E.sz, .inr a]) lk_RX7_11 rfl nf_X5_init hc ⟨Nat.le_of_ble_eq_true rfl, Nat.le_of_ble_eq_true rfl⟩ ⟨rfl, Nat.le_of_ble_eq_true rfl⟩ rfl dX7_init_9 ?_
    refine sc _ ?_
    refine sm_aload_n dX7_init_15 rfl ?_
    refine sm_bipush dX7_init_16 rfl ?_
    refine s1 _ ?_
    refine sm_aload_n dX7_init_23 rfl ?_
    refine sm_bipush dX7_init_24 rfl ?_
    refine s2 _ ?_
    refine sm_aload_n dX7_init_32 rfl ?_
    refine sm_iconst dX7_init_33 ?_
    refine s3 _ ?_
    refine sm_aload_n dX7_init_40 rfl ?_
    refine sm_bipush dX7_init_41 rfl ?_
    refine s4 _ ?_
    refine sm_aload_n dX7_init_49 rfl ?_
    refine sm_iconst dX7_init_50 ?_
    refine s5 _ ?_
    refine sm_aload_n dX7_init_71 rfl ?_
    refine sm_bipush dX7_init_72 rfl ?_
    refine s6 _ ?_
    refine sm_iconst dX7_init_79 ?_
    refine sm_istore_n dX7_init_80 (Nat.le_of_ble_eq_true rfl) ?_
    refine s7 _ ?_
    refine sm_iconst dX7_init_106 ?_
    refine sm_istore_n dX7_init_107 (Nat.le_of_ble_eq_true rfl) ?_
    refine s8 _ ?_
    refine sm_iconst dX7_init_132 ?_
    refine sm_istore_n dX7_init_133 (Nat.le_of_ble_eq_true rfl) ?_
    refine s9 _ ?_
    exact sm_return rfl dX7_init_159
  · rw [F9 k (by omega), f6 k (by omega), pc', pb' k (by omega)]
  · funext i
    rw [G9 k i (by omega) (by omega) (by omega) (by omega), g6 k i (by omega) (by omega), qc, if_neg (by omega), qb' k i (by omega)]
  · funext i
    rw [H9 k i (by omega), h6 k i (by omega), vb' k i (by omega)]
  · have gb' : gM Eb (a + 1) := by rw [← hsz]; exact gb
    refine gM_fr gb' (by omega) (fun k x y => by rw [F9 k (by omega), f6 k (by omega), pc']) (fun i => ?_)
    rw [G9 _ i (by omega) (by omega) (by omega) (by omega), g6 _ i (by omega) (by omega), qc, if_neg (by omega)]
  · rw [q9 _ _ (by omega) (by omega), q8 _ _ (by omega) (by omega), w7, if_pos ⟨Nat.zero_le _, hi⟩]
    congr 1
    omega
  · exact ⟨by omega, by omega, by rw [p9, if_neg (by omega), p8, if_neg (by omega), p7, if_pos (by omega)]⟩
  · rw [q9 _ _ (by omega) (by omega), w8, if_pos ⟨Nat.zero_le _, hi⟩]
    congr 1
    omega
  · exact ⟨by omega, by omega, by rw [p9, if_neg (by omega), p8, if_pos (by omega)]⟩
  · rw [w9, if_pos ⟨Nat.zero_le _, hi⟩]
    congr 1
    omega
  · exact ⟨by omega, by omega, by rw [p9, if_pos (by omega)]⟩
  · intro j
    show m9 (a + 0) j = 0
    rw [Nat.add_zero, H9 a j (by omega), h6 a j (by omega), vb' a j (by omega)]
    exact hm j
  · show m9 (a + 1) 0 = 0
    rw [H9 _ _ (by omega), h6 _ _ (by omega)]
    exact vbm 0
  · intro j
    show m9 (a + 2) j = 0
    rw [H9 _ _ (by omega), h6 _ _ (by omega), show a + 2 = E.sz + 1 by omega]
    exact cb1 j
  · intro x y hx hy
    show m9 (a + 3) (12 * x + y) = _
    rw [H9 _ _ (by omega), h6 _ _ (by omega), show a + 3 = E.sz + 2 by omega]
    exact cb2 x y hx hy
  · show m9 (a + 8) 0 = 90
    rw [H9 _ _ (by omega)]
    exact c8.1
  · show m9 (a + 8) 1 = 60
    rw [H9 _ _ (by omega)]
    exact c8.2.1
  · show m9 (a + 8) 2 = 40
    rw [H9 _ _ (by omega)]
    exact c8.2.2
