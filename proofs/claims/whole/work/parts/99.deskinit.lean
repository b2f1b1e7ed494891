/-! ===== a desk and a model are made ===== -/
theorem gS_fr {E E' : ET} {b : Nat} (h : gS E b) (hz : E.sz ≤ E'.sz) (hs : ∀ k, b ≤ k → k < b + 61 → E'.sh k = E.sh k ∧ E'.mr k = E.mr k) : gS E' b := by
  obtain ⟨h1, h2, h3, ⟨h4, h5⟩, ⟨h6a, h6b⟩, ⟨⟨h7a, h7b⟩, h8⟩, ⟨⟨h9a, h9b⟩, h10⟩, ⟨⟨h11a, h11b⟩, h12⟩, ⟨h13a, h13b⟩, h14a, h14b⟩ := h
  have S : ∀ k, b ≤ k → k < b + 61 → E'.sh k = E.sh k := fun k x y => (hs k x y).1
  have R : ∀ k, b ≤ k → k < b + 61 → E'.mr k = E.mr k := fun k x y => (hs k x y).2
  have R0 := R b (Nat.le_refl _) (by omega)
  refine ⟨h1, by omega, by rw [S b (Nat.le_refl _) (by omega)]; exact h3, ⟨gM_fr h4 hz (fun k x y => S k (by omega) (by omega)) (fun i => by rw [R _ (by omega) (by omega)]), by rw [R0]; exact h5⟩, ⟨by rw [S _ (by omega) (by omega)]; exact h6a, by rw [R0]; exact h6b⟩, ⟨⟨by rw [S _ (by omega) (by omega)]; exact h7a, by rw [R0]; exact h7b⟩, fun i hi => ⟨by rw [R _ (by omega) (by omega)]; exact (h8 i hi).1, (h8 i hi).2.1, by have := (h8 i hi).2.2.1; omega, by rw [S _ (by omega) (by omega)]; exact (h8 i hi).2.2.2⟩⟩, ⟨⟨by rw [S _ (by omega) (by omega)]; exact h9a, by rw [R0]; exact h9b⟩, fun i hi => ⟨by rw [R _ (by omega) (by omega)]; exact (h10 i hi).1, (h10 i hi).2.1, by have := (h10 i hi).2.2.1; omega, by rw [S _ (by omega) (by omega)]; exact (h10 i hi).2.2.2⟩⟩, ⟨⟨by rw [S _ (by omega) (by omega)]; exact h11a, by rw [R0]; exact h11b⟩, fun i hi => ⟨by rw [R _ (by omega) (by omega)]; exact (h12 i hi).1, (h12 i hi).2.1, by have := (h12 i hi).2.2.1; omega, by rw [S _ (by omega) (by omega)]; exact (h12 i hi).2.2.2⟩⟩, ⟨by rw [S _ (by omega) (by omega)]; exact h13a, by rw [R0]; exact h13b⟩, by rw [S _ (by omega) (by omega)]; exact h14a, by rw [R0]; exact h14b⟩
theorem gT_fr {E E' : ET} {b : Nat} (h : gT E b) (hz : E.sz ≤ E'.sz) (hs : ∀ k, b ≤ k → k < b + 3 → E'.sh k = E.sh k ∧ E'.mr k = E.mr k) : gT E' b := by
  obtain ⟨h1, h2, h3, ⟨h4, h5⟩, h6, h7⟩ := h
  have R0 := (hs b (Nat.le_refl _) (by omega)).2
  exact ⟨h1, by omega, by rw [(hs b (Nat.le_refl _) (by omega)).1]; exact h3, ⟨by rw [(hs _ (by omega) (by omega)).1]; exact h4, by rw [R0]; exact h5⟩, by rw [(hs _ (by omega) (by omega)).1]; exact h6, by rw [R0]; exact h7⟩
theorem iS_e {s s' : MI} (h : iS s) (e : ∀ k, k < 61 → s' k = s k) : iS s' := by
  obtain ⟨h1, h2, h3, h4, h5, h6, h7⟩ := h
  exact ⟨fun j => by rw [e 0 (by omega)]; exact h1 j, by rw [e 1 (by omega)]; exact h2, fun j => by rw [e 2 (by omega)]; exact h3 j, fun x y hx hy => by rw [e 3 (by omega)]; exact h4 x y hx hy, by rw [e 8 (by omega)]; exact h5, by rw [e 8 (by omega)]; exact h6, by rw [e 8 (by omega)]; exact h7⟩
abbrev xDesk_init (G : GT) : XT := (G, yX9_init.cls, cX9_init, 2, none, decide (yX9_init.name = "<init>"), 3, 62)
/-- a state is made while the desk is -/
theorem st_state {G : GT} {pc : Nat} {lv : List (Option AV)} {st : List AV} {E : ET} {mi : MI} (h3 : 3 ≤ E.sz) (hl : st.length ≤ 4) (hd1 : decode cX9_init pc = .ok (.new 7, 3)) (hd2 : decode cX9_init (pc + 3) = .ok (.dup, 1)) (hd3 : decode cX9_init (pc + 3 + 1) = .ok (.invokespecial 9, 3)) :
    ∃ E' mi', FW (xDesk_init G) pc lv st E mi (pc + 3 + 1 + 3) lv (.inr E.sz :: st) E' mi' ∧ E'.sz = E.sz + 61 ∧ E'.us = E.us + 967 ∧ (∀ k, k < E.sz → E'.sh k = E.sh k ∧ E'.mr k = E.mr k ∧ mi' k = mi k) ∧ gS E' E.sz ∧ iS (sm_lo E.sz mi') := by
  have alu : (sm_al E 5 0 13).us = E.us + 13 := rfl
  obtain ⟨E', mi', hc, n1, u1, f1, g1, i1⟩ := bState_init (G := G) (E := sm_al E 5 0 13) (mi := sm_z mi E.sz) (a := E.sz) h3 rfl (by
    show ((if E.1 = E.1 then (5, 0) else E.2.2.1 E.1) : Nat × Nat).1 = 5
    rw [if_pos rfl]) (fun j => by unfold sm_z; rw [if_pos rfl])
  refine ⟨E', mi', fun r kk => ?_, n1, by omega, fun k hk => ⟨?_, ?_, ?_⟩, g1, i1⟩
  · refine sm_new (kd := 5) (by decide) ln_RX9_7 hd1 ?_
    refine sm_dup hd2 ?_
    exact sm_callI (avs := []) (st := .inr E.sz :: st) lk_RX9_9 rfl nf_X7_init hc ⟨Nat.le_of_ble_eq_true rfl, Nat.le_of_ble_eq_true rfl⟩ ⟨rfl, by show st.length + 1 ≤ 8; omega⟩ rfl hd3 kk
  · rw [(f1 k hk).1, al_sh hk]
  · rw [(f1 k hk).2.1]
    show (if k = E.1 then (fun _ => none) else E.2.2.2 k) = _
    rw [if_neg (by have : k < E.1 := hk; omega)]
  · rw [(f1 k hk).2.2]
    unfold sm_z
    rw [if_neg (by omega)]
theorem st_text {G : GT} {lv : List (Option AV)} {st : List AV} {E : ET} {mi : MI} (h3 : 3 ≤ E.sz) (hl : st.length ≤ 4) :
    ∃ E' mi', FW (xDesk_init G) 46 lv st E mi 53 lv (.inr E.sz :: st) E' mi' ∧ E'.sz = E.sz + 3 ∧ E'.us = E.us + 94 ∧ (∀ k, k < E.sz → E'.sh k = E.sh k ∧ E'.mr k = E.mr k ∧ mi' k = mi k) ∧ gT E' E.sz ∧ ∀ j, mi' E.sz j = 0 := by
  have alu : (sm_al E 1 0 4).us = E.us + 4 := rfl
  obtain ⟨E', mi', hc, n1, u1, f1, f2, f3, g1⟩ := bText_init (G := G) (E := sm_al E 1 0 4) (mi := sm_z mi E.sz) (a := E.sz) h3 rfl (by
    show ((if E.1 = E.1 then (1, 0) else E.2.2.1 E.1) : Nat × Nat).1 = 1
    rw [if_pos rfl])
  refine ⟨E', mi', fun r kk => ?_, n1, by omega, fun k hk => ⟨?_, ?_, ?_⟩, g1, fun j => ?_⟩
  · refine sm_new (kd := 1) (by decide) ln_RX9_26 dX9_init_46 ?_
    refine sm_dup dX9_init_49 ?_
    exact sm_callI (avs := []) (st := .inr E.sz :: st) lk_RX9_28 rfl nf_X2_init hc ⟨Nat.le_of_ble_eq_true rfl, Nat.le_of_ble_eq_true rfl⟩ ⟨rfl, by show st.length + 1 ≤ 8; omega⟩ rfl dX9_init_50 kk
  · rw [f1 k (by omega), al_sh hk]
  · rw [f2 k hk]
    show (if k = E.1 then (fun _ => none) else E.2.2.2 k) = _
    rw [if_neg (by have : k < E.1 := hk; omega)]
  · rw [f3 k (by omega)]
    unfold sm_z
    rw [if_neg (by omega)]
  · rw [f3 _ (Nat.le_refl _)]
    unfold sm_z
    rw [if_pos rfl]
theorem desk_hist {G : GT} {a : Nat} (h3a : 3 ≤ a) : ∀ (k i : Nat) (E : ET) (mi : MI), i + k = 4 → E.sz = a + (188 + 61 * i) → (E.sh a).1 = 6 → E.mr a 3 = some (a + 184) → E.sh (a + 184) = (25, 4) →
    ∃ E' mi', FW (xDesk_init G) 58 [some (.inr a), some (.inl (i : Int))] [] E mi 82 [some (.inr a), some (.inl 4)] [] E' mi' ∧ E'.sz = a + 432 ∧ E'.us = E.us + k * 967 ∧ (∀ b, b < E.sz → E'.sh b = E.sh b ∧ (¬ b = a + 184 → E'.mr b = E.mr b) ∧ mi' b = mi b) ∧ (∀ j, E'.mr (a + 184) j = if i ≤ j ∧ j < 4 then some (a + (188 + 61 * j)) else E.mr (a + 184) j) ∧ ∀ j, i ≤ j → j < 4 → gS E' (a + (188 + 61 * j)) := by
  intro k
  induction k with
  | zero =>
    intro i E mi hi hz hk hr hs
    have e : i = 4 := by omega
    subst e
    refine ⟨E, mi, fun r kk => ?_, by omega, by omega, fun b hb => ⟨rfl, fun _ => rfl, rfl⟩, fun j => by rw [if_neg (by omega)], fun j x y => absurd x (by omega)⟩
    refine sm_iload_n dX9_init_58 rfl ?_
    refine sm_iconst dX9_init_59 ?_
    exact sm_icmp_ge 82 dX9_init_60 rfl (fun _ => kk) (fun q => absurd (Int.le_refl _) q)
  | succ k ih =>
    intro i E mi hi hz hk hr hs
    have wi : sm_w (i : Int) = i := tw (by omega) (by omega)
    obtain ⟨E1, m1, s1, n1, u1, f1, g1, _⟩ := st_state (G := G) (pc := 68) (lv := [some (.inr a), some (.inl (i : Int))]) (st := [.inl (i : Int), .inr (a + 184)]) (E := E) (mi := mi) (by omega) (by show 2 ≤ 4; omega) dX9_init_68 dX9_init_71 dX9_init_72
    obtain ⟨E2, hE2⟩ : ∃ E2 : ET, E2 = (E1.1, E1.2.1, E1.2.2.1, sm_upr E1.mr (a + 184) i (some E.sz)) := ⟨_, rfl⟩
    have n2 : E2.sz = E1.sz := by rw [hE2]
    have u2 : E2.us = E1.us := by rw [hE2]
    have p2 : ∀ b, E2.sh b = E1.sh b := fun b => by rw [hE2]
    have q2 : ∀ b j, E2.mr b j = if b = a + 184 ∧ j = i then some E.sz else E1.mr b j := fun b j => by rw [hE2]; rfl
    obtain ⟨E3, m3, s3, n3, u3, f3, r3, g3⟩ := ih (i + 1) E2 m1 (by omega) (by omega) (by rw [p2, (f1 a (by omega)).1]; exact hk) (by rw [q2, if_neg (by omega), (f1 a (by omega)).2.1]; exact hr) (by rw [p2, (f1 _ (by omega)).1]; exact hs)
    refine ⟨E3, m3, fun r kk => ?_, n3, by omega, fun b hb => ⟨?_, fun hb' => ?_, ?_⟩, fun j => ?_, fun j x y => ?_⟩
    · refine sm_iload_n dX9_init_58 rfl ?_
      refine sm_iconst dX9_init_59 ?_
      refine sm_icmp_ge 82 dX9_init_60 rfl (fun q => absurd q (by rw [wi, tw (x := 4) (by omega) (by omega)]; omega)) (fun _ => ?_)
      refine sm_aload_n dX9_init_63 rfl ?_
      refine sm_getR lf_RX9_22 fR_6_3 hk (by omega) hr dX9_init_64 ?_
      refine sm_iload_n dX9_init_67 rfl ?_
      refine s1 _ ?_
      refine sm_aastore (kd := 25) (n := 4) (Or.inr (Or.inr (Or.inr rfl))) (by rw [(f1 _ (by omega)).1]; exact hs) (by omega) (by omega) (by rw [wi]; omega) (by rw [wi]; omega) g1.2.2.1 (by omega) dX9_init_75 ?_
      refine sm_iinc dX9_init_76 (Nat.le_of_ble_eq_true rfl) rfl ?_
      refine sm_goto 58 dX9_init_79 rfl ?_
      rw [wi]
      have kk' := s3 r kk
      rw [hE2] at kk'
      exact kk'
    · rw [(f3 b (by omega)).1, p2, (f1 b hb).1]
    · rw [(f3 b (by omega)).2.1 hb']
      funext j
      rw [q2, if_neg (fun e => hb' e.1), (f1 b hb).2.1]
    · rw [(f3 b (by omega)).2.2, (f1 b hb).2.2]
    · rw [r3, q2, (f1 _ (by omega)).2.1]
      by_cases z : i + 1 ≤ j ∧ j < 4
      · rw [if_pos z, if_pos (by omega)]
      · rw [if_neg z]
        by_cases y : j = i
        · rw [if_pos ⟨rfl, y⟩, if_pos (by omega), hz, y]
        · rw [if_neg (fun e => y e.2), if_neg (by omega)]
    · by_cases z : j = i
      · subst z
        have g1' : gS E1 (a + (188 + 61 * j)) := by rw [← hz]; exact g1
        refine gS_fr g1' (by omega) (fun c x' y' => ⟨by rw [(f3 c (by omega)).1, p2], ?_⟩)
        rw [(f3 c (by omega)).2.1 (by omega)]
        funext i'
        rw [q2, if_neg (by omega)]
      · exact g3 j (by omega) y
theorem bDesk_init {G : GT} {E : ET} {mi : MI} {a : Nat} (h3 : 3 ≤ a) (hsz : E.sz = a + 1) (hk : (E.sh a).1 = 6) (hm : ∀ j, mi a j = 0) : ∃ E' mi', cN G yX9_init cX9_init 2 none 3 62 [.inr a] E mi (none, E', mi') ∧ E'.sz = a + 432 ∧ E'.us = E.us + 6867 ∧ (∀ k, k < a → E'.sh k = E.sh k ∧ E'.mr k = E.mr k ∧ mi' k = mi k) ∧ gD E' a ∧ (∀ i, i < 4 → E'.mr (a + 184) i = some (a + (188 + 61 * i))) ∧ (∀ j, mi' a j = 0) ∧ iS (sm_lo (a + 1) mi') ∧ ∀ j, mi' (a + 185) j = 0 := by
  obtain ⟨E1, m1, s1, n1, u1, f1, g1, i1⟩ := st_state (G := G) (pc := 5) (lv := [some (.inr a), none]) (st := [.inr a]) (E := E) (mi := mi) (by omega) (by show 1 ≤ 4; omega) dX9_init_5 dX9_init_8 dX9_init_9
  obtain ⟨E2, s2, n2, u2, p2, q2⟩ := st_put (X := xDesk_init G) (pc := 12) (lv := [some (.inr a), none]) (st := []) (E := E1) (mi := m1) (a := a) (b := E.sz) (j := 0) (kdo := 6) lp_RX9_10 fQ_6_0 rfl rfl (by rw [(f1 a (by omega)).1]; exact hk) h3 (by omega) dX9_init_12
  obtain ⟨E3, m3, s3, n3, u3, f3, g3, i3⟩ := st_state (G := G) (pc := 16) (lv := [some (.inr a), none]) (st := [.inr a]) (E := E2) (mi := m1) (by omega) (by show 1 ≤ 4; omega) dX9_init_16 dX9_init_19 dX9_init_20
  have k3 : (E3.sh a).1 = 6 := by rw [(f3 a (by omega)).1, p2, (f1 a (by omega)).1]; exact hk
  obtain ⟨E4, s4, n4, u4, p4, q4⟩ := st_put (X := xDesk_init G) (pc := 23) (lv := [some (.inr a), none]) (st := []) (E := E3) (mi := m3) (a := a) (b := E2.sz) (j := 1) (kdo := 6) lp_RX9_16 fQ_6_1 rfl rfl k3 h3 (by omega) dX9_init_23
  obtain ⟨E5, m5, s5, n5, u5, f5, g5, i5⟩ := st_state (G := G) (pc := 27) (lv := [some (.inr a), none]) (st := [.inr a]) (E := E4) (mi := m3) (by omega) (by show 1 ≤ 4; omega) dX9_init_27 dX9_init_30 dX9_init_31
  have k5 : (E5.sh a).1 = 6 := by rw [(f5 a (by omega)).1, p4]; exact k3
  obtain ⟨E6, s6, n6, u6, p6, q6⟩ := st_put (X := xDesk_init G) (pc := 34) (lv := [some (.inr a), none]) (st := []) (E := E5) (mi := m5) (a := a) (b := E4.sz) (j := 2) (kdo := 6) lp_RX9_19 fQ_6_2 rfl rfl k5 h3 (by omega) dX9_init_34
  have k6 : (E6.sh a).1 = 6 := by rw [p6]; exact k5
  obtain ⟨E7, m7, s7, n7, u7, p7, q7, v7⟩ := st_aarr (X := xDesk_init G) (pc := 39) (lv := [some (.inr a), none]) (st := []) (E := E6) (mi := m5) (a := a) (j := 3) (kdo := 6) (n := 4) (kd := 25) (Or.inr (Or.inr (Or.inr rfl))) la_RX9_7 (by decide) dX9_init_39 lp_RX9_22 fQ_6_3 rfl rfl k6 h3 (by omega) dX9_init_42
  have k7 : (E7.sh a).1 = 6 := by rw [p7, if_neg (by omega)]; exact k6
  obtain ⟨E8, m8, s8, n8, u8, f8, g8, t8⟩ := st_text (G := G) (lv := [some (.inr a), none]) (st := [.inr a]) (E := E7) (mi := m7) (by omega) (by show 1 ≤ 4; omega)
  have k8 : (E8.sh a).1 = 6 := by rw [(f8 a (by omega)).1]; exact k7
  obtain ⟨E9, s9, n9, u9, p9, q9⟩ := st_put (X := xDesk_init G) (pc := 53) (lv := [some (.inr a), none]) (st := []) (E := E8) (mi := m8) (a := a) (b := E7.sz) (j := 6) (kdo := 6) lp_RX9_29 fQ_6_6 rfl rfl k8 h3 (by omega) dX9_init_53
  have k9 : (E9.sh a).1 = 6 := by rw [p9]; exact k8
  have z1 : E1.sz = a + 62 := by omega
  have z3 : E3.sz = a + 123 := by omega
  have z5 : E5.sz = a + 184 := by omega
  have z7 : E7.sz = a + 185 := by omega
  have z9 : E9.sz = a + 188 := by omega
  have r9 : E9.mr a 3 = some (a + 184) := by
    rw [q9, if_neg (by omega), (f8 a (by omega)).2.1, q7, if_pos ⟨rfl, rfl⟩, n6, z5]
  have t9 : E9.sh (a + 184) = (25, 4) := by
    rw [p9, (f8 _ (by omega)).1, p7, if_pos (by omega)]
  obtain ⟨EA, mA, sA, nA, uA, fA, rA, gA'⟩ := desk_hist (G := G) h3 4 0 E9 m8 (by omega) (by omega) k9 r9 t9
  -- cells below k keep their shape, references and numbers from the step at which they were made
  have SA9 : ∀ b, b < a + 188 → EA.sh b = E9.sh b := fun b hb => (fA b (by omega)).1
  have MA9 : ∀ b, b < a + 188 → ¬ b = a + 184 → EA.mr b = E9.mr b := fun b hb hn => (fA b (by omega)).2.1 hn
  have IA9 : ∀ b, b < a + 188 → mA b = m8 b := fun b hb => (fA b (by omega)).2.2
  have S97 : ∀ b, b < a + 185 → E9.sh b = E7.sh b := fun b hb => by rw [p9, (f8 b (by omega)).1]
  have M97 : ∀ b, b < a + 185 → ¬ b = a → E9.mr b = E7.mr b := fun b hb hn => by
    funext i
    rw [q9, if_neg (fun e => hn e.1), (f8 b (by omega)).2.1]
  have I87 : ∀ b, b < a + 185 → m8 b = m7 b := fun b hb => (f8 b (by omega)).2.2
  have S75 : ∀ b, b < a + 184 → E7.sh b = E5.sh b := fun b hb => by rw [p7, if_neg (by omega), p6]
  have M75 : ∀ b, b < a + 184 → ¬ b = a → E7.mr b = E5.mr b := fun b hb hn => by
    funext i
    rw [q7, if_neg (fun e => hn e.1), if_neg (by omega), q6, if_neg (fun e => hn e.1)]
  have I75 : ∀ b, b < a + 184 → m7 b = m5 b := fun b hb => by
    funext i
    rw [v7, if_neg (by omega)]
  have S53 : ∀ b, b < a + 123 → E5.sh b = E3.sh b := fun b hb => by rw [(f5 b (by omega)).1, p4]
  have M53 : ∀ b, b < a + 123 → ¬ b = a → E5.mr b = E3.mr b := fun b hb hn => by
    rw [(f5 b (by omega)).2.1]
    funext i
    rw [q4, if_neg (fun e => hn e.1)]
  have I53 : ∀ b, b < a + 123 → m5 b = m3 b := fun b hb => (f5 b (by omega)).2.2
  have S31 : ∀ b, b < a + 62 → E3.sh b = E1.sh b := fun b hb => by rw [(f3 b (by omega)).1, p2]
  have M31 : ∀ b, b < a + 62 → ¬ b = a → E3.mr b = E1.mr b := fun b hb hn => by
    rw [(f3 b (by omega)).2.1]
    funext i
    rw [q2, if_neg (fun e => hn e.1)]
  have I31 : ∀ b, b < a + 62 → m3 b = m1 b := fun b hb => (f3 b (by omega)).2.2
  have ra : ∀ i, EA.mr a i = if i = 6 then some (a + 185) else if i = 3 then some (a + 184) else if i = 2 then some (a + 123) else if i = 1 then some (a + 62) else if i = 0 then some (a + 1) else EA.mr a i := fun i => by
    by_cases e6 : i = 6
    · rw [if_pos e6, MA9 a (by omega) (by omega), q9, if_pos ⟨rfl, e6⟩, z7]
    · rw [if_neg e6]
      by_cases e3 : i = 3
      · rw [if_pos e3, MA9 a (by omega) (by omega), e3]
        exact r9
      · rw [if_neg e3]
        have b9 : EA.mr a i = E6.mr a i := by rw [MA9 a (by omega) (by omega), q9, if_neg (fun e => e6 e.2), (f8 a (by omega)).2.1, q7, if_neg (fun e => e3 e.2), if_neg (by omega)]
        by_cases e2 : i = 2
        · rw [if_pos e2, b9, q6, if_pos ⟨rfl, e2⟩, n4, z3]
        · rw [if_neg e2]
          have b6 : EA.mr a i = E4.mr a i := by rw [b9, q6, if_neg (fun e => e2 e.2), (f5 a (by omega)).2.1]
          by_cases e1 : i = 1
          · rw [if_pos e1, b6, q4, if_pos ⟨rfl, e1⟩, n2, z1]
          · rw [if_neg e1]
            have b4 : EA.mr a i = E2.mr a i := by rw [b6, q4, if_neg (fun e => e1 e.2), (f3 a (by omega)).2.1]
            by_cases e0 : i = 0
            · rw [if_pos e0, b4, q2, if_pos ⟨rfl, e0⟩, hsz]
            · rw [if_neg e0]
  have G1 : gS EA (a + 1) := by
    have g1' : gS E1 (a + 1) := by rw [← hsz]; exact g1
    exact gS_fr g1' (by omega) (fun c x y => ⟨by rw [SA9 c (by omega), S97 c (by omega), S75 c (by omega), S53 c (by omega), S31 c (by omega)], by rw [MA9 c (by omega) (by omega), M97 c (by omega) (by omega), M75 c (by omega) (by omega), M53 c (by omega) (by omega), M31 c (by omega) (by omega)]⟩)
  have G2 : gS EA (a + 62) := by
    have g3' : gS E3 (a + 62) := by rw [show a + 62 = E2.sz by omega]; exact g3
    exact gS_fr g3' (by omega) (fun c x y => ⟨by rw [SA9 c (by omega), S97 c (by omega), S75 c (by omega), S53 c (by omega)], by rw [MA9 c (by omega) (by omega), M97 c (by omega) (by omega), M75 c (by omega) (by omega), M53 c (by omega) (by omega)]⟩)
  have G3 : gS EA (a + 123) := by
    have g5' : gS E5 (a + 123) := by rw [show a + 123 = E4.sz by omega]; exact g5
    exact gS_fr g5' (by omega) (fun c x y => ⟨by rw [SA9 c (by omega), S97 c (by omega), S75 c (by omega)], by rw [MA9 c (by omega) (by omega), M97 c (by omega) (by omega), M75 c (by omega) (by omega)]⟩)
  have G4 : gT EA (a + 185) := by
    have g8' : gT E8 (a + 185) := by rw [← z7]; exact g8
    refine gT_fr g8' (by omega) (fun c x y => ⟨by rw [SA9 c (by omega), p9], ?_⟩)
    rw [MA9 c (by omega) (by omega)]
    funext i
    rw [q9, if_neg (by omega)]
  refine ⟨EA, mA, ?_, nA, by omega, fun k hk' => ⟨?_, ?_, ?_⟩, ⟨h3, by omega, by rw [SA9 a (by omega)]; exact k9, ⟨G1, by rw [ra 0]; rfl⟩, ⟨G2, by rw [ra 1]; rfl⟩, ⟨G3, by rw [ra 2]; rfl⟩, ⟨by rw [SA9 _ (by omega)]; exact t9, by rw [ra 3]; rfl⟩, ⟨G4, by rw [ra 6]; rfl⟩, fun k hk' => gA' k (by omega) hk'⟩, fun i hi => ?_, fun j => ?_, ?_, fun j => ?_⟩
  · refine sm_meth (by decide +kernel) (Nat.le_of_ble_eq_true rfl) ?_
    refine sm_aload_n dX9_init_0 rfl ?_
    refine sm_objInit lo_RX9_1 ⟨Nat.le_of_ble_eq_true rfl, Nat.le_of_ble_eq_true rfl⟩ dX9_init_1 ?_
    refine sm_aload_n dX9_init_4 rfl ?_
    refine s1 _ ?_
    refine s2 _ ?_
    refine sm_aload_n dX9_init_15 rfl ?_
    refine s3 _ ?_
    refine s4 _ ?_
    refine sm_aload_n dX9_init_26 rfl ?_
    refine s5 _ ?_
    refine s6 _ ?_
    refine sm_aload_n dX9_init_37 rfl ?_
    refine sm_iconst dX9_init_38 ?_
    refine s7 _ ?_
    refine sm_aload_n dX9_init_45 rfl ?_
    refine s8 _ ?_
    refine s9 _ ?_
    refine sm_iconst dX9_init_56 ?_
    refine sm_istore_n dX9_init_57 (Nat.le_of_ble_eq_true rfl) ?_
    refine sA _ ?_
    exact sm_return rfl dX9_init_82
  · rw [SA9 k (by omega), S97 k (by omega), S75 k (by omega), S53 k (by omega), S31 k (by omega), (f1 k (by omega)).1]
  · rw [MA9 k (by omega) (by omega), M97 k (by omega) (by omega), M75 k (by omega) (by omega), M53 k (by omega) (by omega), M31 k (by omega) (by omega), (f1 k (by omega)).2.1]
  · rw [IA9 k (by omega), I87 k (by omega), I75 k (by omega), I53 k (by omega), I31 k (by omega), (f1 k (by omega)).2.2]
  · rw [rA, if_pos ⟨Nat.zero_le _, hi⟩]
  · rw [IA9 a (by omega), I87 a (by omega), I75 a (by omega), I53 a (by omega), I31 a (by omega), (f1 a (by omega)).2.2]
    exact hm j
  · have i1' : iS (sm_lo (a + 1) m1) := by rw [← hsz]; exact i1
    refine iS_e i1' (fun c hc => ?_)
    show mA (a + 1 + c) = m1 (a + 1 + c)
    rw [IA9 _ (by omega), I87 _ (by omega), I75 _ (by omega), I53 _ (by omega), I31 _ (by omega)]
  · rw [IA9 _ (by omega), ← z7]
    exact t8 j
theorem gl_lo (o n : Nat) (mi : MI) : sm_gl o n (sm_lo o mi) mi = mi := by
  funext a j
  unfold sm_gl sm_lo
  by_cases z : o ≤ a ∧ a < o + n
  · rw [if_pos z, show o + (a - o) = a by omega]
  · rw [if_neg z]
abbrev xModel_init (G : GT) : XT := (G, yX10_init.cls, cX10_init, 1, none, decide (yX10_init.name = "<init>"), 1, 23)
theorem bModel_init {G : GT} {E : ET} {mi : MI} {a : Nat} (h3 : 3 ≤ a) (hsz : E.sz = a + 1) (hk : (E.sh a).1 = 7) (hm : ∀ j, mi a j = 0) : ∃ E' mi', cN G yX10_init cX10_init 1 none 1 23 [.inr a] E mi (none, E', mi') ∧ E'.sz = a + 10 ∧ E'.us = E.us + 6118 ∧ (∀ k, k < a → E'.sh k = E.sh k ∧ E'.mr k = E.mr k ∧ mi' k = mi k) ∧ gL E' a ∧ (∀ j, mi' a j = 0) ∧ (∀ j, mi' (a + 1) j = if j = 2 then 90 else if j = 3 then 60 else if j = 4 then 40 else 0) ∧ wOK (sm_lo a mi') := by
  obtain ⟨E1, m1, s1, n1, u1, p1, q1, v1⟩ := st_arr (X := xModel_init G) (pc := 8) (lv := [some (.inr a)]) (st := []) (E := E) (mi := mi) (a := a) (j := 0) (kdo := 7) (n := 810) (kd := 20) (Or.inl ⟨rfl, rfl⟩) ac_int (by decide) dX10_init_8 lp_RX10_7 fQ_7_0 rfl rfl hk h3 (by omega) dX10_init_10
  have k1 : (E1.sh a).1 = 7 := by rw [p1, if_neg (by omega)]; exact hk
  have z1 : E1.sz = a + 2 := by omega
  obtain ⟨E2, m2, s2, n2, u2, p2, q2, v2⟩ := st_arr (X := xModel_init G) (pc := 17) (lv := [some (.inr a)]) (st := []) (E := E1) (mi := m1) (a := a) (j := 1) (kdo := 7) (n := 3240) (kd := 20) (Or.inl ⟨rfl, rfl⟩) ac_int (by decide) dX10_init_17 lp_RX10_13 fQ_7_1 rfl rfl k1 h3 (by omega) dX10_init_19
  have k2 : (E2.sh a).1 = 7 := by rw [p2, if_neg (by omega)]; exact k1
  have z2 : E2.sz = a + 3 := by omega
  obtain ⟨E3, m3, s3, n3, u3, p3, q3, v3⟩ := st_arr (X := xModel_init G) (pc := 26) (lv := [some (.inr a)]) (st := []) (E := E2) (mi := m2) (a := a) (j := 3) (kdo := 7) (n := 810) (kd := 20) (Or.inl ⟨rfl, rfl⟩) ac_int (by decide) dX10_init_26 lp_RX10_16 fQ_7_3 rfl rfl k2 h3 (by omega) dX10_init_28
  have k3 : (E3.sh a).1 = 7 := by rw [p3, if_neg (by omega)]; exact k2
  have z3 : E3.sz = a + 4 := by omega
  obtain ⟨E4, m4, s4, n4, u4, p4, q4, v4⟩ := st_arr (X := xModel_init G) (pc := 35) (lv := [some (.inr a)]) (st := []) (E := E3) (mi := m3) (a := a) (j := 5) (kdo := 7) (n := 810) (kd := 20) (Or.inl ⟨rfl, rfl⟩) ac_int (by decide) dX10_init_35 lp_RX10_19 fQ_7_5 rfl rfl k3 h3 (by omega) dX10_init_37
  have k4 : (E4.sh a).1 = 7 := by rw [p4, if_neg (by omega)]; exact k3
  have z4 : E4.sz = a + 5 := by omega
  obtain ⟨E5, m5, s5, n5, u5, p5, q5, v5⟩ := st_arr (X := xModel_init G) (pc := 43) (lv := [some (.inr a)]) (st := []) (E := E4) (mi := m4) (a := a) (j := 6) (kdo := 7) (n := 60) (kd := 20) (Or.inl ⟨rfl, rfl⟩) ac_int (by decide) dX10_init_43 lp_RX10_22 fQ_7_6 rfl rfl k4 h3 (by omega) dX10_init_45
  have k5 : (E5.sh a).1 = 7 := by rw [p5, if_neg (by omega)]; exact k4
  have z5 : E5.sz = a + 6 := by omega
  obtain ⟨E6, m6, s6, n6, u6, p6, q6, v6⟩ := st_arr (X := xModel_init G) (pc := 52) (lv := [some (.inr a)]) (st := []) (E := E5) (mi := m5) (a := a) (j := 8) (kdo := 7) (n := 144) (kd := 20) (Or.inl ⟨rfl, rfl⟩) ac_int (by decide) dX10_init_52 lp_RX10_25 fQ_7_8 rfl rfl k5 h3 (by omega) dX10_init_54
  have k6 : (E6.sh a).1 = 7 := by rw [p6, if_neg (by omega)]; exact k5
  have z6 : E6.sz = a + 7 := by omega
  obtain ⟨E7, m7, s7, n7, u7, p7, q7, v7⟩ := st_arr (X := xModel_init G) (pc := 61) (lv := [some (.inr a)]) (st := []) (E := E6) (mi := m6) (a := a) (j := 9) (kdo := 7) (n := 144) (kd := 20) (Or.inl ⟨rfl, rfl⟩) ac_int (by decide) dX10_init_61 lp_RX10_28 fQ_7_9 rfl rfl k6 h3 (by omega) dX10_init_63
  have k7 : (E7.sh a).1 = 7 := by rw [p7, if_neg (by omega)]; exact k6
  have z7 : E7.sz = a + 8 := by omega
  obtain ⟨E8, m8, s8, n8, u8, p8, q8, v8⟩ := st_arr (X := xModel_init G) (pc := 69) (lv := [some (.inr a)]) (st := []) (E := E7) (mi := m7) (a := a) (j := 10) (kdo := 7) (n := 40) (kd := 20) (Or.inl ⟨rfl, rfl⟩) ac_int (by decide) dX10_init_69 lp_RX10_31 fQ_7_10 rfl rfl k7 h3 (by omega) dX10_init_71
  have k8 : (E8.sh a).1 = 7 := by rw [p8, if_neg (by omega)]; exact k7
  have z8 : E8.sz = a + 9 := by omega
  obtain ⟨E9, m9, s9, n9, u9, p9, q9, v9⟩ := st_arr (X := xModel_init G) (pc := 77) (lv := [some (.inr a)]) (st := []) (E := E8) (mi := m8) (a := a) (j := 12) (kdo := 7) (n := 60) (kd := 20) (Or.inl ⟨rfl, rfl⟩) ac_int (by decide) dX10_init_77 lp_RX10_34 fQ_7_12 rfl rfl k8 h3 (by omega) dX10_init_79
  have k9 : (E9.sh a).1 = 7 := by rw [p9, if_neg (by omega)]; exact k8
  have z9 : E9.sz = a + 10 := by omega
  have t1 : E9.sh (a + 1) = (20, 810) := by rw [p9, if_neg (by omega), p8, if_neg (by omega), p7, if_neg (by omega), p6, if_neg (by omega), p5, if_neg (by omega), p4, if_neg (by omega), p3, if_neg (by omega), p2, if_neg (by omega), p1, if_pos (by omega)]
  have r1 : E9.mr a 0 = some (a + 1) := by rw [q9, if_neg (by omega), if_neg (by omega), q8, if_neg (by omega), if_neg (by omega), q7, if_neg (by omega), if_neg (by omega), q6, if_neg (by omega), if_neg (by omega), q5, if_neg (by omega), if_neg (by omega), q4, if_neg (by omega), if_neg (by omega), q3, if_neg (by omega), if_neg (by omega), q2, if_neg (by omega), if_neg (by omega), q1, if_pos ⟨rfl, rfl⟩]; congr 1
  have t2 : E9.sh (a + 2) = (20, 3240) := by rw [p9, if_neg (by omega), p8, if_neg (by omega), p7, if_neg (by omega), p6, if_neg (by omega), p5, if_neg (by omega), p4, if_neg (by omega), p3, if_neg (by omega), p2, if_pos (by omega)]
  have r2 : E9.mr a 1 = some (a + 2) := by rw [q9, if_neg (by omega), if_neg (by omega), q8, if_neg (by omega), if_neg (by omega), q7, if_neg (by omega), if_neg (by omega), q6, if_neg (by omega), if_neg (by omega), q5, if_neg (by omega), if_neg (by omega), q4, if_neg (by omega), if_neg (by omega), q3, if_neg (by omega), if_neg (by omega), q2, if_pos ⟨rfl, rfl⟩]; congr 1
  have t3 : E9.sh (a + 3) = (20, 810) := by rw [p9, if_neg (by omega), p8, if_neg (by omega), p7, if_neg (by omega), p6, if_neg (by omega), p5, if_neg (by omega), p4, if_neg (by omega), p3, if_pos (by omega)]
  have r3 : E9.mr a 3 = some (a + 3) := by rw [q9, if_neg (by omega), if_neg (by omega), q8, if_neg (by omega), if_neg (by omega), q7, if_neg (by omega), if_neg (by omega), q6, if_neg (by omega), if_neg (by omega), q5, if_neg (by omega), if_neg (by omega), q4, if_neg (by omega), if_neg (by omega), q3, if_pos ⟨rfl, rfl⟩]; congr 1
  have t4 : E9.sh (a + 4) = (20, 810) := by rw [p9, if_neg (by omega), p8, if_neg (by omega), p7, if_neg (by omega), p6, if_neg (by omega), p5, if_neg (by omega), p4, if_pos (by omega)]
  have r4 : E9.mr a 5 = some (a + 4) := by rw [q9, if_neg (by omega), if_neg (by omega), q8, if_neg (by omega), if_neg (by omega), q7, if_neg (by omega), if_neg (by omega), q6, if_neg (by omega), if_neg (by omega), q5, if_neg (by omega), if_neg (by omega), q4, if_pos ⟨rfl, rfl⟩]; congr 1
  have t5 : E9.sh (a + 5) = (20, 60) := by rw [p9, if_neg (by omega), p8, if_neg (by omega), p7, if_neg (by omega), p6, if_neg (by omega), p5, if_pos (by omega)]
  have r5 : E9.mr a 6 = some (a + 5) := by rw [q9, if_neg (by omega), if_neg (by omega), q8, if_neg (by omega), if_neg (by omega), q7, if_neg (by omega), if_neg (by omega), q6, if_neg (by omega), if_neg (by omega), q5, if_pos ⟨rfl, rfl⟩]; congr 1
  have t6 : E9.sh (a + 6) = (20, 144) := by rw [p9, if_neg (by omega), p8, if_neg (by omega), p7, if_neg (by omega), p6, if_pos (by omega)]
  have r6 : E9.mr a 8 = some (a + 6) := by rw [q9, if_neg (by omega), if_neg (by omega), q8, if_neg (by omega), if_neg (by omega), q7, if_neg (by omega), if_neg (by omega), q6, if_pos ⟨rfl, rfl⟩]; congr 1
  have t7 : E9.sh (a + 7) = (20, 144) := by rw [p9, if_neg (by omega), p8, if_neg (by omega), p7, if_pos (by omega)]
  have r7 : E9.mr a 9 = some (a + 7) := by rw [q9, if_neg (by omega), if_neg (by omega), q8, if_neg (by omega), if_neg (by omega), q7, if_pos ⟨rfl, rfl⟩]; congr 1
  have t8 : E9.sh (a + 8) = (20, 40) := by rw [p9, if_neg (by omega), p8, if_pos (by omega)]
  have r8 : E9.mr a 10 = some (a + 8) := by rw [q9, if_neg (by omega), if_neg (by omega), q8, if_pos ⟨rfl, rfl⟩]; congr 1
  have t9 : E9.sh (a + 9) = (20, 60) := by rw [p9, if_pos (by omega)]
  have r9 : E9.mr a 12 = some (a + 9) := by rw [q9, if_pos ⟨rfl, rfl⟩]; congr 1
  have low : ∀ b, b < a + 1 → E9.sh b = E.sh b := fun b hb => by rw [p9, if_neg (by omega), p8, if_neg (by omega), p7, if_neg (by omega), p6, if_neg (by omega), p5, if_neg (by omega), p4, if_neg (by omega), p3, if_neg (by omega), p2, if_neg (by omega), p1, if_neg (by omega)]
  have lowr : ∀ b, b < a → E9.mr b = E.mr b := fun b hb => by
    funext i
    rw [q9, if_neg (by omega), if_neg (by omega), q8, if_neg (by omega), if_neg (by omega), q7, if_neg (by omega), if_neg (by omega), q6, if_neg (by omega), if_neg (by omega), q5, if_neg (by omega), if_neg (by omega), q4, if_neg (by omega), if_neg (by omega), q3, if_neg (by omega), if_neg (by omega), q2, if_neg (by omega), if_neg (by omega), q1, if_neg (by omega), if_neg (by omega)]
  have lowm : ∀ b i, b < a + 1 → m9 b i = mi b i := fun b i hb => by rw [v9, if_neg (by omega), v8, if_neg (by omega), v7, if_neg (by omega), v6, if_neg (by omega), v5, if_neg (by omega), v4, if_neg (by omega), v3, if_neg (by omega), v2, if_neg (by omega), v1, if_neg (by omega)]
  have one : ∀ i, m9 (a + 1) i = 0 := fun i => by rw [v9, if_neg (by omega), v8, if_neg (by omega), v7, if_neg (by omega), v6, if_neg (by omega), v5, if_neg (by omega), v4, if_neg (by omega), v3, if_neg (by omega), v2, if_neg (by omega), v1, if_pos (by omega)]
  have gl : gL E9 a := ⟨h3, by omega, k9, ⟨t1, r1⟩, ⟨t2, r2⟩, ⟨t3, r3⟩, ⟨t4, r4⟩, ⟨t5, r5⟩, ⟨t6, r6⟩, ⟨t7, r7⟩, ⟨t8, r8⟩, t9, r9⟩
  have w2 : sm_w 2 = 2 := tw (by omega) (by omega)
  have w3 : sm_w 3 = 3 := tw (by omega) (by omega)
  have w4 : sm_w 4 = 4 := tw (by omega) (by omega)
  obtain ⟨mB, hB⟩ : ∃ mB : MI, mB = sm_up (sm_up (sm_up m9 (a + 1) 2 90) (a + 1) 3 60) (a + 1) 4 40 := ⟨_, rfl⟩
  have b1 : ∀ j, mB (a + 1) j = if j = 2 then 90 else if j = 3 then 60 else if j = 4 then 40 else 0 := fun j => by
    rw [hB, up_k, up_k, up_k, one]
    by_cases e4 : j = 4
    · rw [if_pos e4, if_neg (by omega), if_neg (by omega), if_pos e4]
    · rw [if_neg e4]
      by_cases e3 : j = 3
      · rw [if_pos e3, if_neg (by omega), if_pos e3]
      · rw [if_neg e3, if_neg e3, if_neg e4]
  have b0 : ∀ b, ¬ b = a + 1 → mB b = m9 b := fun b hb => by rw [hB, up_D hb, up_D hb, up_D hb]
  obtain ⟨w, eW, fW, oW⟩ := lays_eq (m := sm_lo a mB) (by
    refine ⟨?_, ?_, fun r hr => ?_⟩
    · show 0 ≤ mB (a + 1) 5
      rw [b1, if_neg (by omega), if_neg (by omega), if_neg (by omega)]
      omega
    · show mB (a + 1) 5 ≤ 30
      rw [b1, if_neg (by omega), if_neg (by omega), if_neg (by omega)]
      omega
    · have : mB (a + 1) 5 = 0 := by rw [b1, if_neg (by omega), if_neg (by omega), if_neg (by omega)]
      have hr' : (r : Int) < mB (a + 1) 5 := hr
      omega)
  have hC := bModel_laysWays (G := G) (E := E9) (o := a) (s := sm_lo a mB) (mi := mB) gl eW
  rw [gl_lo] at hC
  refine ⟨E9, sm_gl a 10 w mB, ?_, by omega, by omega, fun k hk' => ⟨low k (by omega), lowr k hk', ?_⟩, gl, fun j => ?_, fun j => ?_, ?_⟩
  · refine sm_meth (by decide +kernel) (Nat.le_of_ble_eq_true rfl) ?_
    refine sm_aload_n dX10_init_0 rfl ?_
    refine sm_objInit lo_RX10_1 ⟨Nat.le_of_ble_eq_true rfl, Nat.le_of_ble_eq_true rfl⟩ dX10_init_1 ?_
    refine sm_aload_n dX10_init_4 rfl ?_
    refine sm_sipush dX10_init_5 rfl ?_
    refine s1 _ ?_
    refine sm_aload_n dX10_init_13 rfl ?_
    refine sm_sipush dX10_init_14 rfl ?_
    refine s2 _ ?_
    refine sm_aload_n dX10_init_22 rfl ?_
    refine sm_sipush dX10_init_23 rfl ?_
    refine s3 _ ?_
    refine sm_aload_n dX10_init_31 rfl ?_
    refine sm_sipush dX10_init_32 rfl ?_
    refine s4 _ ?_
    refine sm_aload_n dX10_init_40 rfl ?_
    refine sm_bipush dX10_init_41 rfl ?_
    refine s5 _ ?_
    refine sm_aload_n dX10_init_48 rfl ?_
    refine sm_sipush dX10_init_49 rfl ?_
    refine s6 _ ?_
    refine sm_aload_n dX10_init_57 rfl ?_
    refine sm_sipush dX10_init_58 rfl ?_
    refine s7 _ ?_
    refine sm_aload_n dX10_init_66 rfl ?_
    refine sm_bipush dX10_init_67 rfl ?_
    refine s8 _ ?_
    refine sm_aload_n dX10_init_74 rfl ?_
    refine sm_bipush dX10_init_75 rfl ?_
    refine s9 _ ?_
    refine sm_aload_n dX10_init_82 rfl ?_
    refine sm_getR lf_RX10_7 fR_7_0 k9 (by omega) r1 dX10_init_83 ?_
    refine sm_iconst dX10_init_86 ?_
    refine sm_bipush dX10_init_87 rfl ?_
    refine sm_iastore t1 (by omega) (by omega) (by rw [w2]; omega) (by rw [w2]; omega) dX10_init_89 ?_
    refine sm_aload_n dX10_init_90 rfl ?_
    refine sm_getR lf_RX10_7 fR_7_0 k9 (by omega) r1 dX10_init_91 ?_
    refine sm_iconst dX10_init_94 ?_
    refine sm_bipush dX10_init_95 rfl ?_
    refine sm_iastore t1 (by omega) (by omega) (by rw [w3]; omega) (by rw [w3]; omega) dX10_init_97 ?_
    refine sm_aload_n dX10_init_98 rfl ?_
    refine sm_getR lf_RX10_7 fR_7_0 k9 (by omega) r1 dX10_init_99 ?_
    refine sm_iconst dX10_init_102 ?_
    refine sm_bipush dX10_init_103 rfl ?_
    refine sm_iastore t1 (by omega) (by omega) (by rw [w4]; omega) (by rw [w4]; omega) dX10_init_105 ?_
    refine sm_aload_n dX10_init_106 rfl ?_
    rw [w2, w3, w4]
    refine sc_callV0 (avs := []) (st := []) lk_RX10_37 rfl vf_X10_laysWays (by rw [hB] at hC; exact hC) ⟨Nat.le_of_ble_eq_true rfl, Nat.le_of_ble_eq_true rfl⟩ ⟨rfl, Nat.le_of_ble_eq_true rfl⟩ k9 (by omega) rfl dX10_init_107 ?_
    rw [hB]
    exact sm_return rfl dX10_init_110
  · rw [show sm_gl a 10 w mB k = mB k from funext fun j => gl_o (by omega), b0 k (by omega)]
    funext i
    exact lowm k i (by omega)
  · rw [gl_i (Nat.le_refl _) (by omega), Nat.sub_self, fW 0 (by omega) (by omega)]
    show mB (a + 0) j = 0
    rw [Nat.add_zero, b0 a (by omega), lowm a j (by omega)]
    exact hm j
  · rw [gl_i (by omega) (by omega), show a + 1 - a = 1 by omega, fW 1 (by omega) (by omega)]
    exact b1 j
  · have e : ∀ c, c < 10 → sm_lo a (sm_gl a 10 w mB) c = w c := fun c hc => lo_gl w mB hc
    unfold wOK
    rw [e 1 (by omega), e 6 (by omega), e 7 (by omega)]
    exact oW
