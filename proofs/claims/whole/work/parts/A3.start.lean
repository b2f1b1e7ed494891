/-! ===== the start of the law: its desk and its model are made ===== -/
theorem arrV_ext {c : ClassId} {n : Nat} {f g : Nat → Value} (h : ∀ j, j < n → f j = g j) : arrV c n f = arrV c n g := by
  unfold arrV
  have : (fun j : Fin n => f j.val) = fun j : Fin n => g j.val := funext fun j => h j.val j.isLt
  rw [this]
theorem sM_q {X : XT} {pc : Nat} {lv : List (Option AV)} {st : List AV} {E : ET} {mi : MI} {r : RT} {a n : Nat} {mr' : MR} (hsh : E.sh a = (25, n)) (hm : ∀ b, ¬ b = a → mr' b = E.mr b) (ha : ∀ j, j < n → mr' a j = E.mr a j) (kk : sM X pc lv st (E.1, E.2.1, E.2.2.1, mr') mi r) : sM X pc lv st E mi r := by
  refine ⟨kk.1, fun p l e R s m args below meth c H locs cells slots ls Q h1 h2 h3' h4 h5 h6 h7 h8 => kk.2 p l e R s m args below meth c H locs cells slots ls Q h1 h2 ?_ h4 h5 h6 h7 h8⟩
  obtain ⟨q1, q2, q3, q4⟩ := h3'
  refine ⟨q1, q2, fun k k3 hk => ?_, fun k hk => q4 k hk⟩
  have t := q3 k k3 hk
  by_cases e : k = a
  · subst e
    rw [sm_cell_q hsh (by omega)] at t
    rw [sm_cell_q (E := (E.1, E.2.1, E.2.2.1, mr')) hsh (by omega)]
    have t' : H[sm_adr X.G k]? = some (vp_cell _ _) := t
    show H[sm_adr X.G k]? = some (vp_cell _ _)
    rw [t', vp_cell_q, vp_cell_q]
    congr 1
    refine arrV_ext (fun j hj => ?_)
    show va_rf ((E.mr k j).map (sm_adr X.G)) = va_rf ((mr' k j).map (sm_adr X.G))
    rw [ha j hj]
  · have ec : sm_cell X.G (E.1, E.2.1, E.2.2.1, mr') mi k = sm_cell X.G E mi k := sm_cell_congr (E := E) (E' := (E.1, E.2.1, E.2.2.1, mr')) (mi := mi) (mi' := mi) rfl (hm k e) rfl
    rw [ec]
    exact t
theorem law_start {G : GT} {E0 : ET} {mi0 : MI} {L : Nat} (hz : E0.sz = 3) (hu : E0.us = 0) (hs0 : E0.sh 0 = (20, L)) (hs1 : E0.sh 1 = (20, 3)) (hs2 : E0.sh 2 = (21, 3)) (h1 : ∀ j, j < 3 → mi0 1 j = sl_cost j) (h2 : ∀ j, j < 3 → mi0 2 j = sl_mark j) (hx : ∀ j, i32 (mi0 0 j)) (hL : L ≤ 2048) :
    ∃ E' mi', E'.sz = 445 ∧ E'.us = 13007 ∧ sM (xLaw G) 0 [some (.inr 0), none, none, none] [] E0 mi0 (some (.inl 1), E', mi') := by
  have alu : (sm_al E0 6 0 7).us = E0.us + 7 := rfl
  have alz : (sm_al E0 6 0 7).sz = E0.sz + 1 := rfl
  obtain ⟨E1, m1, hc1, n1, u1, f1, gd1, hr1, d0, di, dt⟩ := bDesk_init (G := G) (E := sm_al E0 6 0 7) (mi := sm_z mi0 E0.sz) (a := 3) (by omega) (by omega) (by
    show ((if 3 = E0.1 then (6, 0) else E0.2.2.1 3) : Nat × Nat).1 = 6
    rw [if_pos hz.symm]) (fun j => by unfold sm_z; rw [if_pos hz.symm])
  have alu2 : (sm_al E1 7 0 15).us = E1.us + 15 := rfl
  have alz2 : (sm_al E1 7 0 15).sz = E1.sz + 1 := rfl
  obtain ⟨E2, m2, hc2, n2, u2, f2, gl2, l0, l1, lw⟩ := bModel_init (G := G) (E := sm_al E1 7 0 15) (mi := sm_z m1 E1.sz) (a := 435) (by omega) (by omega) (by
    show ((if 435 = E1.1 then (7, 0) else E1.2.2.1 435) : Nat × Nat).1 = 7
    rw [if_pos n1.symm]) (fun j => by unfold sm_z; rw [if_pos n1.symm])
  -- what stood below is kept
  have S2 : ∀ k, k < 435 → E2.sh k = E1.sh k := fun k hk => by rw [(f2 k hk).1, al_sh (by omega)]
  have M2 : ∀ k, k < 435 → E2.mr k = E1.mr k := fun k hk => by
    rw [(f2 k hk).2.1]
    show (if k = E1.1 then (fun _ => none) else E1.2.2.2 k) = _
    rw [if_neg (by have : E1.1 = 435 := n1; omega)]
  have I2 : ∀ k, k < 435 → m2 k = m1 k := fun k hk => by
    rw [(f2 k hk).2.2]
    unfold sm_z
    rw [if_neg (by omega)]
  have S1 : ∀ k, k < 3 → E1.sh k = E0.sh k := fun k hk => by rw [(f1 k hk).1, al_sh (by omega)]
  have I1 : ∀ k, k < 3 → m1 k = mi0 k := fun k hk => by
    rw [(f1 k hk).2.2]
    unfold sm_z
    rw [if_neg (by omega)]
  have gd2 : gD E2 3 := by
    obtain ⟨g1, g2, g3, ⟨g4, g5⟩, ⟨g6, g7⟩, ⟨g8, g9⟩, ⟨g10, g10'⟩, ⟨g11, g12⟩, g13⟩ := gd1
    have fr : ∀ k, k < 435 → E2.sh k = E1.sh k ∧ E2.mr k = E1.mr k := fun k hk => ⟨S2 k hk, M2 k hk⟩
    exact ⟨g1, by omega, by rw [S2 3 (by omega)]; exact g3, ⟨gS_fr g4 (by omega) (fun k _ _ => fr k (by omega)), by rw [M2 3 (by omega)]; exact g5⟩, ⟨gS_fr g6 (by omega) (fun k _ _ => fr k (by omega)), by rw [M2 3 (by omega)]; exact g7⟩, ⟨gS_fr g8 (by omega) (fun k _ _ => fr k (by omega)), by rw [M2 3 (by omega)]; exact g9⟩, ⟨by rw [S2 _ (by omega)]; exact g10, by rw [M2 3 (by omega)]; exact g10'⟩, ⟨gT_fr g11 (by omega) (fun k _ _ => fr k (by omega)), by rw [M2 3 (by omega)]; exact g12⟩, fun k hk => gS_fr (g13 k hk) (by omega) (fun j _ _ => fr j (by omega))⟩
  have gk2 : gK E2 m2 := ⟨by omega, ⟨by rw [S2 1 (by omega), S1 1 (by omega)]; exact hs1, fun j hj => by rw [I2 1 (by omega), I1 1 (by omega)]; exact h1 j hj⟩, ⟨by rw [S2 2 (by omega), S1 2 (by omega)]; exact hs2, fun j hj => by rw [I2 2 (by omega), I1 2 (by omega)]; exact h2 j hj⟩⟩
  have hD : DM (sm_lo 3 m2) (fun i => i) (sm_lo 435 m2) := by
    refine DM_new (fun j => ?_) (iS_e di (fun k hk => ?_)) (fun j => ?_) (fun _ => rfl) (fun j => l0 j) (fun j => l1 j) lw
    · show m2 (3 + 0) j = 0
      rw [I2 _ (by omega)]
      exact d0 j
    · show m2 (3 + (1 + k)) = m1 (3 + 1 + k)
      rw [I2 _ (by omega), show 3 + (1 + k) = 3 + 1 + k by omega]
    · show m2 (3 + 185) j = 0
      rw [I2 _ (by omega)]
      exact dt j
  obtain ⟨ro', mi', hloop⟩ := law_loop (G := G) (E2 := E2) (mB := m2) (L := L) gd2 gl2 gk2 (by omega) (by rw [S2 0 (by omega), S1 0 (by omega)]; exact hs0) hL (fun j => by rw [I2 0 (by omega), I1 0 (by omega)]; exact hx j) L 0 (sm_lo 3 m2) (sm_lo 435 m2) (fun i => i) (by omega) (by omega) hD
  have em : memL (sm_lo 3 m2) (sm_lo 435 m2) m2 = m2 := by
    show sm_gl 3 432 (sm_lo 3 m2) (sm_gl 435 10 (sm_lo 435 m2) m2) = m2
    rw [gl_lo 435 10 m2, gl_lo 3 432 m2]
  rw [em] at hloop
  refine ⟨eD E2 3 ro', mi', n2, by show E2.us = 13007; omega, ?_⟩
  refine sm_new (kd := 6) (by decide) ln_RL_7 dL_law_0 ?_
  refine sm_dup dL_law_3 ?_
  rw [hz]
  refine sm_callI (avs := []) (st := [.inr 3]) lk_RL_9 rfl nf_X9_init (by rw [hz] at hc1; exact hc1) ⟨Nat.le_of_ble_eq_true rfl, Nat.le_of_ble_eq_true rfl⟩ ⟨rfl, Nat.le_of_ble_eq_true rfl⟩ rfl dL_law_4 ?_
  refine sm_astore_n dL_law_7 (Nat.le_of_ble_eq_true rfl) ?_
  refine sm_new (kd := 7) (by decide) ln_RL_10 dL_law_8 ?_
  refine sm_dup dL_law_11 ?_
  show sM _ _ _ [.inr E1.sz, .inr E1.sz] (sm_al E1 7 0 15) (sm_z m1 E1.sz) _
  have n1' : E1.sz = 435 := by omega
  rw [n1']
  refine sm_callI (avs := []) (st := [.inr 435]) lk_RL_12 rfl nf_X10_init (by rw [n1'] at hc2; exact hc2) ⟨Nat.le_of_ble_eq_true rfl, Nat.le_of_ble_eq_true rfl⟩ ⟨rfl, Nat.le_of_ble_eq_true rfl⟩ rfl dL_law_12 ?_
  refine sm_astore_n dL_law_15 (Nat.le_of_ble_eq_true rfl) ?_
  refine sm_iconst dL_law_16 ?_
  refine sm_istore_n dL_law_17 (Nat.le_of_ble_eq_true rfl) ?_
  show sM (xLaw G) 18 (lvL 0) [] E2 m2 _
  refine sM_q (a := 187) (n := 4) gd2.2.2.2.2.2.2.1.1 (fun b hb => ?_) (fun j hj => ?_) hloop
  · funext j
    show (if b = 3 + 184 then _ else E2.2.2.2 b j) = _
    rw [if_neg (by omega)]
  · show (if 187 = 3 + 184 then some (3 + (188 + 61 * j)) else E2.2.2.2 187 j) = E2.mr 187 j
    rw [if_pos rfl, M2 187 (by omega)]
    exact (hr1 j hj).symm
