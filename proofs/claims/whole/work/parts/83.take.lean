/-! ===== take and comes ===== -/
abbrev tN (q : Nat → Int) (k a tr bd mi : Int) : Nat → Int := nu (nu (nu (nu (nu (nu (nu (nu (nu (nu (nu (nu q 0 k) 1 a) 2 tr) 3 bd) 4 mi) 5 0) 6 (-5)) 7 0) 8 (-5)) 9 (-5)) 10 0) 11 (-5)
abbrev uN (r : Nat → Int) (k a tr bd mi : Int) : Nat → Int := nu (nu (nu (nu (nu (nu (nu (nu (nu (nu (nu r 0 k) 1 a) 2 tr) 3 bd) 4 mi) 5 0) 6 (-5)) 7 (-5)) 8 (-5)) 9 (-5)) 10 0
theorem k_new {nm np mi k a tr bd : Int} {r q : Nat → Int} (h0 : 0 ≤ k ∧ k < nm) (h1 : 0 ≤ a ∧ a < 12) (h2 : 1 ≤ tr ∧ tr ≤ 12) (h3 : 10 ≤ bd ∧ bd ≤ 290) (h4 : 0 ≤ mi) :
    (cI nm np mi (tN q k a tr bd mi) ∧ cR (uN r k a tr bd mi) (tN q k a tr bd mi)) ∧ cI nm np mi (nu (tN q k a tr bd mi) 10 1) ∧ cR (nu (uN r k a tr bd mi) 10 1) (nu (tN q k a tr bd mi) 10 1) := by
  unfold cI cS cR tN uN
  simp only [nu]
  simp
  omega
theorem tN_v (q : Nat → Int) (k a tr bd mi : Int) : tN q k a tr bd mi 0 = k ∧ tN q k a tr bd mi 5 = 0 ∧ tN q k a tr bd mi 6 = -5 ∧ tN q k a tr bd mi 8 = -5 ∧ tN q k a tr bd mi 10 = 0 := by
  simp [nu]
theorem tN_w (q : Nat → Int) (k a tr bd mi : Int) : nu (tN q k a tr bd mi) 10 1 0 = k ∧ nu (tN q k a tr bd mi) 10 1 5 = 0 ∧ nu (tN q k a tr bd mi) 10 1 6 = -5 ∧ nu (tN q k a tr bd mi) 10 1 8 = -5 ∧ nu (tN q k a tr bd mi) 10 1 10 = 1 := by
  simp [nu]
theorem comes_run {m : MI} {c k t : Nat} {a tr L : Int} (hc : m 1 9 = (c : Int)) (c40 : c < 40) (k20 : k < 20) (ht : vM (m 1) k 0 = (t : Int)) (t3 : t < 3) (eL : sl_it (fun (t : Int × Int) => fModel_comes_l16 (k : Int) a tr (m 1 9) t.1 t.2 m) sl_fu (-5, 0) = some L) :
    ∃ m53, fModel_comes (k : Int) a tr m = (if sm_w L = -5 then some m53 else Option.bind (fModel_ofCall L 9 m53) (fun p55 => (if 120 < sm_w ((m53 1 0) - p55) then some m53 else Option.bind (fModel_ofCall L 8 m53) (fun p58 => Option.bind (fModel_laysCall (c : Int) 10 1 m53) (fun p61 => Option.bind (fModel_ofPatrol p58 9 p61) (fun p64 => Option.bind (fModel_laysPatrol p58 9 (p64 + 1) p61) (fun p67 => Option.bind (fModel_addsMember (k : Int) 2 1 p67) (fun p70 => Option.bind (some (sm_up p70 1 12 ((p70 1 12) + 1))) (fun s73 => some s73))))))))) ∧
      (∀ d, ¬ d = 1 → m53 d = m d) ∧ (∀ i, i < 13 → ¬ i = 9 → m53 1 i = m 1 i) ∧ m53 1 9 = (c : Int) + 1 ∧ (∀ i, 16 ≤ i → i < 106 → m53 1 i = m 1 i) ∧ (∀ p, p < 6 → vP (m53 1) p = vP (m 1) p) ∧
      (∀ c', c' < 40 → vC (m53 1) c' = if c' = c then tN (vC (m 1) c) (k : Int) a tr (m 1 (2 + t) + 10 * m 1 1) (m 1 0) else vC (m 1) c') ∧ (∀ j, j < 20 → vM (m53 1) j = vM (m 1) j) ∧ ∀ g, g < 5 → vG (m53 1) g = vG (m 1) g := by
  have V0 := VW_0 m (p := 0) (by omega) c40
  have V3 := VW_C (VW_C (VW_C V0 0 (k : Int) (by omega)) 1 a (by omega)) 2 tr (by omega)
  have V4 := VW_C V3 3 (m 1 (2 + t) + 10 * m 1 1) (by omega)
  have V9 := VW_C (VW_C (VW_C (VW_C (VW_C (VW_C V4 4 (m 1 0) (by omega)) 5 0 (by omega)) 6 (-5) (by omega)) 7 0 (by omega)) 8 (-5) (by omega)) 9 (-5) (by omega)
  have VC := VW_C (VW_C V9 10 0 (by omega)) 11 (-5) (by omega)
  refine ⟨mS (mC (mC (mC (mC (mC (mC (mC (mC (mC (mC (mC (mC m c 0 (k : Int)) c 1 a) c 2 tr) c 3 (m 1 (2 + t) + 10 * m 1 1)) c 4 (m 1 0)) c 5 0) c 6 (-5)) c 7 0) c 8 (-5)) c 9 (-5)) c 10 0) c 11 (-5)) 9 ((c : Int) + 1), ?_, fun d e => ?_, fun i e e' => ?_, ?_, fun i e e' => ?_, fun p e => ?_, fun c' e => ?_, fun j e => ?_, fun g e => ?_⟩
  · unfold fModel_comes
    rw [eL, Option.bind_some, hc, laysCall_0 c40, Option.bind_some, laysCall_1 c40, Option.bind_some, laysCall_2 c40, Option.bind_some, ofMember_0 k20, Option.bind_some, V3.2.2.2.2.2.2.2.2.2.1 k k20]
    rw [show (fun j => vM (m 1) j) k 0 = (t : Int) from ht, tw (x := 2 + (t : Int)) (by omega) (by omega), if_pos (show (0 : Int) ≤ 2 + (t : Int) ∧ 2 + (t : Int) < 810 by omega), show (2 + (t : Int)).toNat = 2 + t by omega, VW_n V3 (by omega : 2 + t < 10), VW_n V3 (by omega : 1 < 10), laysCall_3 c40, Option.bind_some, VW_n V4 (by omega : 0 < 10), laysCall_4 c40, Option.bind_some, laysCall_5 c40, Option.bind_some, laysCall_6 c40, Option.bind_some, laysCall_7 c40, Option.bind_some, laysCall_8 c40, Option.bind_some, laysCall_9 c40, Option.bind_some, laysCall_10 c40, Option.bind_some, laysCall_11 c40, Option.bind_some, VW_n VC (by omega : 9 < 10), hc]
    rfl
  · rw [mS_D e]; exact VC.2.1 d e
  · rw [n_mS e']
    by_cases z : i < 10
    · exact VC.2.2.1 i z
    · obtain rfl | rfl | rfl : i = 10 ∨ i = 11 ∨ i = 12 := by omega
      · exact VC.2.2.2.2.2.2.2.1
      · exact VC.2.2.2.2.2.2.2.2.1
      · exact VC.2.2.2.1
  · exact s_mS _ _ _
  · rw [n_mS (by omega)]; exact VC.2.2.2.2.1 i e e'
  · rw [vP_mS (by omega), VC.2.2.2.2.2.1 p e]
    by_cases z : p = 0
    · rw [if_pos z, z]
    · rw [if_neg z]
  · rw [vC_mS (by omega), VC.2.2.2.2.2.2.1 c' e]
  · rw [vM_mS (by omega)]; exact VC.2.2.2.2.2.2.2.2.2.1 j e
  · rw [vG_mS (by omega)]; exact VC.2.2.2.2.2.2.2.2.2.2 g e
theorem begin_c (D : Nat) (k a tr bd mi : Int) (s : MI) : ∃ P, fBreakdown_begin k a tr bd mi (sm_lo D s) = some P ∧ P 0 = uN (s D) k a tr bd mi := by
  unfold fBreakdown_begin
  rw [Option.bind_some, Option.bind_some, Option.bind_some, Option.bind_some, Option.bind_some, Option.bind_some, Option.bind_some, Option.bind_some, Option.bind_some, Option.bind_some, Option.bind_some]
  refine ⟨_, rfl, ?_⟩
  rw [up_nu, up_nu, up_nu, up_nu, up_nu, up_nu, up_nu, up_nu, up_nu, up_nu, up_nu]
  rfl
theorem take_run {s : MI} {N : Nat → Int} {c k t : Nat} {a tr B : Int} (h : RS s N) (hc : N 9 = (c : Int)) (c40 : c < 40) (hk : (k : Int) < N 6) (ht : vM N k 0 = (t : Int)) (t3 : t < 3) (eB : fState_repairedBefore (k : Int) s = some B) (hB : -5 ≤ B ∧ B < 40) :
    ∃ s15, fState_take (k : Int) a tr s = (if ix B (c : Int) = 0 then fState_take_j119 s15 else Option.bind (some (sm_up s15 (21 + c) 10 1)) (fun s22 => if 0 ≤ sm_w B ∧ sm_w B < 40 then Option.bind (fState_isPatrol (s22 (21 + (sm_w B).toNat) 6) s22) (fun p26 => (if sm_w p26 = 0 then fState_take_j119 s22 else if 0 ≤ sm_w (s22 (21 + (sm_w B).toNat) 6) ∧ sm_w (s22 (21 + (sm_w B).toNat) 6) < 6 then Option.bind (some (sm_up s22 (10 + (sm_w (s22 (21 + (sm_w B).toNat) 6)).toNat) 11 ((s22 (10 + (sm_w (s22 (21 + (sm_w B).toNat) 6)).toNat) 11) + 1))) (fun s31 => fState_take_j119 s31) else none)) else none)) ∧
      s15 (21 + c) = uN (s (21 + c)) (k : Int) a tr (N (2 + t) + 10 * N 1) (N 0) ∧ ∀ d, ¬ d = 21 + c → s15 d = s d := by
  obtain ⟨a1, a2, a3, a4, a5, a6, b1, b2, b3, b4, b5, b6, b7, b8, b9⟩ := h
  obtain ⟨S0, S1, S2, S6, S7, S8, S9⟩ := b1
  obtain ⟨P, eP, hP⟩ := begin_c (21 + c) (k : Int) a tr (N (2 + t) + 10 * N 1) (N 0) s
  have n8 : s 0 8 = (c : Int) := a1.2.2.2.1.trans hc
  have wc : sm_w (c : Int) = c := tw (by omega) (by omega)
  have s4 : s 4 k = (t : Int) := (a3 k hk).trans ht
  have s8 : s 8 t = N (2 + t) := by
    obtain rfl | rfl | rfl : t = 0 ∨ t = 1 ∨ t = 2 := by omega
    · exact a1.2.2.2.2.2.2.1.1
    · exact a1.2.2.2.2.2.2.1.2.1
    · exact a1.2.2.2.2.2.2.1.2.2
  have eT : fState_tierOf (k : Int) s = some (t : Int) := by
    unfold fState_tierOf
    rw [isMember_c (by unfold i32; omega) a1.1 S6, Option.bind_some, ix_w, if_neg (ix_y ⟨by omega, hk⟩), tw (x := (k : Int)) (by omega) (by omega), if_pos (show (0 : Int) ≤ (k : Int) ∧ (k : Int) < 20 by omega), show ((k : Int)).toNat = k by omega, s4]
  have eQ : fState_promiseOf (k : Int) s = some (N (2 + t)) := by
    unfold fState_promiseOf
    rw [eT, Option.bind_some, isTier_c (by unfold i32; omega), Option.bind_some, ix_w, if_neg (ix_y (by omega)), tw (x := (t : Int)) (by omega) (by omega), if_pos (show (0 : Int) ≤ (t : Int) ∧ (t : Int) < 3 by omega), show ((t : Int)).toNat = t by omega, s8]
  refine ⟨sm_gl (21 + c) 1 P s, ?_, by rw [gl_self, hP], fun d hd => gl_oth _ _ hd⟩
  have e08 : sm_gl (21 + c) 1 P s 0 8 = (c : Int) := by rw [gl_oth _ _ (by omega)]; exact n8
  unfold fState_take
  rw [isMember_c (by unfold i32; omega) a1.1 S6, Option.bind_some, ix_w, if_neg (ix_y ⟨by omega, hk⟩), n8, wc, if_pos (show (c : Int) < 40 by omega), eB, Option.bind_some, eQ, Option.bind_some, if_pos (show (0 : Int) ≤ (c : Int) ∧ (c : Int) < 40 by omega), show ((c : Int)).toNat = c by omega, a1.2.2.2.2.1, a1.2.2.2.2.2.1, eP, Option.bind_some, Option.bind_some, isCall_c (by unfold i32; omega) e08 (by omega), Option.bind_some, ix_w]
theorem wk_up2 {s s' m m' : MI} (h : wk s m) (s2 : s' 2 = s 2) (s3 : s' 3 = s 3) (e6 : m' 6 = m 6) (e7 : m' 7 = m 7) (n5 : m' 1 5 = m 1 5) (nr : ∀ i, 16 ≤ i → i < 106 → m' 1 i = m 1 i) : wk s' m' := by
  obtain ⟨h1, h2, h3⟩ := h
  have hr : rd (m' 1) = rd (m 1) := rd_nu n5 h3.2.1 nr
  refine ⟨?_, ?_, rOK_nu n5 nr h3⟩
  · unfold mR
    rw [s2, s3, hr]
    exact h1
  · unfold wOK
    rw [hr, e6, e7]
    exact h2
theorem comes_eq {s m : MI} {x y z : Int} (h : RS s (m 1)) (hw : wk s m) (hx : 0 ≤ x ∧ x < m 1 6) (hy : 0 ≤ y ∧ y < 12) (hz : 1 ≤ z ∧ z ≤ 12) (h9 : m 1 9 < 40) :
    ∃ s' m', fState_take x y z s = some (m 1 9, s') ∧ fModel_comes x y z m = some m' ∧ RS s' (m' 1) ∧ wk s' m' ∧ m' 1 9 = m 1 9 + 1 ∧ ∀ d, ¬ d = 1 → m' d = m d := by
  have H := h
  obtain ⟨a1, a2, a3, a4, a5, a6, b1, b2, b3, b4, b5, b6, b7, b8, b9⟩ := H
  obtain ⟨S0, S1, S2, S6, S7, S8, S9⟩ := b1
  obtain ⟨k, rfl⟩ : ∃ k : Nat, x = (k : Int) := ⟨x.toNat, by omega⟩
  obtain ⟨c, hc⟩ : ∃ c : Nat, m 1 9 = (c : Int) := ⟨(m 1 9).toNat, by omega⟩
  have c40 : c < 40 := by omega
  have k20 : k < 20 := by omega
  have hT := b3 k hx.2
  obtain ⟨t, ht⟩ : ∃ t : Nat, vM (m 1) k 0 = (t : Int) := ⟨(vM (m 1) k 0).toNat, by omega⟩
  have t3 : t < 3 := by omega
  have hbd : 10 ≤ m 1 (2 + t) + 10 * m 1 1 ∧ m 1 (2 + t) + 10 * m 1 1 ≤ 290 := by
    obtain rfl | rfl | rfl : t = 0 ∨ t = 1 ∨ t = 2 := by omega
    · show 10 ≤ m 1 2 + 10 * m 1 1 ∧ m 1 2 + 10 * m 1 1 ≤ 290
      omega
    · show 10 ≤ m 1 3 + 10 * m 1 1 ∧ m 1 3 + 10 * m 1 1 ≤ 290
      omega
    · show 10 ≤ m 1 4 + 10 * m 1 1 ∧ m 1 4 + 10 * m 1 1 ≤ 290
      omega
  obtain ⟨L, eL, hL⟩ := last_eq h (z := (k : Int)) (y := y) (w := z) (by unfold i32; omega)
  obtain ⟨m53, eM, m_d, m_n, m_9, m_r, m_P, m_C, m_M, m_G⟩ := comes_run hc c40 k20 ht t3 eL
  obtain ⟨⟨k1, k2⟩, k3, k4⟩ := k_new (nm := m 1 6) (np := m 1 7) (r := s (21 + c)) (q := vC (m 1) c) hx hy hz hbd S0.1
  -- no callback
  have NO : ∀ B, fState_repairedBefore (k : Int) s = some B → B = -5 → fModel_comes (k : Int) y z m = some m53 → ∃ s' m', fState_take (k : Int) y z s = some (m 1 9, s') ∧ fModel_comes (k : Int) y z m = some m' ∧ RS s' (m' 1) ∧ wk s' m' ∧ m' 1 9 = m 1 9 + 1 ∧ ∀ d, ¬ d = 1 → m' d = m d := fun B eB hB eM' => by
    obtain ⟨s15, eC, c15, d15⟩ := take_run (a := y) (tr := z) h hc c40 hx.2 ht t3 eB (by omega)
    rw [if_pos (ix_n (by omega))] at eC
    have e08 : s15 0 8 = (c : Int) := by rw [d15 0 (by omega)]; exact a1.2.2.2.1.trans hc
    have eJ : fState_take_j119 s15 = some (m 1 9, sm_up s15 0 8 ((c : Int) + 1)) := by
      unfold fState_take_j119
      rw [e08, Option.bind_some, up_s, hc]
      congr 2
      omega
    refine ⟨_, m53, eC.trans eJ, eM', ?_, ?_, by rw [m_9, hc], m_d⟩
    · obtain ⟨v0, v5, v6, v8, v10⟩ := tN_v (vC (m 1) c) (k : Int) y z (m 1 (2 + t) + 10 * m 1 1) (m 1 0)
      refine come_fin (c := c) (f := 0) (k := k) (cb := 0) (t := tN (vC (m 1) c) (k : Int) y z (m 1 (2 + t) + 10 * m 1 1) (m 1 0)) (u := uN (s (21 + c)) (k : Int) y z (m 1 (2 + t) + 10 * m 1 1) (m 1 0)) h hc.symm c40 (Or.inl rfl) (fun e => absurd e (by omega)) hx.2 (fun i hi hi' => m_n i (by omega) hi') (by rw [m_9, hc]) (by rw [m_n 12 (by omega) (by omega), Int.add_zero]) m_r (fun p hp => by rw [m_P p hp, if_neg (by omega)]) m_C (fun j hj => by rw [m_M j hj, if_neg (by omega)]) m_G v0 k1 v5 v6 v8 v10
        (fun p hp => by rw [up_D (by omega), d15 _ (by omega), if_neg (by omega)]) (fun c' hc' => ?_) k2 (fun j hj => by rw [up_j hj, d15 0 (by omega)]) (by rw [up_s, hc]) (fun a ha => by rw [up_D (by omega), d15 a (by omega)])
      rw [up_D (by omega)]
      by_cases q : c' = c
      · rw [q, if_pos rfl, c15]
      · rw [if_neg q, d15 _ (by omega)]
    · exact wk_up2 hw (by rw [up_D (by omega), d15 2 (by omega)]) (by rw [up_D (by omega), d15 3 (by omega)]) (m_d 6 (by omega)) (m_d 7 (by omega)) (m_n 5 (by omega) (by omega)) m_r
  rcases hL with ⟨rfl, eB⟩ | ⟨j, rfl, j9, j5, eB⟩
  · rw [tw (x := -5) (by omega) (by omega), if_pos rfl] at eM
    exact NO _ eB rfl eM
  · have gj := (b6 j j9).2.2.2.2.2.2
    have j40 : j < 40 := by omega
    have Cj : vC (m53 1) j = vC (m 1) j := by rw [m_C j j40, if_neg (by omega)]
    have n9j : 0 ≤ vC (m 1) j 9 ∧ vC (m 1) j 9 ≤ 2880 := by
      unfold cS at gj
      omega
    have n8j : 0 ≤ vC (m 1) j 8 ∧ vC (m 1) j 8 < m 1 7 := by
      unfold cS at gj
      omega
    have wj : sm_w (j : Int) = j := tw (by omega) (by omega)
    rw [wj, if_neg (show ¬ (j : Int) = -5 by omega), ofCall_9 j40, Option.bind_some, Cj, m_n 0 (by omega) (by omega), tw (x := m 1 0 - vC (m 1) j 9) (by omega) (by omega)] at eM
    by_cases late' : 120 < m 1 0 - vC (m 1) j 9
    · rw [if_pos late'] at eM eB
      exact NO _ eB rfl eM
    · rw [if_neg late'] at eM eB
      obtain ⟨f, hf⟩ : ∃ f : Nat, vC (m 1) j 8 = (f : Int) := ⟨(vC (m 1) j 8).toNat, by omega⟩
      have f6 : f < 6 := by omega
      have wf : sm_w (f : Int) = f := tw (by omega) (by omega)
      rw [ofCall_8 j40, Option.bind_some, Cj, hf, laysCall_10 c40, Option.bind_some, ofPatrol_9 f6, Option.bind_some, laysPatrol_9 f6, Option.bind_some, addsMember_2 k20, Option.bind_some, Option.bind_some, vP_mC c40 f6 (by omega), m_P f f6, vM_mP f6 k20 (by omega), vM_mC c40 k20 (by omega), m_M k k20, n_mM (by omega), n_mP (by omega), n_mC (by omega), m_n 12 (by omega) (by omega)] at eM
      obtain ⟨s15, eC, c15, d15⟩ := take_run (a := y) (tr := z) h hc c40 hx.2 ht t3 eB (by omega)
      have r6 : s (21 + j) 6 = (f : Int) := ((a6 j j9).1.2.2.2.2.2.2).trans hf
      have e6 : sm_up s15 (21 + c) 10 1 (21 + j) 6 = (f : Int) := by rw [up_d (by omega), d15 _ (by omega)]; exact r6
      have e04 : sm_up s15 (21 + c) 10 1 0 4 = m 1 7 := by rw [up_d (by omega), d15 _ (by omega)]; exact a1.2.1
      have ef : ∀ w, sm_up s15 (21 + c) 10 1 (10 + f) w = s (10 + f) w := fun w => by rw [up_d (by omega), d15 _ (by omega)]
      rw [if_neg (ix_y (by omega)), Option.bind_some, wj, if_pos (show (0 : Int) ≤ (j : Int) ∧ (j : Int) < 40 by omega), show ((j : Int)).toNat = j by omega, e6, isPatrol_c (by unfold i32; omega) e04 S7, Option.bind_some, ix_w, if_neg (ix_y (by omega)), wf, if_pos (show (0 : Int) ≤ (f : Int) ∧ (f : Int) < 6 by omega), show ((f : Int)).toNat = f by omega, Option.bind_some, ef] at eC
      have e08 : sm_up (sm_up s15 (21 + c) 10 1) (10 + f) 11 (s (10 + f) 11 + 1) 0 8 = (c : Int) := by rw [up_d (by omega), up_d (by omega), d15 0 (by omega)]; exact a1.2.2.2.1.trans hc
      have eJ : fState_take_j119 (sm_up (sm_up s15 (21 + c) 10 1) (10 + f) 11 (s (10 + f) 11 + 1)) = some (m 1 9, sm_up (sm_up (sm_up s15 (21 + c) 10 1) (10 + f) 11 (s (10 + f) 11 + 1)) 0 8 ((c : Int) + 1)) := by
        unfold fState_take_j119
        rw [e08, Option.bind_some, up_s, hc]
        congr 2
        omega
      have eMM : fModel_comes (k : Int) y z m = some (mS (mM (mP (mC m53 c 10 1) f 9 (vP (m 1) f 9 + 1)) k 2 (vM (m 1) k 2 + 1)) 12 (m 1 12 + 1)) := eM
      have en : ∀ i, i < 106 → ¬ i = 12 → mS (mM (mP (mC m53 c 10 1) f 9 (vP (m 1) f 9 + 1)) k 2 (vM (m 1) k 2 + 1)) 12 (m 1 12 + 1) 1 i = m53 1 i := fun i hi hi' => by
        rw [n_mS hi', n_mM hi, n_mP hi, n_mC hi]
      have emd : ∀ d, ¬ d = 1 → mS (mM (mP (mC m53 c 10 1) f 9 (vP (m 1) f 9 + 1)) k 2 (vM (m 1) k 2 + 1)) 12 (m 1 12 + 1) d = m d := fun d hd => by
        rw [mS_D hd, mM_D hd, mP_D hd, mC_D hd, m_d d hd]
      refine ⟨_, _, eC.trans eJ, eMM, ?_, ?_, by rw [en 9 (by omega) (by omega), m_9, hc], emd⟩
      · obtain ⟨v0, v5, v6, v8, v10⟩ := tN_w (vC (m 1) c) (k : Int) y z (m 1 (2 + t) + 10 * m 1 1) (m 1 0)
        refine come_fin (c := c) (f := f) (k := k) (cb := 1) (t := nu (tN (vC (m 1) c) (k : Int) y z (m 1 (2 + t) + 10 * m 1 1) (m 1 0)) 10 1) (u := nu (uN (s (21 + c)) (k : Int) y z (m 1 (2 + t) + 10 * m 1 1) (m 1 0)) 10 1) h hc.symm c40 (Or.inr rfl) (fun _ => by omega) hx.2 (fun i hi hi' => (en i (by omega) (by omega)).trans (m_n i (by omega) hi')) (by rw [en 9 (by omega) (by omega), m_9, hc]) (s_mS _ _ _) (fun i hi hi' => (en i hi' (by omega)).trans (m_r i hi hi'))
          (fun p hp => ?_) (fun c' hc' => ?_) (fun i hi => ?_) (fun g hg => ?_) v0 k3 v5 v6 v8 v10 (fun p hp => ?_) (fun c' hc' => ?_) k4 (fun i hi => by rw [up_j hi, up_d (by omega), up_d (by omega), d15 0 (by omega)]) (by rw [up_s, hc]) (fun a ha => by rw [up_D (by omega), up_D (by omega), up_D (by omega), d15 a (by omega)])
        · rw [vP_mS (by omega), vP_mM k20 hp (by omega), vP_mP (by omega), vP_mC c40 f6 (by omega), vP_mC c40 hp (by omega), m_P f f6, m_P p hp]
          by_cases q : p = f
          · rw [if_pos q, if_pos ⟨rfl, q⟩, q]
          · rw [if_neg q, if_neg (fun e => q e.2)]
        · rw [vC_mS (by omega), vC_mM k20 hc' (by omega), vC_mP f6 hc' (by omega), vC_mC (by omega), m_C c c40, if_pos rfl, m_C c' hc']
          by_cases q : c' = c
          · rw [if_pos q, if_pos q]
          · rw [if_neg q, if_neg q, if_neg q]
        · rw [vM_mS (by omega), vM_mM (by omega), vM_mP f6 k20 (by omega), vM_mC c40 k20 (by omega), m_M k k20, vM_mP f6 hi (by omega), vM_mC c40 hi (by omega), m_M i hi]
          by_cases q : i = k
          · rw [if_pos q, if_pos ⟨rfl, q⟩, q]
          · rw [if_neg q, if_neg (fun e => q e.2)]
        · rw [vG_mS (by omega), vG_mM k20 hg (by omega), vG_mP f6 hg (by omega), vG_mC c40 hg (by omega), m_G g hg]
        · rw [up_D (by omega)]
          by_cases q : p = f
          · rw [if_pos ⟨rfl, q⟩, q, up_nu, up_D (by omega), d15 _ (by omega)]
          · rw [if_neg (fun e => q e.2), up_D (by omega), up_D (by omega), d15 _ (by omega)]
        · rw [up_D (by omega), up_D (by omega)]
          by_cases q : c' = c
          · rw [if_pos q, q, up_nu, c15]
          · rw [if_neg q, up_D (by omega), d15 _ (by omega)]
      · exact wk_up2 hw (by rw [up_D (by omega), up_D (by omega), up_D (by omega), d15 2 (by omega)]) (by rw [up_D (by omega), up_D (by omega), up_D (by omega), d15 3 (by omega)]) (emd 6 (by omega)) (emd 7 (by omega)) ((en 5 (by omega) (by omega)).trans (m_n 5 (by omega) (by omega))) (fun i hi hi' => (en i hi' (by omega)).trans (m_r i hi hi'))
theorem call_eq {d m : MI} {ro : Nat → Nat} {x y z : Int} (h : DM d ro m) (hx : i32 x) (hy : i32 y) (hz : i32 z) : ∃ v d' ro' m', fDesk_call x y z d ro = some (v, d', ro') ∧ fModel_call x y z m = some (v, m') ∧ DM d' ro' m' := by
  obtain ⟨v, v1, v2, v3, v4⟩ := against_eq h.1 hx hy hz
  unfold fDesk_call fModel_call
  rw [v1, v2, Option.bind_some, Option.bind_some, tw (x := v) (by omega) (by omega)]
  by_cases q : v = 0
  · rw [if_pos q, if_pos q]
    obtain ⟨x1, x2, x3, x4⟩ := v4 q
    obtain ⟨d1, ro1, m1, eD, eM, hD, kd, k0, km, km0⟩ := record_eq h
    have q1 : m1 1 = m 1 := km 1 (by omega) (by omega)
    rw [eD, eM, Option.bind_some, Option.bind_some]
    dsimp only
    obtain ⟨s', m', e1, e2, e3, e4, e5, e6⟩ := comes_eq hD.1 hD.2.1 (by rw [q1]; exact x1) x2 x3 (by rw [q1]; exact x4)
    rw [e1, e2, Option.bind_some, Option.bind_some, Option.bind_some]
    have el : ∀ i, i < 61 → sm_lo 1 (sm_gl 1 61 s' d1) i = s' i := fun i hi => lo_gl s' d1 hi
    refine ⟨m1 1 9, _, ro1, m', rfl, ?_, DM_now hD (fun a ha => ?_) (e6 2 (by omega)) (e6 3 (by omega)) (e6 5 (by omega)) (by rw [e6 0 (by omega)]) (by rw [e6 0 (by omega)]) (by rw [e6 0 (by omega)]) (RS_61 e3 el) (wk_61 e4 el)⟩
    · rw [e5]
      congr 2
      omega
    · funext j
      exact gl_o (by omega)
  · rw [if_neg q, if_neg q]
    exact ⟨_, _, _, _, rfl, rfl, h⟩
