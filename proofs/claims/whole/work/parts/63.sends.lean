/-! ===== a patrol is sent ===== -/
theorem k_send {c d : Int} {r q : Nat → Int} (h : pR r q) : pR (nu (nu (nu r 3 1) 5 c) 6 d) (nu (nu (nu q 3 1) 5 c) 6 d) := by
  unfold pR at h ⊢
  simp only [nu] at h ⊢
  simp
  omega
theorem k_sendI {nc ng c d l : Int} {q : Nat → Int} (h : pI nc ng q) (hc : 0 ≤ c ∧ c < nc) (hl : 1 ≤ l ∧ l ≤ 2000) : pI nc ng (nu (nu (nu (nu q 3 1) 5 c) 6 d) 6 l) := by
  unfold pI at h ⊢
  simp only [nu] at h ⊢
  simp at h ⊢
  omega
theorem k_sendI0 {nc ng c d : Int} {q : Nat → Int} (h : pI nc ng q) (hc : 0 ≤ c ∧ c < nc) (hl : 1 ≤ d ∧ d ≤ 2000) : pI nc ng (nu (nu (nu q 3 1) 5 c) 6 d) := by
  unfold pI at h ⊢
  simp only [nu] at h ⊢
  simp at h ⊢
  omega
theorem k_sent0 {nm np mi p : Int} {t : Nat → Int} (h : cI nm np mi t) (h5 : t 5 = 0) (hp : 0 ≤ p ∧ p < np) : cI nm np mi (nu (nu t 5 1) 6 p) := by
  unfold cI cS at h ⊢
  simp only [nu] at h ⊢
  simp at h ⊢
  omega
theorem k_sent3 {nm np mi p : Int} {t : Nat → Int} (h : cI nm np mi t) (h5 : t 5 = 3) (hp : 0 ≤ p ∧ p < np) : cI nm np mi (nu (nu t 5 3) 6 p) := by
  unfold cI cS at h ⊢
  simp only [nu] at h ⊢
  simp at h ⊢
  omega
theorem k_sent {nm np mi p x : Int} {t : Nat → Int} (h : cI nm np mi t) (hw : t 5 = 0 ∧ x = 1 ∨ t 5 = 3 ∧ x = 3) (hp : 0 ≤ p ∧ p < np) : cI nm np mi (nu (nu t 5 x) 6 p) := by
  rcases hw with ⟨a, rfl⟩ | ⟨a, rfl⟩
  · exact k_sent0 h a hp
  · exact k_sent3 h a hp
theorem k_sentR {p x : Int} {u t : Nat → Int} (h : cR u t) : cR (nu u 5 x) (nu (nu t 5 x) 6 p) := by
  unfold cR at h ⊢
  simp only [nu] at h ⊢
  simp
  omega
theorem leave_c (d : Nat) (x y : Int) (s : MI) : ∃ P, fPatrol_leaveFor x y (sm_lo d s) = some P ∧ P 0 = nu (nu (nu (s d) 3 1) 5 x) 6 y := by
  unfold fPatrol_leaveFor
  simp only [Option.bind_some]
  refine ⟨_, rfl, ?_⟩
  rw [up_nu, up_nu, up_nu]
  rfl
theorem CW_leave {s s' : MI} {p c : Nat} {r u : Nat → Int} {fg : Nat → Nat → Int} (h : CW s s' p c r u fg) (x y : Int) : ∃ P, fPatrol_leaveFor x y (sm_lo (10 + p) s') = some P ∧ CW s (sm_gl (10 + p) 1 P s') p c (nu (nu (nu r 3 1) 5 x) 6 y) u fg := by
  obtain ⟨⟨hp, hc⟩, h1, h2, h3, h4⟩ := h
  obtain ⟨P, e, e2⟩ := leave_c (10 + p) x y s'
  refine ⟨P, e, ⟨hp, hc⟩, by rw [gl_self, e2, h1], by rw [gl_oth _ _ (by omega), h2], fun g hg => by rw [gl_oth _ _ (by omega)]; exact h3 g hg, fun d a b c => by rw [gl_oth _ _ b]; exact h4 d a b c⟩
/-- one turn of the row -/
theorem send_eq {s m : MI} (h : RS s (m 1)) (hw : wk s m) {c k f : Nat} (hk : k < f) (hf : f ≤ 40) (hc : (c : Int) < m 1 9) (hwt : wt (m 1) c = 1) (e9 : s 9 k = (c : Int)) (e8 : m 8 k = (c : Int)) (e11 : m 0 11 = (f : Int)) :
    ∃ s' m', fWork_sendPatrols_l7 (f : Int) (k : Int) s = some (.inl ((k : Int) + 1, s')) ∧ fModel_sends_l6 (k : Int) m = some (.inl ((k : Int) + 1, m')) ∧ RS s' (m' 1) ∧ wk s' m' ∧ same m m' ∧ (∀ o, o < 40 → ¬ o = c → vC (m' 1) o = vC (m 1) o) ∧ s' 9 = s 9 ∧ dn (m' 1) = dn (m 1) := by
  have H := h
  have h56 : (vC (m 1) c 5 = 0 ∨ vC (m 1) c 5 = 3) ∧ (vC (m 1) c 5 = 3 → vC (m 1) c 6 = -5) := by
    unfold wt at hwt
    by_cases z : vC (m 1) c 5 = 0 ∨ vC (m 1) c 5 = 3 ∧ vC (m 1) c 6 = -5
    · omega
    · rw [if_neg z] at hwt
      omega
  obtain ⟨b, eC, eM, hb⟩ := near_eq h hw hc h56.1
  obtain ⟨a1, a2, a3, a4, a5, a6, b1, b2, b3, b4, b5, b6, b7, b8⟩ := h
  obtain ⟨S0, S1, S2, S6, S7, S8, S9⟩ := b1
  have c40 : c < 40 := by omega
  have n4 : s 0 4 = m 1 7 := a1.2.1
  have n8 : s 0 8 = m 1 9 := a1.2.2.2.1
  have wk' : sm_w (k : Int) = k := tw (by omega) (by omega)
  have wf : sm_w (f : Int) = f := tw (by omega) (by omega)
  have wc : sm_w (c : Int) = c := tw (by omega) (by omega)
  unfold fWork_sendPatrols_l7 fModel_sends_l6
  rw [wk', wf, if_neg (by omega), if_neg (by omega), if_pos (by omega), show ((k : Int)).toNat = k by omega, e9, isCall_1 (by rw [n8]; exact hc) (by rw [n8]; exact S9.2), Option.bind_some, w1, if_neg (by omega), wc, if_pos (by omega), show ((c : Int)).toNat = c by omega, eC, Option.bind_some]
  rw [e11, wf, if_neg (show ¬ (f : Int) ≤ (k : Int) by omega), if_pos (show 0 ≤ (k : Int) ∧ (k : Int) < 40 by omega), e8, eM]
  rcases hb with rfl | ⟨p, rfl, p7, p3, pd, pt⟩
  · have ip : fState_isPatrol (-5) s = some 0 := by
      unfold fState_isPatrol
      rw [wm5, if_pos (by omega)]
    rw [ip, Option.bind_some, w0, if_pos rfl, Option.bind_some, wm5, if_pos rfl]
    exact ⟨s, m, rfl, rfl, H, hw, ⟨fun _ _ => rfl, fun _ _ => rfl⟩, fun _ _ _ => rfl, rfl, rfl⟩
  · have hp : p < 6 := by omega
    have wp : sm_w (p : Int) = p := tw (by omega) (by omega)
    have ip : fState_isPatrol (p : Int) s = some 1 := by
      unfold fState_isPatrol
      rw [wp, n4, tw (x := m 1 7) (by omega) (by omega), if_neg (by omega), if_neg (by omega), if_neg (by omega)]
    have hpI := b4 p p7
    have hcI := b6 c hc
    have hR := a4 p p7
    have hC := a6 c hc
    obtain ⟨q0b, q1b, q2b, q4b, q5b, q6b⟩ := id hpI
    have q5 : vP (m 1) p 5 = -5 := by omega
    have C1 := hcI.2.1
    have t6 : vC (m 1) c 6 = -5 := by
      obtain ⟨_, _, _, _, _, _, x⟩ := hcI
      unfold cS at x
      omega
    have e4 : vP (m 1) p 4 = (((vP (m 1) p 4).toNat : Nat) : Int) := by omega
    have e1 : vC (m 1) c 1 = (((vC (m 1) c 1).toNat : Nat) : Int) := by omega
    have D := wk_D hw (x := (vP (m 1) p 4).toNat) (z := (vC (m 1) c 1).toNat) (by omega) (by omega)
    have r4 : s (10 + p) 4 = vP (m 1) p 4 := hR.1.2.2.2.2.1
    have u1 : s (21 + c) 1 = vC (m 1) c 1 := hC.1.2.1
    have u5 : s (21 + c) 5 = vC (m 1) c 5 := hC.1.2.2.2.2.2.1
    generalize hK : d2 m (vP (m 1) p 4).toNat (vC (m 1) c 1).toNat = K at D pd
    have eb : fMap_between (vP (m 1) p 4) (vC (m 1) c 1) (sm_lo 1 s) = some K := by
      have := between_eq (x := (vP (m 1) p 4).toNat) (y := (vC (m 1) c 1).toNat) (s := sm_lo 1 s) (by omega) (by omega)
      rw [← e4, ← e1] at this
      rw [this]
      show some (s 3 (12 * (vP (m 1) p 4).toNat + (vC (m 1) c 1).toNat)) = some K
      congr 1
      omega
    have ew : fModel_way (vP (m 1) p 4) (vC (m 1) c 1) m = some K := by
      have := way_eq (m := m) (x := (vP (m 1) p 4).toNat) (z := (vC (m 1) c 1).toNat) (by omega) (by omega)
      rw [← e4, ← e1, hK] at this
      exact this
    have hK2 : 0 ≤ K ∧ K ≤ 660 := by omega
    have wK : sm_w K = K := tw (by omega) (by omega)
    obtain ⟨P, eP, L1⟩ := CW_leave (CW_0 s hp c40) (c : Int) K
    have V3 := VW_P (VW_P (VW_P (VW_0 m hp c40) 3 1 (by omega)) 5 (c : Int) (by omega)) 6 K (by omega)
    rw [ip, Option.bind_some, w1, if_neg (by omega), wp, if_pos (by omega), show ((p : Int)).toNat = p by omega, r4, u1, eb, Option.bind_some, eP, Option.bind_some, Option.bind_some, CW_c L1, u5, tw (x := vC (m 1) c 5) (by omega) (by omega)]
    rw [Option.bind_some, wp, if_neg (show ¬ (p : Int) = -5 by omega), ofPatrol_4 hp, Option.bind_some, ofCall_1 c40, Option.bind_some, ew, Option.bind_some, laysPatrol_3 hp, Option.bind_some, laysPatrol_5 hp, Option.bind_some, laysPatrol_6 hp, Option.bind_some, ofCall_5 c40, Option.bind_some, VW_c V3, tw (x := vC (m 1) c 5) (by omega) (by omega)]
    have key : ∀ x : Int, (vC (m 1) c 5 = 0 ∧ x = 1 ∨ vC (m 1) c 5 = 3 ∧ x = 3) → ∃ s' m', fWork_sendPatrols_j115_l7 (f : Int) (k : Int) (21 + c) (p : Int) (10 + p) (21 + c) x (sm_gl (10 + p) 1 P s) = some (.inl ((k : Int) + 1, s')) ∧ fModel_sends_j91_l6 (k : Int) (c : Int) (p : Int) K (c : Int) 5 x (mP (mP (mP m p 3 1) p 5 (c : Int)) p 6 K) = some (.inl ((k : Int) + 1, m')) ∧ RS s' (m' 1) ∧ wk s' m' ∧ same m m' ∧ (∀ o, o < 40 → ¬ o = c → vC (m' 1) o = vC (m 1) o) ∧ s' 9 = s 9 ∧ dn (m' 1) = dn (m 1) := fun x hx => by
      have L2 := CW_C L1 5 x
      have V5 := VW_C (VW_C V3 5 x (by omega)) 6 (p : Int) (by omega)
      have F5 := FR_V V5
      have hx0 := RS_x p H
      have hX := RS_fin hx0 p7 hc (Or.inr ⟨q5, t6⟩) V5 L2 (pd := 0) (lt := 0) (fun j _ => ⟨rfl, rfl, by show vM (m 1) j 1 = vM (m 1) j 1 + (if vC (m 1) c 0 = (j : Int) then 0 - 15 * 0 else 0); split <;> omega, by show vM (m 1) j 3 = vM (m 1) j 3 + (if vC (m 1) c 0 = (j : Int) then 0 else 0); split <;> omega⟩) (by omega) (by omega) (by rw [paid_no (by rw [nu_n (by omega), nu_s]; omega), paid_no (by omega)]; rfl)
        (by rw [Int.add_zero]; exact late_eq (by rw [nu_n (by omega), nu_n (by omega)]) (by rw [nu_n (by omega), nu_n (by omega)]) (by rw [nu_n (by omega), nu_n (by omega)])) (by rw [nu_n (by omega), nu_n (by omega)]) (by rw [nu_n (by omega), nu_n (by omega)])
        (fun g hg => by
          rw [tI_no (by simp [nu]), tI_no (by omega)]
          exact ⟨rfl, rfl, (mid_uw hx0 hg).1, by have := (mid_uw hx0 hg).2; omega⟩) (k_sent hcI hx (by omega))
        (Or.inl ⟨by simp [nu], by simp [nu], Or.inl ⟨by simp [nu], by
          unfold tk at pt
          rw [nu_n (by omega : ¬ (5 : Nat) = 6), nu_s, nu_n (by omega : ¬ (2 : Nat) = 6), nu_n (by omega : ¬ (2 : Nat) = 5), nu_n (by omega : ¬ (2 : Nat) = 3), nu_n (by omega : ¬ (0 : Nat) = 6), nu_n (by omega : ¬ (0 : Nat) = 5), nu_n (by omega : ¬ (0 : Nat) = 3), nu_n (by omega : ¬ (1 : Nat) = 6), nu_n (by omega : ¬ (1 : Nat) = 5)]
          omega⟩⟩) (k_send hR) (k_sentR hC)
        (fun g hg => by
          rw [tI_no (by simp [nu]), tI_no (by omega)]
          obtain ⟨x0, x1, x2, x3, x4⟩ := mid_g hx0 hg
          exact ⟨rfl, rfl, x2, by show s (16 + g) 3 = _; omega, x4⟩)
      have hW := wk_V V5 L2 hw
      have N7 := VW_n V5 (by omega : 7 < 10)
      have N8 := VW_n V5 (by omega : 8 < 10)
      have N9 := VW_n V5 (by omega : 9 < 10)
      have vp := VW_p V5
      have vc := VW_c V5
      have t5' : vC (mC (mC (mP (mP (mP m p 3 1) p 5 (c : Int)) p 6 K) c 5 x) c 6 (p : Int) 1) c 5 = x := by rw [vc, nu_n (by omega), nu_s]
      have dn5 : ∀ m', FR m m' p c → (¬ vC (m' 1) c 5 = 5 ∧ ¬ vC (m' 1) c 5 = 6) → dn (m' 1) = dn (m 1) := fun m' F n => by
        show d5 _ 5 + d5 _ 6 = d5 _ 5 + d5 _ 6
        rw [d5_fr F hc S9.2, d5_fr F hc S9.2, if_neg n.1, if_neg n.2, if_neg (by omega), if_neg (by omega)]
        omega
      unfold fWork_sendPatrols_j115_l7 fWork_sendPatrols_j134_l7 fModel_sends_j91_l6 fModel_sends_j112_l6
      rw [Option.bind_some, CW_p L2, nu_s, wK, laysCall_5 c40, Option.bind_some, laysCall_6 c40, Option.bind_some]
      by_cases z : K = 0
      · rw [if_pos z, if_pos z]
        obtain ⟨s', m', x1, x2, x3, x4, x5, x6, x7, x8⟩ := arrive_eq hX hW (by rw [N7]; exact p7) (by rw [N9]; exact hc) (by rw [vp, N9, N8]; exact k_sendI hpI (by omega) (by omega)) (by rw [vp, nu_n (by omega), nu_s]) (by rw [vp, nu_n (by omega), nu_n (by omega), nu_s])
        rw [x1, Option.bind_some, x2, Option.bind_some]
        have FT := FR_trans F5 x5
        exact ⟨s', m', rfl, rfl, x3, x4, ⟨FT.1, FT.2.1⟩, FT.2.2.2, x8.trans (CW_d L2 (by omega)), dn5 m' FT (by omega)⟩
      · rw [if_neg z, if_neg z]
        exact ⟨_, _, rfl, rfl, RS_ofx hX (by rw [vp, N9, N8]; exact k_sendI0 hpI (by omega) (by omega)), hW, ⟨F5.1, F5.2.1⟩, F5.2.2.2, CW_d L2 (by omega), dn5 _ F5 (by rw [t5']; omega)⟩
    by_cases z : vC (m 1) c 5 = 0
    · rw [if_pos z, if_pos z]
      exact key 1 (Or.inl ⟨z, rfl⟩)
    · rw [if_neg z, if_neg z]
      have t3 : vC (m 1) c 5 = 3 := by omega
      rw [t3]
      exact key 3 (Or.inr ⟨t3, rfl⟩)
