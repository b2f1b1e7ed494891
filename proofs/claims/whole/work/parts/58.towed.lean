theorem vG_at {N : Nat → Int} {g w : Nat} (hw : w < 4) : N (270 + 4 * g + w) = vG N g w := (if_pos hw).symm
theorem towed_eq {s m : MI} {p0 c0 : Nat} (A : ATW s m p0 c0) (h3 : vP (m 1) p0 3 = 3) :
    ∃ s' m' k, fWork_endTow (10 + p0) (21 + c0) s = some (k, s') ∧ fModel_towed (p0 : Int) m = some m' ∧ RS s' (m' 1) ∧ wk s' m' ∧ FR m m' p0 c0 ∧ (k = 1 ∧ vC (m' 1) c0 5 = 6 ∨ k = 0 ∧ vC (m' 1) c0 5 = 3) ∧ vC (m 1) c0 5 = 4 := by
  obtain ⟨hp, hc, h6, hlk, hR, hC, cI0, n0, S, hM0, s6⟩ := ATW_l A
  obtain ⟨h, hw, hp0, hc0, hq, h5⟩ := A
  have t5 : vC (m 1) c0 5 = 4 := by
    rcases hlk with ⟨x, _⟩ | ⟨x, _⟩ | ⟨_, x⟩
    · omega
    · omega
    · exact x
  have S' := S
  obtain ⟨S0, S1, S2, S6, S7, S8, S9⟩ := S'
  have hq6 : (0 ≤ vP (m 1) p0 12 ∧ vP (m 1) p0 12 < 12) ∧ 0 ≤ vP (m 1) p0 13 ∧ vP (m 1) p0 13 < m 1 8 := by
    have := hq.2.2.2.2.2
    rw [nu_n (by omega), nu_n (by omega), nu_n (by omega)] at this
    exact this h3
  have rt := hR.2.1 h3
  obtain ⟨e, ee⟩ : ∃ e : Nat, vP (m 1) p0 12 = (e : Int) := ⟨(vP (m 1) p0 12).toNat, by omega⟩
  obtain ⟨g, eg⟩ : ∃ g : Nat, vP (m 1) p0 13 = (g : Int) := ⟨(vP (m 1) p0 13).toNat, by omega⟩
  rw [ee, eg] at rt hq6
  obtain ⟨R7, R8⟩ := rt
  have g5 : g < 5 := by omega
  obtain ⟨G0, G1, G2, G3, G4⟩ := mid_g h (g := g) hq6.2.2
  have U := mid_uw h (g := g) hq6.2.2
  have hgg : nG (m 1) := by
    obtain ⟨a1, a2, a3, a4, a5, a6, b1, b2, b3, b4, b5, b6, b7, b8⟩ := h
    exact b5
  obtain ⟨ng0, ng1, ng2, ng3⟩ := hgg g hq6.2.2
  have un := uw_nn (m 1) g
  have tI1 : ∀ k : Nat, tI (vP (m 1) p0) k = if k = g then 1 else 0 := fun k => by
    unfold tI
    by_cases z : k = g
    · rw [if_pos ⟨h3, by omega⟩, if_pos z]
    · rw [if_neg (by omega), if_neg z]
  have wg : sm_w (g : Int) = g := tw (by omega) (by omega)
  have we : sm_w (e : Int) = e := tw (by omega) (by omega)
  have wG : sm_w (vG (m 1) g 0) = vG (m 1) g 0 := tw (by omega) (by omega)
  -- the class
  have C1 := CW_P (CW_0 s hp hc) 4 (e : Int)
  have C2 := CW_P C1 10 (s (10 + p0) 10 + 1)
  obtain ⟨P, eP, C3⟩ := CW_free C2
  have C5 := CW_C (CW_C C3 1 (e : Int)) 5 3
  have G5 := CW_g C5 g5
  have C6 := CW_G C5 g5 3 (s (16 + g) 3 - 1)
  have G6 := CW_g C6 g5
  simp only [if_true] at G6
  have C7 := CW_G C6 g5 2 (s (16 + g) 2 + 1)
  have G7 := CW_g C7 g5
  simp only [if_true] at G7
  have C8 := CW_G C7 g5 4 (s (16 + g) 4 + 1)
  have C9 := CW_C C8 9 (g : Int)
  obtain ⟨P9, eP9, C10⟩ := CW_end C9 6 (m 1 0)
  -- the model
  have V1 := VW_P (VW_0 m hp hc) 4 (e : Int) (by omega)
  have V2 := VW_P V1 8 (vP (m 1) p0 8 + 1) (by omega)
  have V3 := VW_C V2 1 (e : Int) (by omega)
  have K3 := V3.2.2.2.2.2.2.2.2.2.2 g g5
  have V4 := VW_G V3 g 2 (vG (m 1) g 2 + 1) g5 (by omega)
  have K4 := V4.2.2.2.2.2.2.2.2.2.2 g g5
  simp only [if_true] at K4
  have V5 := VW_G V4 g 3 (vG (m 1) g 3 + 1) g5 (by omega)
  have V7 := VW_C (VW_C V5 5 6 (by omega)) 6 (-5) (by omega)
  have V9 := VW_C (VW_C V7 9 (m 1 0) (by omega)) 11 (g : Int) (by omega)
  obtain ⟨mA, eA, VA⟩ := frees_V V9
  obtain ⟨mB, eB, VB⟩ := leaves_V V3 (by rw [nu_n (by omega), nu_n (by omega)]; exact h5)
  have HC : fWork_endTow (10 + p0) (21 + c0) s = if vG (m 1) g 0 = (e : Int) then some (1, sm_gl (21 + c0) 1 P9 (sm_up (sm_up (sm_up (sm_up (sm_up (sm_up (sm_gl (10 + p0) 1 P (sm_up (sm_up s (10 + p0) 4 (e : Int)) (10 + p0) 10 (s (10 + p0) 10 + 1))) (21 + c0) 1 (e : Int)) (21 + c0) 5 3) (16 + g) 3 (s (16 + g) 3 - 1)) (16 + g) 2 (s (16 + g) 2 + 1)) (16 + g) 4 (s (16 + g) 4 + 1)) (21 + c0) 9 (g : Int))) else
      some (0, sm_up (sm_up (sm_up (sm_gl (10 + p0) 1 P (sm_up (sm_up s (10 + p0) 4 (e : Int)) (10 + p0) 10 (s (10 + p0) 10 + 1))) (21 + c0) 1 (e : Int)) (21 + c0) 5 3) (16 + g) 3 (s (16 + g) 3 - 1)) := by
    unfold fWork_endTow
    rw [R7, R8, Option.bind_some, CW_p C1, nu_n (by omega : ¬ (10 : Nat) = 4), Option.bind_some, eP, Option.bind_some, Option.bind_some, Option.bind_some, Option.bind_some, isGarage_1 (by rw [CW_d C5 (by omega)]; omega) (by rw [CW_d C5 (by omega)]; omega), Option.bind_some, w1, if_neg (by omega), wg, if_pos (by omega), show ((g : Int)).toNat = g by omega, G5, Option.bind_some, G6, nu_n (by omega : ¬ (0 : Nat) = 3), G0, wG, we]
    by_cases z : vG (m 1) g 0 = (e : Int)
    · rw [if_pos z, if_pos z, nu_n (by omega : ¬ (2 : Nat) = 3), Option.bind_some, G7, nu_n (by omega : ¬ (4 : Nat) = 2), nu_n (by omega : ¬ (4 : Nat) = 3), Option.bind_some, Option.bind_some, CW_d C9 (by omega), n0, eP9, Option.bind_some, Option.bind_some]
    · rw [if_neg z, if_neg z]
  have HM : fModel_towed (p0 : Int) m = if vG (m 1) g 0 = (e : Int) then some mA else some mB := by
    unfold fModel_towed
    rw [ofPatrol_5 hp, Option.bind_some, h5, ofPatrol_13 hp, Option.bind_some, eg, ofPatrol_12 hp, Option.bind_some, ee, laysPatrol_4 hp, Option.bind_some, ofPatrol_8 hp, Option.bind_some, VW_p V1, nu_n (by omega : ¬ (8 : Nat) = 4), laysPatrol_8 hp, Option.bind_some, laysCall_1 hc, Option.bind_some, ofGarage_0 g5, Option.bind_some, K3, wG, we]
    by_cases z : vG (m 1) g 0 = (e : Int)
    · rw [if_pos z, if_pos z, tg (by omega) (by omega) (by omega), tn (by omega) (by omega), show (270 + 4 * (g : Int) + 2).toNat = 270 + 4 * g + 2 by omega, vG_at (N := mC (mP (mP m p0 4 (e : Int)) p0 8 (vP (m 1) p0 8 + 1)) c0 1 (e : Int) 1) (g := g) (w := 2) (by omega), K3, Option.bind_some, tg (by omega) (by omega) (by omega), tn (by omega) (by omega), show (270 + 4 * (g : Int) + 3).toNat = 270 + 4 * g + 3 by omega]
      rw [show ∀ (x : MI) (v : Int), sm_up x 1 (270 + 4 * g + 2) v = mG x g 2 v from fun _ _ => rfl, show ∀ (x : MI) (v : Int), sm_up x 1 (270 + 4 * g + 3) v = mG x g 3 v from fun _ _ => rfl]
      rw [vG_at (N := mG (mC (mP (mP m p0 4 (e : Int)) p0 8 (vP (m 1) p0 8 + 1)) c0 1 (e : Int)) g 2 (vG (m 1) g 2 + 1) 1) (g := g) (w := 3) (by omega), K4, nu_n (by omega : ¬ (3 : Nat) = 2), Option.bind_some, laysCall_5 hc, Option.bind_some, laysCall_6 hc, Option.bind_some, VW_n V7 (by omega : 0 < 10), laysCall_9 hc, Option.bind_some, laysCall_11 hc, Option.bind_some, eA]
      rfl
    · rw [if_neg z, if_neg z, eB]
      rfl
  have fI : pI (m 1 9) (m 1 8) (frM (nu (nu (vP (m 1) p0) 4 (e : Int)) 8 (vP (m 1) p0 8 + 1))) := k_freeI2 hq (by omega)
  have fR : pR (frC (nu (nu (s (10 + p0)) 4 (e : Int)) 10 (s (10 + p0) 10 + 1))) (frM (nu (nu (vP (m 1) p0) 4 (e : Int)) 8 (vP (m 1) p0 8 + 1))) := k_free2 hR rfl rfl
  have f5 : frM (nu (nu (vP (m 1) p0) 4 (e : Int)) 8 (vP (m 1) p0 8 + 1)) 5 = -5 := by simp [frM, nu]
  have f3 : ¬ frM (nu (nu (vP (m 1) p0) 4 (e : Int)) 8 (vP (m 1) p0 8 + 1)) 3 = 3 := by simp [frM, nu]
  have hm0 : ∀ k, k < 20 → vM (m 1) k 0 = vM (m 1) k 0 ∧ vM (m 1) k 2 = vM (m 1) k 2 ∧ vM (m 1) k 1 = vM (m 1) k 1 + (if vC (m 1) c0 0 = (k : Int) then 0 - 15 * 0 else 0) ∧ vM (m 1) k 3 = vM (m 1) k 3 + if vC (m 1) c0 0 = (k : Int) then 0 else 0 := fun k _ => ⟨rfl, rfl, by split <;> omega, by split <;> omega⟩
  by_cases z : vG (m 1) g 0 = (e : Int)
  · rw [if_pos z] at HC HM
    have hx := RS_fin h hp0 hc0 (Or.inl ⟨h5, h6⟩) VA C10 (pd := 0) (lt := 0) hm0 (by omega) (by omega) (by rw [paid_no (by simp [nu]), paid_no (by omega)]; rfl) (by rw [Int.add_zero]; exact late_eq (by simp [nu]) (by simp [nu]) (by simp [nu])) (by simp [nu]) (by simp [nu])
      (fun k hk => by
        rw [tI_no f3, tI1]
        have Uk := mid_uw h hk
        by_cases y : k = g
        · simp only [y, if_true]
          rw [nu_n (by omega : ¬ (0 : Nat) = 3), nu_n (by omega : ¬ (0 : Nat) = 2), nu_n (by omega : ¬ (1 : Nat) = 3), nu_n (by omega : ¬ (1 : Nat) = 2), nu_n (by omega : ¬ (2 : Nat) = 3), nu_s]
          exact ⟨rfl, rfl, by omega, by omega⟩
        · simp only [y, if_false]
          exact ⟨trivial, trivial, Uk.1, by omega⟩)
      (k_towed cI0 t5 S0.1 hq6.1) (Or.inr ⟨f5, by simp [nu]⟩) fR (k_towedR hC)
      (fun k hk => by
        rw [tI_no f3, tI1]
        obtain ⟨x0, x1, x2, x3, x4⟩ := mid_g h hk
        by_cases y : k = g
        · simp only [y, if_true]
          simp only [nu]
          simp
          omega
        · simp only [y, if_false]
          exact ⟨trivial, trivial, x2, by omega, x4⟩)
      (hGz := fun k _ h8 => by
        have y : ¬ k = g := by omega
        simp only [y, if_false])
    refine ⟨_, _, _, HC, HM, RS_ofx hx ?_, wk_V VA C10 hw, FR_V VA, Or.inl ⟨rfl, ?_⟩, t5⟩
    · rw [VW_p VA, VW_n VA (by omega), VW_n VA (by omega)]
      exact fI
    · rw [VW_c VA]
      simp [nu]
  · rw [if_neg z] at HC HM
    have hx := RS_fin h hp0 hc0 (Or.inl ⟨h5, h6⟩) VB C6 (pd := 0) (lt := 0) hm0 (by omega) (by omega) (by rw [paid_no (by simp [nu]), paid_no (by omega)]; rfl) (by rw [Int.add_zero]; exact late_eq (by simp [nu]) (by simp [nu]) (by simp [nu])) (by simp [nu]) (by simp [nu])
      (fun k hk => by
        rw [tI_no f3, tI1]
        have Uk := mid_uw h hk
        refine ⟨rfl, rfl, Uk.1, ?_⟩
        show vG (m 1) k 2 + _ ≤ _
        split <;> omega)
      (k_border cI0 t5 hq6.1) (Or.inr ⟨f5, by simp [nu]⟩) fR (k_borderR hC)
      (fun k hk => by
        rw [tI_no f3, tI1]
        obtain ⟨x0, x1, x2, x3, x4⟩ := mid_g h hk
        by_cases y : k = g
        · simp only [y, if_true]
          rw [y] at x2 x4
          simp only [nu]
          simp
          omega
        · simp only [y, if_false]
          exact ⟨trivial, trivial, x2, by omega, x4⟩)
    refine ⟨_, _, _, HC, HM, RS_ofx hx ?_, wk_V VB C6 hw, FR_V VB, Or.inr ⟨rfl, ?_⟩, t5⟩
    · rw [VW_p VB, VW_n VB (by omega), VW_n VB (by omega)]
      exact fI
    · rw [VW_c VB]
      simp [nu]
