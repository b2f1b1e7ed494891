/-! ===== a minute of a busy patrol ===== -/
def d5 (N : Nat → Int) (x : Int) : Int := sumN (N 9).toNat (fun c => if vC N c 5 = x then 1 else 0)
theorem d5_fr {m m' : MI} {p0 c0 : Nat} (h : FR m m' p0 c0) (hc : (c0 : Int) < m 1 9) (h9 : m 1 9 ≤ 40) (x : Int) : d5 (m' 1) x = d5 (m 1) x + (if vC (m' 1) c0 5 = x then 1 else 0) - (if vC (m 1) c0 5 = x then 1 else 0) := by
  unfold d5
  rw [h.2.1 9 (by omega), sumN_up (a := c0) (m 1 9).toNat (f := fun c => if vC (m' 1) c 5 = x then 1 else 0) (g := fun c => if vC (m 1) c 5 = x then 1 else 0) (by omega) (fun k hk q => by rw [h.2.2.2 k (by omega) q])]
  omega
theorem FR_trans {m m1 m2 : MI} {p0 c0 : Nat} (h : FR m m1 p0 c0) (h2 : FR m1 m2 p0 c0) : FR m m2 p0 c0 :=
  ⟨fun d e => (h2.1 d e).trans (h.1 d e), fun i e => (h2.2.1 i e).trans (h.2.1 i e), fun p e z => (h2.2.2.1 p e z).trans (h.2.2.1 p e z), fun c e z => (h2.2.2.2 c e z).trans (h.2.2.2 c e z)⟩
/-- what holds of a patrol at work and its call -/
theorem busy_of {s : MI} {N : Nat → Int} {p0 : Nat} (h : RS s N) (hp0 : (p0 : Int) < N 7) (hb : 1 ≤ vP N p0 3 ∧ vP N p0 3 ≤ 3) : ∃ c0 : Nat, (c0 : Int) < N 9 ∧ vP N p0 5 = c0 ∧ vC N c0 6 = p0 ∧ lkP (vP N p0) (vC N c0) ∧ 1 ≤ vP N p0 6 ∧ vP N p0 6 ≤ 2000 := by
  obtain ⟨_, _, _, _, _, _, b1, b2, b3, b4, b5, b6, b7, b8⟩ := h
  obtain ⟨x, y, z, w, i5, i6⟩ := b4 p0 hp0
  have i : (0 ≤ vP N p0 5 ∧ vP N p0 5 < N 9) ∧ 1 ≤ vP N p0 6 ∧ vP N p0 6 ≤ 2000 := by
    rcases i5 with ⟨i, _⟩ | ⟨i, j, k⟩
    · omega
    · exact ⟨j, k⟩
  obtain ⟨l1, l2⟩ := b7.1 p0 hp0 i.1.1
  exact ⟨(vP N p0 5).toNat, by omega, by omega, l1, l2, i.2⟩
theorem k_min {r q : Nat → Int} {x y : Int} (h : pR r q) (hx : x = r 13 + 1) (hy : y = q 11 + 1) : pR (nu (nu r 13 x) 6 (r 6 - 1)) (nu (nu q 6 (q 6 - 1)) 11 y) := by
  unfold pR at h ⊢
  simp only [nu] at h ⊢
  simp
  omega
theorem k_minI {nc ng y l : Int} {q : Nat → Int} (h : pI nc ng q) (hb : 1 ≤ q 3 ∧ q 3 ≤ 3) (hl : 1 ≤ l ∧ l ≤ 2000) : pI nc ng (nu (nu (nu q 6 (q 6 - 1)) 11 y) 6 l) := by
  unfold pI at h ⊢
  simp only [nu] at h ⊢
  simp at h ⊢
  omega
/-- the minute is booked: all but the patrol's own bounds -/
theorem min_x {s m : MI} {p0 c0 : Nat} (h : RS s (m 1)) (hw : wk s m) (hp0 : (p0 : Int) < m 1 7) (hc0 : (c0 : Int) < m 1 9) (hp : p0 < 6) (hc : c0 < 40) (h5 : vP (m 1) p0 5 = c0) (h6 : vC (m 1) c0 6 = p0) (hlk : lkP (vP (m 1) p0) (vC (m 1) c0)) :
    RSx p0 (sm_up (sm_up s (10 + p0) 13 (s (10 + p0) 13 + 1)) (10 + p0) 6 (s (10 + p0) 6 - 1)) (mP (mP m p0 6 (vP (m 1) p0 6 - 1)) p0 11 (vP (m 1) p0 11 + 1) 1) ∧
    wk (sm_up (sm_up s (10 + p0) 13 (s (10 + p0) 13 + 1)) (10 + p0) 6 (s (10 + p0) 6 - 1)) (mP (mP m p0 6 (vP (m 1) p0 6 - 1)) p0 11 (vP (m 1) p0 11 + 1)) := by
  have V := VW_P (VW_P (VW_0 m hp hc) 6 (vP (m 1) p0 6 - 1) (by omega)) 11 (vP (m 1) p0 11 + 1) (by omega)
  have C := CW_P (CW_P (CW_0 s hp hc) 13 (s (10 + p0) 13 + 1)) 6 (s (10 + p0) 6 - 1)
  have hx := RS_x p0 h
  have tIe : ∀ g, tI (nu (nu (vP (m 1) p0) 6 (vP (m 1) p0 6 - 1)) 11 (vP (m 1) p0 11 + 1)) g = tI (vP (m 1) p0) g := fun g => by
    unfold tI
    rw [nu_n (by omega), nu_n (by omega), nu_n (by omega), nu_n (by omega)]
  obtain ⟨_, _, _, a4, _, a6, b1, b2, b3, b4, b5, b6, b7, b8⟩ := h
  refine ⟨RS_fin hx hp0 hc0 (Or.inl ⟨h5, h6⟩) V C (pd := 0) (lt := 0) (fun k _ => ⟨rfl, rfl, ?_, ?_⟩) (by omega) (by omega) (by omega) (by omega) rfl rfl (fun g hg => ?_) (b6 c0 hc0) (Or.inl ⟨?_, h6, ?_⟩) (k_min (a4 p0 hp0) rfl rfl) (a6 c0 hc0) (fun g hg => ?_), wk_V V C hw⟩
  · show vM (m 1) k 1 = vM (m 1) k 1 + (if vC (m 1) c0 0 = (k : Int) then 0 - 15 * 0 else 0)
    split <;> omega
  · show vM (m 1) k 3 = vM (m 1) k 3 + (if vC (m 1) c0 0 = (k : Int) then 0 else 0)
    split <;> omega
  · rw [tIe g]
    exact ⟨rfl, rfl, (mid_uw hx hg).1, by have := (mid_uw hx hg).2; show vG (m 1) g 2 + _ ≤ _; omega⟩
  · rw [nu_n (by omega), nu_n (by omega)]
    exact h5
  · unfold lkP at hlk ⊢
    rw [nu_n (by omega), nu_n (by omega), nu_n (by omega), nu_n (by omega), nu_n (by omega), nu_n (by omega)]
    exact hlk
  · rw [tIe g]
    obtain ⟨x0, x1, x2, x3, x4⟩ := mid_g hx hg
    exact ⟨rfl, rfl, x2, by show s (16 + g) 3 = _; omega, x4⟩
abbrev mnS (s : MI) (p0 : Nat) : MI := sm_up (sm_up s (10 + p0) 13 (s (10 + p0) 13 + 1)) (10 + p0) 6 (s (10 + p0) 6 - 1)
abbrev mnM (m : MI) (p0 : Nat) : MI := mP (mP m p0 6 (vP (m 1) p0 6 - 1)) p0 11 (vP (m 1) p0 11 + 1)
/-- the class's minute, by its ends -/
theorem isCall_1 {s : MI} {c : Nat} (h8 : (c : Int) < s 0 8) (h5 : s 0 8 ≤ 40) : fState_isCall (c : Int) s = some 1 := by
  unfold fState_isCall
  rw [tw (x := (c : Int)) (by omega) (by omega), tw (x := s 0 8) (by omega) (by omega), if_neg (by omega), if_neg (by omega), if_neg (by omega)]
theorem goOn_c {s : MI} {p0 c0 : Nat} (hp : p0 < 6) (hc : c0 < 40) (h5 : s (10 + p0) 5 = c0) (h3 : 1 ≤ s (10 + p0) 3 ∧ s (10 + p0) 3 ≤ 3) (h6 : 1 ≤ s (10 + p0) 6 ∧ s (10 + p0) 6 ≤ 2000) (h8 : (c0 : Int) < s 0 8 ∧ s 0 8 ≤ 40) :
    fWork_goOn (p0 : Int) s = if 1 < s (10 + p0) 6 then some (0, mnS s p0) else if s (10 + p0) 3 = 1 then Option.bind (fWork_arrive (p0 : Int) (21 + c0) (mnS s p0)) (fun p28 => some (0, p28)) else if s (10 + p0) 3 = 3 then fWork_endTow (10 + p0) (21 + c0) (mnS s p0) else
      Option.bind (fBreakdown_end 5 (s 0 11) (sm_lo (21 + c0) (mnS s p0))) (fun p12 => Option.bind (fPatrol_becomeFree (sm_lo (10 + p0) (sm_up (sm_gl (21 + c0) 1 p12 (mnS s p0)) (10 + p0) 9 (sm_gl (21 + c0) 1 p12 (mnS s p0) (10 + p0) 9 + 1)))) (fun p19 => some (1, sm_gl (10 + p0) 1 p19 (sm_up (sm_gl (21 + c0) 1 p12 (mnS s p0)) (10 + p0) 9 (sm_gl (21 + c0) 1 p12 (mnS s p0) (10 + p0) 9 + 1))))) := by
  have C1 := CW_P (CW_0 s hp hc) 13 (s (10 + p0) 13 + 1)
  have C2 := CW_P C1 6 (s (10 + p0) 6 - 1)
  unfold fWork_goOn mnS
  rw [tg (by omega) (by omega) (by omega), tnn (by omega), Option.bind_some, CW_p C1, nu_n (by omega : ¬ (6 : Nat) = 13), Option.bind_some, CW_p C2, nu_s, tw (x := s (10 + p0) 6 - 1) (by omega) (by omega)]
  by_cases q : 1 < s (10 + p0) 6
  · rw [if_pos (by omega), if_pos q]
  · rw [if_neg (by omega), if_neg q, nu_n (by omega : ¬ (5 : Nat) = 6), nu_n (by omega : ¬ (5 : Nat) = 13), nu_n (by omega : ¬ (3 : Nat) = 6), nu_n (by omega : ¬ (3 : Nat) = 13), h5, isCall_1 (by rw [CW_d C2 (by omega)]; exact h8.1) (by rw [CW_d C2 (by omega)]; exact h8.2), Option.bind_some, w1, if_neg (by omega), tw (x := (c0 : Int)) (by omega) (by omega), if_pos (by omega), show ((c0 : Int)).toNat = c0 by omega, tw (x := s (10 + p0) 3) (by omega) (by omega), CW_d C2 (by omega : 0 < 10)]
    by_cases q1 : s (10 + p0) 3 = 1
    · rw [if_pos q1, if_pos q1]
    · rw [if_neg q1, if_neg q1]
      by_cases q3 : s (10 + p0) 3 = 3
      · rw [if_pos q3, if_pos q3]
        generalize fWork_endTow (10 + p0) (21 + c0) _ = y
        cases y <;> rfl
      · rw [if_neg q3, if_neg q3]
        rfl
theorem passes_m {m : MI} {p0 : Nat} (hp : p0 < 6) (h7 : (p0 : Int) < m 1 7 ∧ m 1 7 ≤ 6) (h3 : 1 ≤ vP (m 1) p0 3 ∧ vP (m 1) p0 3 ≤ 3) (h6 : 1 ≤ vP (m 1) p0 6 ∧ vP (m 1) p0 6 ≤ 2000) :
    fModel_passes_l2 (p0 : Int) m = Option.bind (if 1 < vP (m 1) p0 6 then some (mnM m p0) else if vP (m 1) p0 3 = 1 then fModel_gets (p0 : Int) (mnM m p0) else if vP (m 1) p0 3 = 3 then fModel_towed (p0 : Int) (mnM m p0) else fModel_repaired (p0 : Int) (mnM m p0)) (fun x => some (.inl ((p0 : Int) + 1, x))) := by
  have V1 := VW_P (VW_0 m hp (show 0 < 40 by omega)) 6 (vP (m 1) p0 6 - 1) (by omega)
  have V2 := VW_P V1 11 (vP (m 1) p0 11 + 1) (by omega)
  have hin : fModel_in (vP (m 1) p0 3) 1 3 = some 1 := by
    unfold fModel_in
    rw [w1, w3, tw (x := vP (m 1) p0 3) (by omega) (by omega)]
    first
      | rw [if_neg (by omega), if_neg (by omega)]
      | rw [if_pos (by omega), if_pos (by omega)]
  unfold fModel_passes_l2 mnM fModel_passes_j102_l2
  rw [tw (x := (p0 : Int)) (by omega) (by omega), tw (x := m 1 7) (by omega) (by omega), if_neg (by omega), ofPatrol_3 hp, Option.bind_some, hin, Option.bind_some, w1, if_neg (by omega), ofPatrol_6 hp, Option.bind_some, laysPatrol_6 hp, Option.bind_some, ofPatrol_11 hp, Option.bind_some, VW_p V1, nu_n (by omega : ¬ (11 : Nat) = 6), laysPatrol_11 hp, Option.bind_some, ofPatrol_6 hp, Option.bind_some, VW_p V2, nu_n (by omega : ¬ (6 : Nat) = 11), nu_s, tw (x := vP (m 1) p0 6 - 1) (by omega) (by omega), tw (x := vP (m 1) p0 3) (by omega) (by omega)]
  by_cases q : 1 < vP (m 1) p0 6
  · rw [if_neg (by omega), if_pos q]
    rfl
  · rw [if_pos (by omega), if_neg q]
    by_cases q1 : vP (m 1) p0 3 = 1
    · rw [if_pos q1, if_pos q1]
    · rw [if_neg q1, if_neg q1]
      by_cases q3 : vP (m 1) p0 3 = 3
      · rw [if_neg (by omega), if_pos q3]
      · rw [if_pos (by omega), if_neg q3]
