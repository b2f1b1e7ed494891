theorem Dist_congr {rd D D' : Nat → Nat → Int} {inf : Int} (h : Dist rd inf D) (e : ∀ x y, x < 12 → y < 12 → D' x y = D x y) : Dist rd inf D' := by
  obtain ⟨a, b, c, d⟩ := h
  refine ⟨fun x hx => by rw [e x x hx hx]; exact a x hx, fun x y hx hy => by rw [e x y hx hy]; exact b x y hx hy, fun z hz x y hx hy hr => ?_, fun f hf x z hx hz hl => ?_⟩
  · have := c z hz x y hx hy hr
    dsimp only at this ⊢
    rw [e x z hx hz, e y z hy hz]
    exact this
  · rw [e x z hx hz] at hl ⊢
    exact d f hf x z hx hz hl
theorem mapCopy (s s2 : MI) : ∃ P, fMap_copyFrom s s2 = some P ∧ P 0 0 = s2 0 0 ∧ (∀ j, j < 144 → P 1 j = s2 1 j) ∧ ∀ j, j < 144 → P 2 j = s2 2 j := by
  unfold fMap_copyFrom
  rw [Option.bind_some, Option.bind_some, Option.bind_some]
  refine ⟨_, rfl, ?_, fun j hj => ?_, fun j hj => ?_⟩
  · unfold sl_cp
    rw [if_neg (by omega), if_neg (by omega), up_s]
  · unfold sl_cp
    rw [if_neg (by omega), if_pos (by omega), show 0 + (j - 0) = j by omega]
  · unfold sl_cp
    rw [if_pos (by omega), show 0 + (j - 0) = j by omega]
theorem pR_congr {r r' q : Nat → Int} (h : pR r q) (e : ∀ j, j < 14 → r' j = r j) : pR r' q := by
  unfold pR at h ⊢
  rw [e 0 (by omega), e 1 (by omega), e 2 (by omega), e 3 (by omega), e 4 (by omega), e 5 (by omega), e 6 (by omega), e 7 (by omega), e 8 (by omega), e 9 (by omega), e 10 (by omega), e 11 (by omega), e 12 (by omega), e 13 (by omega)]
  exact h
theorem cR_congr {r r' q : Nat → Int} (h : cR r q) (e : ∀ j, j < 11 → r' j = r j) : cR r' q := by
  unfold cR at h ⊢
  rw [e 0 (by omega), e 1 (by omega), e 2 (by omega), e 3 (by omega), e 4 (by omega), e 5 (by omega), e 6 (by omega), e 7 (by omega), e 8 (by omega), e 9 (by omega), e 10 (by omega)]
  exact h
theorem copyFrom_eq {s s2 : MI} {N : Nat → Int} (h : RS s2 N) : ∃ s', fState_copyFrom s s2 = some s' ∧ RS s' N := by
  obtain ⟨a1, a2, a3, a4, a5, a6, b1, b2, b3, b4, b5, b6, b7, b8⟩ := h
  have S := b1
  obtain ⟨S0, S1, S2, S6, S7, S8, S9⟩ := b1
  obtain ⟨x1, x2, x3, x4, x5, x6, x7, x8⟩ := a1
  obtain ⟨P, eP, P0, P1, P2⟩ := mapCopy (sm_lo 1 s) (sm_lo 1 s2)
  obtain ⟨sA, eA, A1, A2⟩ := pats_copy (s := sl_cp (sl_cp (sm_gl 1 3 P s) s2 4 4 0 0 20) s2 8 8 0 0 3) (s2 := s2) (by omega) (fun p hp => by
    have hR := a4 p (by omega)
    rw [hR.1.2.2.1]
    exact (b4 p (by omega)).2.2.1)
  obtain ⟨sB, eB, B1, B2⟩ := gars_copy (s := sA) (s2 := s2) (by omega)
  obtain ⟨sC, eC, C1, C2⟩ := brks_copy (s := sB) (s2 := s2) (by omega) (fun p hp => by
    have hR := a6 p (by omega)
    rw [hR.2.2.2.2.2]
    exact (b6 p (by omega)).2.2.2.2.2.1)
  have low : ∀ d, d < 10 → sC d = sl_cp (sl_cp (sm_gl 1 3 P s) s2 4 4 0 0 20) s2 8 8 0 0 3 d := fun d hd => by rw [C2 d (by omega), B2 d (by omega), A2 d (by omega)]
  have gm : ∀ d j, 1 ≤ d → d < 4 → sC d j = P (d - 1) j := fun d j h1 h2 => by
    rw [low d (by omega)]
    unfold sl_cp
    rw [if_neg (by omega), if_neg (by omega), gl_i h1 (by omega)]
  have e1 : sC 1 0 = s2 1 0 := (gm 1 0 (by omega) (by omega)).trans P0
  have e2 : ∀ j, j < 144 → sC 2 j = s2 2 j := fun j hj => (gm 2 j (by omega) (by omega)).trans (P1 j hj)
  have e3 : ∀ j, j < 144 → sC 3 j = s2 3 j := fun j hj => (gm 3 j (by omega) (by omega)).trans (P2 j hj)
  have e4 : ∀ j, j < 20 → sC 4 j = s2 4 j := fun j hj => by
    rw [low 4 (by omega)]
    unfold sl_cp
    rw [if_neg (by omega), if_pos (by omega), show 0 + (j - 0) = j by omega]
  have e8 : ∀ j, j < 3 → sC 8 j = s2 8 j := fun j hj => by
    rw [low 8 (by omega)]
    unfold sl_cp
    rw [if_pos (by omega), show 0 + (j - 0) = j by omega]
  have fin : ∃ s', fState_copyFrom s s2 = some s' ∧ (∀ d, ¬ d = 0 → s' d = sC d) ∧ s' 0 2 = s2 0 2 ∧ s' 0 4 = s2 0 4 ∧ s' 0 6 = s2 0 6 ∧ s' 0 8 = s2 0 8 ∧ s' 0 10 = s2 0 10 ∧ s' 0 11 = s2 0 11 := by
    unfold fState_copyFrom fState_copyFrom_j77 fState_copyFrom_j113 fState_copyFrom_j150
    rw [eP, Option.bind_some, Option.bind_some, Option.bind_some, Option.bind_some, eA, Option.bind_some, eB, Option.bind_some, eC, Option.bind_some]
    repeat rw [Option.bind_some]
    refine ⟨_, rfl, fun d hd => ?_, ?_, ?_, ?_, ?_, ?_, ?_⟩
    · rw [up_D hd, up_D hd, up_D hd, up_D hd, up_D hd, up_D hd]
    all_goals simp [up_k]
  obtain ⟨s', eS, hd, y2, y4, y6, y8, y10, y11⟩ := fin
  refine ⟨s', eS, ?_, ⟨fun x y hx hy => ?_, Dist_congr a2.2 (fun x y hx hy => ?_)⟩, fun k hk => ?_, fun p hp => ?_, fun g hg => ?_, fun c hc => ?_, S, b2, b3, b4, b5, b6, b7, b8⟩
  · unfold sR
    rw [y2, y4, y6, y8, y10, y11, hd 8 (by omega), hd 1 (by omega), e8 0 (by omega), e8 1 (by omega), e8 2 (by omega), e1]
    exact ⟨x1, x2, x3, x4, x5, x6, x7, x8⟩
  · rw [hd 2 (by omega), e2 _ (by omega)]
    exact a2.1 x y hx hy
  · rw [hd 3 (by omega), e3 _ (by omega)]
  · rw [hd 4 (by omega), e4 _ (by omega)]
    exact a3 k hk
  · rw [hd (10 + p) (by omega), C2 _ (by omega), B2 _ (by omega)]
    exact pR_congr (a4 p hp) (A1 p (by omega))
  · rw [hd (16 + g) (by omega), C2 _ (by omega), B1 g (by omega) 0 (by omega), B1 g (by omega) 1 (by omega), B1 g (by omega) 2 (by omega), B1 g (by omega) 3 (by omega), B1 g (by omega) 4 (by omega)]
    exact a5 g hg
  · rw [hd (21 + c) (by omega)]
    exact cR_congr (a6 c hc) (C1 c (by omega))
