/-! ===== changes that leave counts, roads, members and sums as they are ===== -/
theorem nL_same {N N' : Nat → Int} (h7 : N' 7 = N 7) (h9 : N' 9 = N 9) (hp : ∀ p : Nat, (p : Int) < N 7 → vP N' p = vP N p ∨ (vP N p 5 = -5 ∧ vP N' p 5 = -5)) (hc : ∀ c : Nat, (c : Int) < N 9 → vC N' c = vC N c) (hP : nP N) (hC : nC N) (h : nL N) : nL N' := by
  obtain ⟨l1, l2⟩ := h
  constructor
  · intro p hp' h5
    rw [h7] at hp'
    rcases hp p hp' with e | ⟨_, e⟩
    · rw [e] at h5 ⊢
      have hb : ((vP N p 5).toNat : Int) < N 9 := by
        obtain ⟨_, _, _, _, i5, _⟩ := hP p hp'
        rcases i5 with ⟨_, i5, _⟩ | ⟨_, i5, _⟩ <;> omega
      rw [hc _ hb]
      exact l1 p hp' h5
    · omega
  · intro c hc' h6
    rw [h9] at hc'
    rw [hc c hc'] at h6 ⊢
    have y := l2 c hc' h6
    have hb : ((vC N c 6).toNat : Int) < N 7 := by
      obtain ⟨_, _, _, _, _, _, i5⟩ := hC c hc'
      rcases i5 with i | i | i | i | i | i <;> omega
    rcases hp _ hb with e | ⟨e, _⟩
    · rw [e]; exact y
    · omega
theorem RS_upd {s s' : MI} {N N' : Nat → Int} (h : RS s N) (hS : sR s' N') (hn : nS N') (n : ∀ i, 5 ≤ i → i < 186 → N' i = N i) (n0 : N' 0 = N 0) (s2 : s' 2 = s 2) (s3 : s' 3 = s 3) (s4 : s' 4 = s 4)
    (hp : ∀ p : Nat, (p : Int) < N 7 → pR (s' (10 + p)) (vP N' p) ∧ pI (N 9) (N 8) (vP N' p) ∧ (vP N' p 3 = 3 ↔ vP N p 3 = 3) ∧ vP N' p 13 = vP N p 13)
    (hpz : ∀ p : Nat, p < 6 → N 7 ≤ (p : Int) → vP N' p = vP N p)
    (hg : ∀ g : Nat, (g : Int) < N 8 → (vG N' g 0 = vG N g 0 ∧ vG N' g 1 = vG N g 1 ∧ 0 ≤ vG N' g 2 ∧ vG N' g 2 ≤ vG N g 2) ∧ s' (16 + g) 0 = vG N' g 0 ∧ s' (16 + g) 1 = vG N' g 1 ∧ s' (16 + g) 2 = vG N' g 2 ∧ s' (16 + g) 3 = uw N g ∧ s' (16 + g) 4 = vG N' g 3)
    (hgz : ∀ g : Nat, g < 5 → N 8 ≤ (g : Int) → vG N' g = vG N g)
    (hc : ∀ c : Nat, (c : Int) < N 9 → cR (s' (21 + c)) (vC N' c) ∧ cI (N 6) (N 7) (N 0) (vC N' c) ∧ vC N' c 0 = vC N c 0 ∧ vC N' c 10 = vC N c 10 ∧ late (vC N' c) = late (vC N c) ∧ (vC N' c 5 = 5 ↔ vC N c 5 = 5))
    (hL : nL N') : RS s' N' := by
  obtain ⟨a1, a2, a3, a4, a5, a6, b1, b2, b3, b4, b5, b6, b7, b8, b9⟩ := h
  have S := b1
  obtain ⟨S0, S1, S2, S6, S7, S8, S9⟩ := b1
  have e6 := n 6 (by omega) (by omega); have e7 := n 7 (by omega) (by omega); have e8 := n 8 (by omega) (by omega); have e9 := n 9 (by omega) (by omega)
  have em : ∀ k, k < 20 → vM N' k = vM N k := fun k hk => by
    funext w
    unfold vM
    by_cases q : w < 4
    · rw [if_pos q, if_pos q, n _ (by omega) (by omega)]
    · rw [if_neg q, if_neg q]
  have hr : rd N' = rd N := rd_nu (n 5 (by omega) (by omega)) b2.2.1 (fun i _ b => n i (by omega) (by omega))
  have hro : rOK N' := rOK_nu (n 5 (by omega) (by omega)) (fun i _ b => n i (by omega) (by omega)) b2
  have hu : ∀ g, uw N' g = uw N g := fun g => by
    unfold uw
    rw [e7]
    refine sumN_eq _ (fun k hk => ?_)
    obtain ⟨_, _, x, y⟩ := hp k (by omega)
    by_cases z : vP N k 3 = 3 ∧ vP N k 13 = (g : Int)
    · rw [if_pos z, if_pos ⟨x.mpr z.1, by rw [y]; exact z.2⟩]
    · rw [if_neg z, if_neg (fun e => z ⟨x.mp e.1, by rw [← y]; exact e.2⟩)]
  have htc : ∀ c : Nat, (c : Int) < N 9 → tierC N' c = tierC N c := fun c hc' => by
    obtain ⟨_, _, x, _⟩ := hc c hc'
    have := (b6 c hc').1
    unfold tierC
    rw [x, n _ (by omega) (by omega)]
  have hpd : ∀ c : Nat, (c : Int) < N 9 → paid (tierC N' c) (vC N' c) = paid (tierC N c) (vC N c) := fun c hc' => by
    obtain ⟨_, _, _, x, _, y⟩ := hc c hc'
    rw [htc c hc']
    unfold paid
    rw [x]
    by_cases z : vC N c 5 = 5
    · rw [if_pos z, if_pos (y.mpr z)]
    · rw [if_neg z, if_neg (fun e => z (y.mp e))]
  refine ⟨hS, ?_, ?_, ?_, ?_, ?_, hn, hro, ?_, ?_, ?_, ?_, hL, ?_, ?_⟩
  · unfold mR
    rw [hr, s2, s3]
    exact a2
  · rw [e6, s4]
    intro k hk
    rw [em k (by omega)]
    exact a3 k hk
  · rw [e7]
    intro p hp'
    exact (hp p hp').1
  · rw [e8]
    intro g hg'
    rw [hu g]
    exact (hg g hg').2
  · rw [e9]
    intro c hc'
    exact (hc c hc').1
  · intro k hk
    rw [e6] at hk
    rw [em k (by omega)]
    exact b3 k hk
  · intro p hp'
    rw [e7] at hp'
    rw [e9, e8]
    exact (hp p hp').2.1
  · intro g hg'
    rw [e8] at hg'
    rw [hu g]
    obtain ⟨x0, x1, x2, x3⟩ := (hg g hg').1
    obtain ⟨y0, y1, y2, y3⟩ := b5 g hg'
    rw [x0, x1]
    exact ⟨y0, y1, x2, by omega⟩
  · intro c hc'
    rw [e9] at hc'
    rw [e6, e7, n0]
    exact (hc c hc').2.1
  · obtain ⟨u1, u2, u3, u4⟩ := b8
    refine ⟨?_, ?_, ?_, fun k hk => ?_⟩
    · rw [n 10 (by omega) (by omega), e9, u1]
      exact (sumN_eq _ (fun c hc' => hpd c (by omega))).symm
    · rw [n 11 (by omega) (by omega), e9, u2]
      exact (sumN_eq _ (fun c hc' => by rw [(hc c (by omega)).2.2.2.2.1])).symm
    · rw [n 12 (by omega) (by omega), e9, u3]
      exact (sumN_eq _ (fun c hc' => (hc c (by omega)).2.2.2.1)).symm
    · rw [e6] at hk
      obtain ⟨v1, v2, v3⟩ := u4 k hk
      rw [em k (by omega), e9]
      exact ⟨v1.trans (sumN_eq _ (fun c hc' => by rw [hpd c (by omega), (hc c (by omega)).2.2.1, (hc c (by omega)).2.2.2.2.1])).symm, v2.trans (sumN_eq _ (fun c hc' => by rw [(hc c (by omega)).2.2.1, (hc c (by omega)).2.2.2.1])).symm, v3.trans (sumN_eq _ (fun c hc' => by rw [(hc c (by omega)).2.2.1, (hc c (by omega)).2.2.2.2.1])).symm⟩
  · refine ⟨fun k hk h6 => ?_, fun p hp' h7 => ?_, fun g hg' h8 => ?_⟩
    · rw [e6] at h6
      rw [em k hk]
      exact b9.1 k hk h6
    · rw [e7] at h7
      rw [hpz p hp' h7]
      exact b9.2.1 p hp' h7
    · rw [e8] at h8
      rw [hgz g hg' h8]
      exact b9.2.2 g hg' h8
theorem wk_upd {s s' m m' : MI} (h : wk s m) (s2 : s' 2 = s 2) (s3 : s' 3 = s 3) (e6 : m' 6 = m 6) (e7 : m' 7 = m 7) (n : ∀ i, 5 ≤ i → i < 106 → m' 1 i = m 1 i) : wk s' m' := by
  obtain ⟨h1, h2, h3⟩ := h
  have hr : rd (m' 1) = rd (m 1) := rd_nu (n 5 (by omega) (by omega)) h3.2.1 (fun i _ b => n i (by omega) b)
  refine ⟨?_, ?_, rOK_nu (n 5 (by omega) (by omega)) (fun i _ b => n i (by omega) b) h3⟩
  · unfold mR
    rw [s2, s3, hr]
    exact h1
  · unfold wOK
    rw [hr, e6, e7]
    exact h2
theorem RS_p {s : MI} {N : Nat → Int} (h : RS s N) {p : Nat} (hp : (p : Int) < N 7) : pR (s (10 + p)) (vP N p) ∧ pI (N 9) (N 8) (vP N p) := by
  obtain ⟨a1, a2, a3, a4, a5, a6, b1, b2, b3, b4, b5, b6, b7, b8, b9⟩ := h
  exact ⟨a4 p hp, b4 p hp⟩
theorem RS_c {s : MI} {N : Nat → Int} (h : RS s N) {c : Nat} (hc : (c : Int) < N 9) : cR (s (21 + c)) (vC N c) ∧ cI (N 6) (N 7) (N 0) (vC N c) := by
  obtain ⟨a1, a2, a3, a4, a5, a6, b1, b2, b3, b4, b5, b6, b7, b8, b9⟩ := h
  exact ⟨a6 c hc, b6 c hc⟩
theorem RS_g {s : MI} {N : Nat → Int} (h : RS s N) {g : Nat} (hg : (g : Int) < N 8) : (s (16 + g) 0 = vG N g 0 ∧ s (16 + g) 1 = vG N g 1 ∧ s (16 + g) 2 = vG N g 2 ∧ s (16 + g) 3 = uw N g ∧ s (16 + g) 4 = vG N g 3) ∧ (0 ≤ vG N g 0 ∧ vG N g 0 < 12) ∧ (1 ≤ vG N g 1 ∧ vG N g 1 ≤ 9) ∧ 0 ≤ vG N g 2 ∧ vG N g 2 + uw N g ≤ vG N g 1 := by
  obtain ⟨a1, a2, a3, a4, a5, a6, b1, b2, b3, b4, b5, b6, b7, b8, b9⟩ := h
  exact ⟨a5 g hg, b5 g hg⟩
/-- nothing but a few of the numbers 1 to 4 changes -/
theorem RS_set {s s' : MI} {N N' : Nat → Int} (h : RS s N) (hS : sR s' N') (hn : nS N') (n : ∀ i, 5 ≤ i → N' i = N i) (n0 : N' 0 = N 0) (es : ∀ d, ¬ d = 0 → ¬ d = 8 → s' d = s d) : RS s' N' := by
  have ep : ∀ p, vP N' p = vP N p := fun p => by
    funext w
    unfold vP
    by_cases q : w < 14
    · rw [if_pos q, if_pos q, n _ (by omega)]
    · rw [if_neg q, if_neg q]
  have ec : ∀ p, vC N' p = vC N p := fun p => by
    funext w
    unfold vC
    by_cases q : w < 13
    · rw [if_pos q, if_pos q, n _ (by omega)]
    · rw [if_neg q, if_neg q]
  have eg : ∀ p, vG N' p = vG N p := fun p => by
    funext w
    unfold vG
    by_cases q : w < 4
    · rw [if_pos q, if_pos q, n _ (by omega)]
    · rw [if_neg q, if_neg q]
  have H := h
  obtain ⟨a1, a2, a3, a4, a5, a6, b1, b2, b3, b4, b5, b6, b7, b8, b9⟩ := H
  refine RS_upd h hS hn (fun i a _ => n i a) n0 (es 2 (by omega) (by omega)) (es 3 (by omega) (by omega)) (es 4 (by omega) (by omega)) (fun p hp => ?_) (fun p _ _ => ep p) (fun g hg => ?_) (fun g _ _ => eg g) (fun c hc => ?_) (nL_same (n 7 (by omega)) (n 9 (by omega)) (fun p _ => Or.inl (ep p)) (fun c _ => ec c) b4 b6 b7)
  · rw [ep p, es (10 + p) (by omega) (by omega)]
    exact ⟨a4 p hp, b4 p hp, Iff.rfl, rfl⟩
  · rw [eg g, es (16 + g) (by omega) (by omega)]
    exact ⟨⟨rfl, rfl, (b5 g hg).2.2.1, Int.le_refl _⟩, a5 g hg⟩
  · rw [ec c, es (21 + c) (by omega) (by omega)]
    exact ⟨a6 c hc, b6 c hc, rfl, rfl, rfl, Iff.rfl⟩
