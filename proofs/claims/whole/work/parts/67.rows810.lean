/-! ===== only 810 numbers of a row count ===== -/
theorem RS_row {s : MI} {N N' : Nat → Int} (h : RS s N) (e : ∀ i, i < 810 → N' i = N i) : RS s N' := by
  obtain ⟨a1, a2, a3, a4, a5, a6, b1, b2, b3, b4, b5, b6, b7, b8, b9⟩ := h
  have S := b1
  obtain ⟨S0, S1, S2, S6, S7, S8, S9⟩ := b1
  have ep : ∀ p, p < 6 → vP N' p = vP N p := fun p hp => by
    funext w
    unfold vP
    by_cases q : w < 14
    · rw [if_pos q, if_pos q, e _ (by omega)]
    · rw [if_neg q, if_neg q]
  have ec : ∀ p, p < 40 → vC N' p = vC N p := fun p hp => by
    funext w
    unfold vC
    by_cases q : w < 13
    · rw [if_pos q, if_pos q, e _ (by omega)]
    · rw [if_neg q, if_neg q]
  have eg : ∀ p, p < 5 → vG N' p = vG N p := fun p hp => by
    funext w
    unfold vG
    by_cases q : w < 4
    · rw [if_pos q, if_pos q, e _ (by omega)]
    · rw [if_neg q, if_neg q]
  have em : ∀ p, p < 20 → vM N' p = vM N p := fun p hp => by
    funext w
    unfold vM
    by_cases q : w < 4
    · rw [if_pos q, if_pos q, e _ (by omega)]
    · rw [if_neg q, if_neg q]
  have hr : rd N' = rd N := rd_nu (e 5 (by omega)) b2.2.1 (fun i _ b => e i (by omega))
  have hro : rOK N' := rOK_nu (e 5 (by omega)) (fun i _ b => e i (by omega)) b2
  have hu : ∀ g, uw N' g = uw N g := uw_same (e 7 (by omega)) S7.2 (fun p hp => by rw [ep p hp]; exact ⟨rfl, rfl⟩)
  have htc : ∀ c : Nat, (c : Int) < N 9 → tierC N' c = tierC N c := fun c hc => by
    have := (b6 c hc).1
    unfold tierC
    rw [ec c (by omega), e _ (by omega)]
  refine ⟨?_, ?_, ?_, ?_, ?_, ?_, ?_, hro, ?_, ?_, ?_, ?_, ?_, ?_, ?_⟩
  · unfold sR
    rw [e 0 (by omega), e 1 (by omega), e 2 (by omega), e 3 (by omega), e 4 (by omega), e 5 (by omega), e 6 (by omega), e 7 (by omega), e 8 (by omega), e 9 (by omega)]
    exact a1
  · unfold mR
    rw [hr]
    exact a2
  · rw [e 6 (by omega)]
    intro k hk
    rw [em k (by omega)]
    exact a3 k hk
  · rw [e 7 (by omega)]
    intro p hp
    rw [ep p (by omega)]
    exact a4 p hp
  · rw [e 8 (by omega)]
    intro g hg
    rw [eg g (by omega), hu g]
    exact a5 g hg
  · rw [e 9 (by omega)]
    intro c hc
    rw [ec c (by omega)]
    exact a6 c hc
  · unfold nS
    rw [e 0 (by omega), e 1 (by omega), e 2 (by omega), e 3 (by omega), e 4 (by omega), e 6 (by omega), e 7 (by omega), e 8 (by omega), e 9 (by omega)]
    exact S
  · intro k hk
    rw [e 6 (by omega)] at hk
    rw [em k (by omega)]
    exact b3 k hk
  · intro p hp
    rw [e 7 (by omega)] at hp
    rw [e 9 (by omega), e 8 (by omega), ep p (by omega)]
    exact b4 p hp
  · intro g hg
    rw [e 8 (by omega)] at hg
    rw [eg g (by omega), hu g]
    exact b5 g hg
  · intro c hc
    rw [e 9 (by omega)] at hc
    rw [e 6 (by omega), e 7 (by omega), e 0 (by omega), ec c (by omega)]
    exact b6 c hc
  · constructor
    · intro p hp h5
      rw [e 7 (by omega)] at hp
      rw [ep p (by omega)] at h5 ⊢
      have hb : (vP N p 5).toNat < 40 := by
        obtain ⟨_, _, _, _, i5, _⟩ := b4 p hp
        rcases i5 with ⟨_, i5, _⟩ | ⟨_, i5, _⟩ <;> omega
      rw [ec _ hb]
      exact b7.1 p hp h5
    · intro c hc h6
      rw [e 9 (by omega)] at hc
      rw [ec c (by omega)] at h6 ⊢
      have hb : (vC N c 6).toNat < 6 := by
        obtain ⟨_, _, _, _, _, _, i5⟩ := b6 c hc
        rcases i5 with i | i | i | i | i | i <;> omega
      rw [ep _ hb]
      exact b7.2 c hc h6
  · obtain ⟨u1, u2, u3, u4⟩ := b8
    refine ⟨?_, ?_, ?_, fun k hk => ?_⟩
    · rw [e 10 (by omega), e 9 (by omega), u1]
      exact (sumN_eq _ (fun c hc => by rw [htc c (by omega), ec c (by omega)])).symm
    · rw [e 11 (by omega), e 9 (by omega), u2]
      exact (sumN_eq _ (fun c hc => by rw [ec c (by omega)])).symm
    · rw [e 12 (by omega), e 9 (by omega), u3]
      exact (sumN_eq _ (fun c hc => by rw [ec c (by omega)])).symm
    · rw [e 6 (by omega)] at hk
      obtain ⟨v1, v2, v3⟩ := u4 k hk
      rw [em k (by omega), e 9 (by omega)]
      exact ⟨v1.trans (sumN_eq _ (fun c hc => by rw [htc c (by omega), ec c (by omega)])).symm, v2.trans (sumN_eq _ (fun c hc => by rw [ec c (by omega)])).symm, v3.trans (sumN_eq _ (fun c hc => by rw [ec c (by omega)])).symm⟩
  · refine ⟨fun k hk h6 => ?_, fun p hp h7 => ?_, fun g hg h8 => ?_⟩
    · rw [e 6 (by omega)] at h6
      rw [em k hk]
      exact b9.1 k hk h6
    · rw [e 7 (by omega)] at h7
      rw [ep p hp]
      exact b9.2.1 p hp h7
    · rw [e 8 (by omega)] at h8
      rw [eg g hg]
      exact b9.2.2 g hg h8
