/-! ===== who waits, and in which order ===== -/
theorem RS_d {s s' : MI} {N : Nat → Int} (h : RS s N) (e : ∀ d, ¬ d = 9 → s' d = s d) : RS s' N := by
  obtain ⟨a1, a2, a3, a4, a5, a6, b⟩ := h
  refine ⟨?_, ?_, ?_, ?_, ?_, ?_, b⟩
  · unfold sR
    rw [e 0 (by omega), e 8 (by omega), e 1 (by omega)]
    exact a1
  · unfold mR
    rw [e 2 (by omega), e 3 (by omega)]
    exact a2
  · rw [e 4 (by omega)]
    exact a3
  · intro p hp
    rw [e (10 + p) (by omega)]
    exact a4 p hp
  · intro g hg
    rw [e (16 + g) (by omega)]
    exact a5 g hg
  · intro c hc
    rw [e (21 + c) (by omega)]
    exact a6 c hc
theorem patrolOf_eq {s : MI} {N : Nat → Int} (h : RS s N) {c : Nat} (hc : (c : Int) < N 9) : fState_patrolOf (c : Int) s = some (vC N c 6) := by
  obtain ⟨a1, a2, a3, a4, a5, a6, b1, b2, b3, b4, b5, b6, b7, b8⟩ := h
  obtain ⟨S0, S1, S2, S6, S7, S8, S9⟩ := b1
  have n4 : s 0 4 = N 7 := a1.2.1
  have wc : sm_w (c : Int) = c := tw (by omega) (by omega)
  have A := it_find (f := fun t => fState_patrolOf_l2 (c : Int) t s) (n := (N 7).toNat) (P := fun p => vP N p 5 = (c : Int)) (by omega) (fun i hi => by
    have hR := (a4 i (by omega)).1.2.2.2.2.2.1
    have hp := b4 i (by omega)
    have p5 : -5 ≤ vP N i 5 ∧ vP N i 5 < 1000 := by
      obtain ⟨_, _, _, _, i5, _⟩ := hp
      rcases i5 with ⟨_, x, _⟩ | ⟨_, x, _⟩ <;> omega
    unfold fState_patrolOf_l2
    rw [tw (x := (i : Int)) (by omega) (by omega), n4, tw (x := N 7) (by omega) (by omega), if_neg (by omega), if_neg (by omega), if_pos (by omega), show ((i : Int)).toNat = i by omega, hR, wc, tw (x := vP N i 5) (by omega) (by omega)]
    by_cases q : vP N i 5 = (c : Int)
    · left
      exact ⟨q, by rw [if_pos q]⟩
    · right
      exact ⟨q, by rw [if_neg q]⟩) (by
    unfold fState_patrolOf_l2
    rw [tw (x := (((N 7).toNat : Nat) : Int)) (by omega) (by omega), n4, tw (x := N 7) (by omega) (by omega), if_pos (by omega)])
  have i6 : vC N c 6 = -5 ∨ 0 ≤ vC N c 6 ∧ vC N c 6 < N 7 := by
    obtain ⟨_, _, _, _, _, _, x⟩ := b6 c hc
    rcases x with x | x | x | x | x | x <;> omega
  unfold fState_patrolOf
  rcases A with ⟨e, no⟩ | ⟨k, hk, e, pk, _⟩
  · rw [e]
    rcases i6 with x | x
    · rw [x]
      rfl
    · exact absurd (b7.2 c hc x.1) (no (vC N c 6).toNat (by omega))
  · rw [e]
    have := (b7.1 k (by omega) (by omega)).1
    rw [pk, show ((c : Int)).toNat = c by omega] at this
    rw [this]
    rfl
def wt (N : Nat → Int) (c : Nat) : Int := if vC N c 5 = 0 ∨ vC N c 5 = 3 ∧ vC N c 6 = -5 then 1 else 0
theorem waits_eq {s m : MI} (h : RS s (m 1)) {c : Nat} (hc : (c : Int) < m 1 9) : fSending_waits (c : Int) s = some (wt (m 1) c) ∧ fModel_waits (c : Int) m = some (wt (m 1) c) := by
  have hp := patrolOf_eq h hc
  obtain ⟨a1, a2, a3, a4, a5, a6, b1, b2, b3, b4, b5, b6, b7, b8⟩ := h
  obtain ⟨S0, S1, S2, S6, S7, S8, S9⟩ := b1
  have n8 : s 0 8 = m 1 9 := a1.2.2.2.1
  have c40 : c < 40 := by omega
  have r5 : s (21 + c) 5 = vC (m 1) c 5 := (a6 c hc).1.2.2.2.2.2.1
  have i6 : (vC (m 1) c 6 = -5 ∨ 0 ≤ vC (m 1) c 6 ∧ vC (m 1) c 6 < m 1 7) ∧ 0 ≤ vC (m 1) c 5 ∧ vC (m 1) c 5 ≤ 7 := by
    obtain ⟨_, _, _, _, _, _, x⟩ := b6 c hc
    rcases x with x | x | x | x | x | x <;> omega
  have w5 : sm_w (vC (m 1) c 5) = vC (m 1) c 5 := tw (by omega) (by omega)
  have w6 : sm_w (vC (m 1) c 6) = vC (m 1) c 6 := tw (by omega) (by omega)
  unfold fSending_waits fSending_waits_j39 fModel_waits fModel_waits_j31 wt
  rw [isCall_1 (by rw [n8]; exact hc) (by rw [n8]; exact S9.2), Option.bind_some, w1, if_neg (by omega), tw (x := (c : Int)) (by omega) (by omega), if_pos (by omega), show ((c : Int)).toNat = c by omega, r5, w5, hp, Option.bind_some, w6]
  rw [ofCall_5 c40, Option.bind_some, w5, Option.bind_some, w5, ofCall_6 c40, Option.bind_some, w6]
  by_cases x : vC (m 1) c 5 = 0
  · rw [if_pos x, if_pos (Or.inl x)]
    exact ⟨rfl, rfl⟩
  · rw [if_neg x]
    by_cases y : vC (m 1) c 5 = 3
    · rw [if_pos y]
      by_cases z : vC (m 1) c 6 = -5
      · rw [if_pos z, if_pos (Or.inr ⟨y, z⟩)]
        exact ⟨rfl, rfl⟩
      · rw [if_neg z, if_neg (by omega)]
        exact ⟨rfl, rfl⟩
    · rw [if_neg y, if_neg (by omega)]
      exact ⟨rfl, rfl⟩
theorem ahead_eq {s m : MI} (h : RS s (m 1)) {c o : Nat} (hc : (c : Int) < m 1 9) (ho : o < c) : ∃ v : Int, (v = 0 ∨ v = 1) ∧ fSending_isAheadOf (c : Int) (o : Int) s = some v ∧ fModel_isAhead (c : Int) (o : Int) m = some v := by
  obtain ⟨a1, a2, a3, a4, a5, a6, b1, b2, b3, b4, b5, b6, b7, b8⟩ := h
  obtain ⟨S0, S1, S2, S6, S7, S8, S9⟩ := b1
  have n8 : s 0 8 = m 1 9 := a1.2.2.2.1
  have n2 : s 0 2 = m 1 6 := a1.1
  have c40 : c < 40 := by omega
  have o40 : o < 40 := by omega
  have key : ∀ k : Nat, (k : Int) < m 1 9 → k < 40 → (∃ t : Nat, vC (m 1) k 0 = (t : Int) ∧ t < 20 ∧ fState_tierOf (s (21 + k) 0) s = some (vM (m 1) t 0) ∧ 0 ≤ vM (m 1) t 0 ∧ vM (m 1) t 0 ≤ 2) ∧ fBreakdown_due (sm_lo (21 + k) s) = some (vC (m 1) k 4 + vC (m 1) k 3) ∧ fModel_rest (k : Int) m = some (vC (m 1) k 3 - (m 1 0 - vC (m 1) k 4)) ∧ (10 ≤ vC (m 1) k 3 ∧ vC (m 1) k 3 ≤ 290) ∧ 0 ≤ vC (m 1) k 4 ∧ vC (m 1) k 4 ≤ 2880 := fun k hk hk40 => by
    have hC := a6 k hk
    obtain ⟨i0, i1, i2, i3, i4, i10, iS⟩ := b6 k hk
    refine ⟨⟨(vC (m 1) k 0).toNat, by omega, by omega, ?_, b3 _ (by omega)⟩, ?_, ?_, i3, by omega⟩
    · unfold fState_tierOf fState_isMember
      rw [hC.1.1, n2, tw (x := vC (m 1) k 0) (by omega) (by omega), tw (x := m 1 6) (by omega) (by omega), if_neg (by omega), if_neg (by omega)]
      rw [if_neg (by omega), Option.bind_some, w1, if_neg (by omega), if_pos (by omega), a3 _ (by omega)]
    · unfold fBreakdown_due
      rw [lo_at, lo_at, Nat.add_zero, hC.1.2.2.2.2.1, hC.1.2.2.2.1]
    · unfold fModel_rest
      rw [ofCall_3 hk40, Option.bind_some, ofCall_4 hk40, Option.bind_some]
  obtain ⟨⟨t1, t1e, t1b, e1, g1⟩, d1, q1, x1, y1⟩ := key c hc c40
  obtain ⟨⟨t2, t2e, t2b, e2, g2⟩, d2', q2, x2, y2⟩ := key o (by omega) o40
  have wc : sm_w (c : Int) = c := tw (by omega) (by omega)
  have wo : sm_w (o : Int) = o := tw (by omega) (by omega)
  have wm1 : sm_w (vM (m 1) t1 0) = vM (m 1) t1 0 := tw (by omega) (by omega)
  have wm2 : sm_w (vM (m 1) t2 0) = vM (m 1) t2 0 := tw (by omega) (by omega)
  refine ⟨if vC (m 1) c 4 + vC (m 1) c 3 < vC (m 1) o 4 + vC (m 1) o 3 ∨ vC (m 1) c 4 + vC (m 1) c 3 = vC (m 1) o 4 + vC (m 1) o 3 ∧ vM (m 1) t2 0 < vM (m 1) t1 0 then 1 else 0, by split <;> omega, ?_, ?_⟩
  · unfold fSending_isAheadOf
    rw [isCall_1 (by rw [n8]; exact hc) (by rw [n8]; exact S9.2), Option.bind_some, w1, if_neg (by omega), isCall_1 (c := o) (by rw [n8]; omega) (by rw [n8]; exact S9.2), Option.bind_some, w1, if_neg (by omega), wc, if_pos (by omega), wo, if_pos (by omega), show ((c : Int)).toNat = c by omega, show ((o : Int)).toNat = o by omega, d1, Option.bind_some, d2', Option.bind_some, tw (x := vC (m 1) c 4 + vC (m 1) c 3) (by omega) (by omega), tw (x := vC (m 1) o 4 + vC (m 1) o 3) (by omega) (by omega)]
    by_cases z : vC (m 1) c 4 + vC (m 1) c 3 = vC (m 1) o 4 + vC (m 1) o 3
    · rw [if_pos z, e1, Option.bind_some, e2, Option.bind_some, wm1, wm2]
      by_cases y : vM (m 1) t2 0 < vM (m 1) t1 0
      · rw [if_neg (by omega), if_pos (Or.inr ⟨z, y⟩)]
      · rw [if_pos (by omega), if_neg (by omega)]
    · rw [if_neg z, Option.bind_some, Option.bind_some, tw (x := vC (m 1) c 4 + vC (m 1) c 3) (by omega) (by omega), tw (x := vC (m 1) o 4 + vC (m 1) o 3) (by omega) (by omega)]
      by_cases y : vC (m 1) c 4 + vC (m 1) c 3 < vC (m 1) o 4 + vC (m 1) o 3
      · rw [if_neg (by omega), if_pos (Or.inl y)]
      · rw [if_pos (by omega), if_neg (by omega)]
  · unfold fModel_isAhead
    rw [q1, Option.bind_some, q2, Option.bind_some, tw (x := vC (m 1) c 3 - (m 1 0 - vC (m 1) c 4)) (by omega) (by omega), tw (x := vC (m 1) o 3 - (m 1 0 - vC (m 1) o 4)) (by omega) (by omega)]
    by_cases z : vC (m 1) c 4 + vC (m 1) c 3 = vC (m 1) o 4 + vC (m 1) o 3
    · rw [if_pos (by omega), ofCall_0 c40, Option.bind_some, t1e, ofMember_0 t1b, Option.bind_some, ofCall_0 o40, Option.bind_some, t2e, ofMember_0 t2b, Option.bind_some, wm1, wm2, wc, wo]
      by_cases x : vM (m 1) t1 0 = vM (m 1) t2 0
      · rw [if_pos x, if_pos (by omega), if_neg (by omega)]
      · rw [if_neg x]
        by_cases y : vM (m 1) t2 0 < vM (m 1) t1 0
        · rw [if_neg (by omega), if_pos (Or.inr ⟨z, y⟩)]
        · rw [if_pos (by omega), if_neg (by omega)]
    · rw [if_neg (by omega), Option.bind_some, Option.bind_some, tw (x := vC (m 1) c 3 - (m 1 0 - vC (m 1) c 4)) (by omega) (by omega), tw (x := vC (m 1) o 3 - (m 1 0 - vC (m 1) o 4)) (by omega) (by omega)]
      by_cases y : vC (m 1) c 4 + vC (m 1) c 3 < vC (m 1) o 4 + vC (m 1) o 3
      · rw [if_neg (by omega), if_pos (Or.inl y)]
      · rw [if_pos (by omega), if_neg (by omega)]
