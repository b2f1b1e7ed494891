/-! ===== what stands against a call ===== -/
theorem find_same {Y : Type} {f g : Int → Option (Int ⊕ (Unit ⊕ Int))} {n : Nat} {P : Nat → Prop} (hn : n ≤ 1000)
    (hf : ∀ i : Nat, i < n → (P i ∧ f (i : Int) = some (.inr (.inr (i : Int)))) ∨ (¬ P i ∧ f (i : Int) = some (.inl ((i : Int) + 1)))) (hf' : f (n : Int) = some (.inr (.inl ())))
    (hg : ∀ i : Nat, i < n → (P i ∧ g (i : Int) = some (.inr (.inr (i : Int)))) ∨ (¬ P i ∧ g (i : Int) = some (.inl ((i : Int) + 1)))) (hg' : g (n : Int) = some (.inr (.inl ()))) :
    ∃ y : Unit ⊕ Int, sl_it f sl_fu 0 = some y ∧ sl_it g sl_fu 0 = some y ∧ ((y = .inl () ∧ ∀ i, i < n → ¬ P i) ∨ ∃ k : Nat, k < n ∧ y = .inr (k : Int) ∧ P k) := by
  rcases it_find hn hf hf' with ⟨a1, a2⟩ | ⟨k, a1, a2, a3, a4⟩ <;> rcases it_find hn hg hg' with ⟨b1, b2⟩ | ⟨j, b1, b2, b3, b4⟩
  · exact ⟨_, a1, b1, Or.inl ⟨rfl, a2⟩⟩
  · exact absurd b3 (a2 j b1)
  · exact absurd a3 (b2 k a1)
  · have e : j = k := by
      rcases Nat.lt_trichotomy j k with x | x | x
      · exact absurd b3 (a4 j x)
      · exact x
      · exact absurd a3 (b4 k x)
    rw [e] at b2
    exact ⟨_, a2, b2, Or.inr ⟨k, a1, rfl, a3⟩⟩
theorem isOpen_c {s : MI} {D : Nat} (h : 0 ≤ s D 5 ∧ s D 5 ≤ 7) : fBreakdown_isOpen (sm_lo D s) = some (if 4 < s D 5 then 0 else 1) := by
  unfold fBreakdown_isOpen
  rw [lo_at, Nat.add_zero, tw (x := s D 5) (by omega) (by omega)]
  by_cases a : 4 < s D 5
  · rw [if_pos a, if_pos a]
  · rw [if_neg a, if_neg a]
theorem md_lt {n i : Nat} (h : i ≤ n) (q : ¬ i = n) : ((n : Int) - ((i : Int) + 1)).toNat < ((n : Int) - (i : Int)).toNat := by omega
theorem open_eq {s m : MI} (h : RS s (m 1)) {z : Int} (hz : i32 z) : ∃ v, fState_openCallOf z s = some v ∧ fModel_openOf z m = some v ∧ -5 ≤ v ∧ v < 40 := by
  have H := h
  obtain ⟨a1, a2, a3, a4, a5, a6, b1, b2, b3, b4, b5, b6, b7, b8⟩ := H
  obtain ⟨S0, S1, S2, S6, S7, S8, S9⟩ := b1
  have n8 : s 0 8 = m 1 9 := a1.2.2.2.1
  have bd : ∀ i : Nat, (i : Int) < m 1 9 → (0 ≤ vC (m 1) i 0 ∧ vC (m 1) i 0 ≤ 20) ∧ 0 ≤ vC (m 1) i 5 ∧ vC (m 1) i 5 ≤ 7 := fun i hi => by
    have x := (b6 i hi).1
    have y := (k_c8 (b6 i hi) S7.2).2.1
    omega
  obtain ⟨y, e1, e2, hy⟩ := find_same (Y := Int) (f := fun t => fState_openCallOf_l2 z t s) (g := fun t => fModel_openOf_l2 z t m) (n := (m 1 9).toNat) (P := fun i => vC (m 1) i 0 = z ∧ vC (m 1) i 5 ≤ 4) (by omega) (fun i hi => by
    obtain ⟨x0, x5⟩ := bd i (by omega)
    have r0 : s (21 + i) 0 = vC (m 1) i 0 := (a6 i (by omega)).1.1
    have r5 : s (21 + i) 5 = vC (m 1) i 5 := (a6 i (by omega)).1.2.2.2.2.2.1
    unfold fState_openCallOf_l2 fState_openCallOf_j43_l2
    rw [tw (x := (i : Int)) (by omega) (by omega), n8, tw (x := m 1 9) (by omega) (by omega), if_neg (show ¬ m 1 9 ≤ (i : Int) by omega), if_neg (show ¬ (40 : Int) ≤ (i : Int) by omega), if_pos (show (0 : Int) ≤ (i : Int) ∧ (i : Int) < 40 by omega), show ((i : Int)).toNat = i by omega, r0, tw (x := vC (m 1) i 0) (by omega) (by omega), tw hz.1 hz.2, isOpen_c (by rw [r5]; exact x5), Option.bind_some, r5]
    by_cases a : vC (m 1) i 0 = z
    · rw [if_pos a]
      by_cases b : 4 < vC (m 1) i 5
      · rw [if_pos b, w0, if_pos rfl]
        exact Or.inr ⟨fun e => by omega, rfl⟩
      · rw [if_neg b, w1, if_neg n10]
        exact Or.inl ⟨⟨a, by omega⟩, rfl⟩
    · rw [if_neg a]
      exact Or.inr ⟨fun e => a e.1, rfl⟩) (by
    unfold fState_openCallOf_l2
    rw [tw (x := (((m 1 9).toNat : Nat) : Int)) (by omega) (by omega), n8, tw (x := m 1 9) (by omega) (by omega), if_pos (by omega)]) (fun i hi => by
    obtain ⟨x0, x5⟩ := bd i (by omega)
    unfold fModel_openOf_l2 fModel_openOf_j35_l2
    rw [tw (x := (i : Int)) (by omega) (by omega), tw (x := m 1 9) (by omega) (by omega), if_neg (show ¬ m 1 9 ≤ (i : Int) by omega), ofCall_0 (by omega), Option.bind_some, tw (x := vC (m 1) i 0) (by omega) (by omega), tw hz.1 hz.2, ofCall_5 (by omega), Option.bind_some, tw (x := vC (m 1) i 5) (by omega) (by omega)]
    by_cases a : vC (m 1) i 0 = z
    · rw [if_pos a]
      by_cases b : 5 ≤ vC (m 1) i 5
      · rw [if_pos b]
        exact Or.inr ⟨fun e => by omega, rfl⟩
      · rw [if_neg b]
        exact Or.inl ⟨⟨a, by omega⟩, rfl⟩
    · rw [if_neg a]
      exact Or.inr ⟨fun e => a e.1, rfl⟩) (by
    unfold fModel_openOf_l2
    rw [tw (x := (((m 1 9).toNat : Nat) : Int)) (by omega) (by omega), tw (x := m 1 9) (by omega) (by omega), if_pos (by omega)])
  unfold fState_openCallOf fModel_openOf
  rw [e1, e2, Option.bind_some]
  rcases hy with ⟨rfl, _⟩ | ⟨k, k1, rfl, _⟩
  · exact ⟨-5, rfl, rfl, by omega, by omega⟩
  · exact ⟨(k : Int), rfl, rfl, by omega, by omega⟩
theorem against_eq {s m : MI} (h : RS s (m 1)) {x y z : Int} (hx : i32 x) (hy : i32 y) (hz : i32 z) : ∃ v, fState_refusal x y z s = some v ∧ fModel_against x y z m = some v ∧ (-4 ≤ v ∧ v ≤ 0) ∧
    (v = 0 → (0 ≤ x ∧ x < m 1 6) ∧ (0 ≤ y ∧ y < 12) ∧ (1 ≤ z ∧ z ≤ 12) ∧ m 1 9 < 40) := by
  have H := h
  obtain ⟨a1, a2, a3, a4, a5, a6, b1, b2, b3, b4, b5, b6, b7, b8⟩ := H
  obtain ⟨S0, S1, S2, S6, S7, S8, S9⟩ := b1
  have n8 : s 0 8 = m 1 9 := a1.2.2.2.1
  unfold fState_refusal fModel_against
  rw [isMember_c hx a1.1 S6, isMember_m hx S6, Option.bind_some, Option.bind_some, ix_w]
  by_cases p : 0 ≤ x ∧ x < m 1 6
  · rw [if_neg (ix_y p), if_neg (ix_y p), isArea_c hy, isArea_m hy, Option.bind_some, Option.bind_some, ix_w]
    by_cases q : 0 ≤ y ∧ y < 12
    · rw [if_neg (ix_y q), if_neg (ix_y q), in_eq hz (by unfold i32; omega) (by unfold i32; omega), Option.bind_some, tw hz.1 hz.2]
      by_cases r : 1 ≤ z ∧ z ≤ 12
      · obtain ⟨v, v1, v2, v3, v4⟩ := open_eq h hx
        rw [if_neg (show ¬ z < 1 by omega), if_pos (show z ≤ 12 from r.2), if_pos r, w1, if_neg n10, v1, v2, Option.bind_some, Option.bind_some, tw (x := v) (by omega) (by omega), n8, tw (x := m 1 9) (by omega) (by omega)]
        by_cases u : v = -5
        · rw [if_pos u, if_pos u]
          by_cases w : m 1 9 < 40
          · rw [if_pos w, if_neg (show ¬ m 1 9 = 40 by omega)]
            exact ⟨_, rfl, rfl, by omega, fun _ => ⟨p, q, r, w⟩⟩
          · rw [if_neg w, if_pos (show m 1 9 = 40 by omega)]
            exact ⟨_, rfl, rfl, by omega, fun e => absurd e (by omega)⟩
        · rw [if_neg u, if_neg u]
          exact ⟨_, rfl, rfl, by omega, fun e => absurd e (by omega)⟩
      · rw [if_neg r, w0, if_pos rfl]
        by_cases u : z < 1
        · rw [if_pos u]
          exact ⟨_, rfl, rfl, by omega, fun e => absurd e (by omega)⟩
        · rw [if_neg u, if_neg (by omega)]
          exact ⟨_, rfl, rfl, by omega, fun e => absurd e (by omega)⟩
    · rw [if_pos (ix_n q), if_pos (ix_n q)]
      exact ⟨_, rfl, rfl, by omega, fun e => absurd e (by omega)⟩
  · rw [if_pos (ix_n p), if_pos (ix_n p)]
    exact ⟨_, rfl, rfl, by omega, fun e => absurd e (by omega)⟩
/-- the latest repaired call of a member -/
theorem last_eq {s m : MI} (h : RS s (m 1)) {z y w : Int} (hz : i32 z) : ∃ L : Int, sl_it (fun (t : Int × Int) => fModel_comes_l16 z y w (m 1 9) t.1 t.2 m) sl_fu (-5, 0) = some L ∧
    ((L = -5 ∧ fState_repairedBefore z s = some (-5)) ∨ ∃ k : Nat, L = (k : Int) ∧ (k : Int) < m 1 9 ∧ vC (m 1) k 5 = 5 ∧ fState_repairedBefore z s = some (if 120 < m 1 0 - vC (m 1) k 9 then -5 else (k : Int))) := by
  have H := h
  obtain ⟨a1, a2, a3, a4, a5, a6, b1, b2, b3, b4, b5, b6, b7, b8⟩ := H
  obtain ⟨S0, S1, S2, S6, S7, S8, S9⟩ := b1
  have n8 : s 0 8 = m 1 9 := a1.2.2.2.1
  have n11 : s 0 11 = m 1 0 := a1.2.2.2.2.2.1
  have bd : ∀ i : Nat, (i : Int) < m 1 9 → (0 ≤ vC (m 1) i 0 ∧ vC (m 1) i 0 ≤ 20) ∧ (0 ≤ vC (m 1) i 5 ∧ vC (m 1) i 5 ≤ 7) ∧ -5 ≤ vC (m 1) i 9 ∧ vC (m 1) i 9 ≤ 2880 := fun i hi => by
    have x := (b6 i hi).1
    have y := (k_c8 (b6 i hi) S7.2).2.1
    have g := (b6 i hi).2.2.2.2.2.2
    unfold cS at g
    omega
  obtain ⟨n, hn⟩ : ∃ n : Nat, m 1 9 = (n : Int) := ⟨(m 1 9).toNat, by omega⟩
  have wn : sm_w (n : Int) = n := tw (by omega) (by omega)
  obtain ⟨L, eL, hL⟩ := it_inv (f := fun (t : Int × Int) => fModel_comes_l16 z y w (m 1 9) t.1 t.2 m)
    (fun t => ∃ i : Nat, t.2 = (i : Int) ∧ i ≤ n ∧ ((t.1 = -5 ∧ ∀ j, j < i → ¬ (vC (m 1) j 0 = z ∧ vC (m 1) j 5 = 5)) ∨ ∃ k : Nat, k < i ∧ t.1 = (k : Int) ∧ (vC (m 1) k 0 = z ∧ vC (m 1) k 5 = 5) ∧ ∀ j, k < j → j < i → ¬ (vC (m 1) j 0 = z ∧ vC (m 1) j 5 = 5)))
    (fun t => (t = -5 ∧ ∀ j, j < n → ¬ (vC (m 1) j 0 = z ∧ vC (m 1) j 5 = 5)) ∨ ∃ k : Nat, k < n ∧ t = (k : Int) ∧ (vC (m 1) k 0 = z ∧ vC (m 1) k 5 = 5) ∧ ∀ j, k < j → j < n → ¬ (vC (m 1) j 0 = z ∧ vC (m 1) j 5 = 5)) (fun t => (n - t.2).toNat) (fun t ⟨i, e, hi, hk⟩ => by
    obtain ⟨l, i'⟩ := t
    dsimp only at e hk ⊢
    subst e
    have wi : sm_w (i : Int) = i := tw (by omega) (by omega)
    unfold fModel_comes_l16 fModel_comes_j50_l16 fModel_comes_j52_l16
    rw [hn, wn, wi]
    by_cases q : i = n
    · right
      subst q
      exact ⟨l, by rw [if_pos (by omega)], hk⟩
    · left
      obtain ⟨x0, x5, _⟩ := bd i (by omega)
      rw [if_neg (show ¬ (n : Int) ≤ (i : Int) by omega), ofCall_0 (by omega), Option.bind_some, tw (x := vC (m 1) i 0) (by omega) (by omega), tw hz.1 hz.2, ofCall_5 (by omega), Option.bind_some, tw (x := vC (m 1) i 5) (by omega) (by omega)]
      have no : ¬ (vC (m 1) i 0 = z ∧ vC (m 1) i 5 = 5) → ∃ i' : Nat, (i : Int) + 1 = (i' : Int) ∧ i' ≤ n ∧ ((l = -5 ∧ ∀ j, j < i' → ¬ (vC (m 1) j 0 = z ∧ vC (m 1) j 5 = 5)) ∨ ∃ k : Nat, k < i' ∧ l = (k : Int) ∧ (vC (m 1) k 0 = z ∧ vC (m 1) k 5 = 5) ∧ ∀ j, k < j → j < i' → ¬ (vC (m 1) j 0 = z ∧ vC (m 1) j 5 = 5)) := fun hno => by
        refine ⟨i + 1, by push_cast; rfl, by omega, ?_⟩
        rcases hk with ⟨u1, u2⟩ | ⟨k, u1, u2, u3, u4⟩
        · refine Or.inl ⟨u1, fun j hj => ?_⟩
          by_cases v : j = i
          · rw [v]; exact hno
          · exact u2 j (by omega)
        · refine Or.inr ⟨k, by omega, u2, u3, fun j hj hj' => ?_⟩
          by_cases v : j = i
          · rw [v]; exact hno
          · exact u4 j hj (by omega)
      by_cases a : vC (m 1) i 0 = z
      · rw [if_pos a]
        by_cases b : vC (m 1) i 5 = 5
        · rw [if_pos b]
          exact ⟨_, rfl, ⟨i + 1, by push_cast; rfl, by omega, Or.inr ⟨i, by omega, rfl, ⟨a, b⟩, fun j hj hj' => absurd hj (by omega)⟩⟩, md_lt hi q⟩
        · rw [if_neg b]
          exact ⟨_, rfl, no (fun e => b e.2), md_lt hi q⟩
      · rw [if_neg a]
        exact ⟨_, rfl, no (fun e => a e.1), md_lt hi q⟩) sl_fu (-5, 0) ⟨0, rfl, by omega, Or.inl ⟨rfl, fun j hj => absurd hj (by omega)⟩⟩ (by show ((n : Int) - 0).toNat < 5000; omega)
  refine ⟨L, eL, ?_⟩
  have C : ∃ y : Unit ⊕ Int, sl_it (fun (t : Int) => fState_repairedBefore_l7 z t s) sl_fu ((s 0 8) - 1) = some y ∧
      ((y = .inl () ∧ ∀ j, j < n → ¬ (vC (m 1) j 0 = z ∧ vC (m 1) j 5 = 5)) ∨ ∃ k : Nat, k < n ∧ (vC (m 1) k 0 = z ∧ vC (m 1) k 5 = 5) ∧ (∀ j, k < j → j < n → ¬ (vC (m 1) j 0 = z ∧ vC (m 1) j 5 = 5)) ∧ y = .inr (if 120 < m 1 0 - vC (m 1) k 9 then -5 else (k : Int))) := by
    refine it_inv (f := fun (t : Int) => fState_repairedBefore_l7 z t s) (fun t => ∃ i : Nat, t = (i : Int) - 1 ∧ i ≤ n ∧ ∀ j, i ≤ j → j < n → ¬ (vC (m 1) j 0 = z ∧ vC (m 1) j 5 = 5))
      (fun y => (y = .inl () ∧ ∀ j, j < n → ¬ (vC (m 1) j 0 = z ∧ vC (m 1) j 5 = 5)) ∨ ∃ k : Nat, k < n ∧ (vC (m 1) k 0 = z ∧ vC (m 1) k 5 = 5) ∧ (∀ j, k < j → j < n → ¬ (vC (m 1) j 0 = z ∧ vC (m 1) j 5 = 5)) ∧ y = .inr (if 120 < m 1 0 - vC (m 1) k 9 then -5 else (k : Int))) (fun t => (t + 1).toNat) (fun t ⟨i, e, hi, hk⟩ => ?_) sl_fu ((s 0 8) - 1) ⟨n, by rw [n8, hn], by omega, fun j hj hj' => absurd hj (by omega)⟩ (by show ((s 0 8) - 1 + 1).toNat < 5000; omega)
    subst e
    unfold fState_repairedBefore_l7 fState_repairedBefore_j69_l7
    rw [tw (x := (i : Int) - 1) (by omega) (by omega)]
    by_cases q : i = 0
    · right
      refine ⟨.inl (), by rw [if_pos (show (i : Int) - 1 < 0 by omega)], Or.inl ⟨rfl, fun j hj => hk j (by omega) hj⟩⟩
    · obtain ⟨k, rfl⟩ : ∃ k, i = k + 1 := ⟨i - 1, by omega⟩
      have ek : ((k + 1 : Nat) : Int) - 1 = (k : Int) := by omega
      rw [ek]
      obtain ⟨x0, x5, x9⟩ := bd k (by omega)
      have r0 : s (21 + k) 0 = vC (m 1) k 0 := (a6 k (by omega)).1.1
      have r5 : s (21 + k) 5 = vC (m 1) k 5 := (a6 k (by omega)).1.2.2.2.2.2.1
      have r8 : s (21 + k) 8 = vC (m 1) k 9 := (a6 k (by omega)).2.2.2.1
      rw [if_neg (show ¬ (k : Int) < 0 by omega), if_neg (show ¬ (40 : Int) ≤ (k : Int) by omega), if_pos (show (0 : Int) ≤ (k : Int) ∧ (k : Int) < 40 by omega), show ((k : Int)).toNat = k by omega, r0, r5, r8, n11, tw (x := vC (m 1) k 0) (by omega) (by omega), tw hz.1 hz.2, tw (x := vC (m 1) k 5) (by omega) (by omega), tw (x := m 1 0 - vC (m 1) k 9) (by omega) (by omega)]
      have no : ¬ (vC (m 1) k 0 = z ∧ vC (m 1) k 5 = 5) → ∃ i : Nat, (k : Int) + -1 = (i : Int) - 1 ∧ i ≤ n ∧ ∀ j, i ≤ j → j < n → ¬ (vC (m 1) j 0 = z ∧ vC (m 1) j 5 = 5) := fun hno => by
        refine ⟨k, by omega, by omega, fun j hj hj' => ?_⟩
        by_cases v : j = k
        · rw [v]; exact hno
        · exact hk j (by omega) hj'
      by_cases a : vC (m 1) k 0 = z
      · rw [if_pos a]
        by_cases b : vC (m 1) k 5 = 5
        · rw [if_pos b]
          right
          by_cases c : 120 < m 1 0 - vC (m 1) k 9
          · rw [if_pos c]
            exact ⟨_, rfl, Or.inr ⟨k, by omega, ⟨a, b⟩, fun j hj hj' => hk j (by omega) hj', by rw [if_pos c]⟩⟩
          · rw [if_neg c]
            exact ⟨_, rfl, Or.inr ⟨k, by omega, ⟨a, b⟩, fun j hj hj' => hk j (by omega) hj', by rw [if_neg c]⟩⟩
        · rw [if_neg b]
          left
          exact ⟨_, rfl, no (fun e => b e.2), by omega⟩
      · rw [if_neg a]
        left
        exact ⟨_, rfl, no (fun e => a e.1), by omega⟩
  obtain ⟨y, eC, hC⟩ := C
  unfold fState_repairedBefore
  rw [eC, Option.bind_some]
  rcases hL with ⟨rfl, u⟩ | ⟨k, k1, rfl, k2, k3⟩
  · left
    rcases hC with ⟨rfl, _⟩ | ⟨j, j1, j2, _⟩
    · exact ⟨rfl, rfl⟩
    · exact absurd j2 (u j j1)
  · right
    rcases hC with ⟨_, u⟩ | ⟨j, j1, j2, j3, rfl⟩
    · exact absurd k2 (u k k1)
    · have e : j = k := by
        rcases Nat.lt_trichotomy j k with x | x | x
        · exact absurd k2 (j3 k x k1)
        · exact x
        · exact absurd j2 (k3 j x j1)
      subst e
      exact ⟨j, rfl, by omega, k2.2, rfl⟩
