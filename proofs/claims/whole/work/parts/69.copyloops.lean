/-! ===== the class copies a state ===== -/
theorem pats_copy {s s2 : MI} (hn : 0 ≤ s2 0 4 ∧ s2 0 4 ≤ 6) (hb : ∀ p : Nat, (p : Int) < s2 0 4 → s2 (10 + p) 2 = 0 ∨ s2 (10 + p) 2 = 1) : ∃ s', sl_it (fun (t : Int × MI) => fState_copyFrom_l42 t.1 t.2 s2) sl_fu (0, s) = some s' ∧ (∀ p : Nat, (p : Int) < s2 0 4 → ∀ j, j < 14 → s' (10 + p) j = s2 (10 + p) j) ∧ ∀ d, ¬ (10 ≤ d ∧ d < 16) → s' d = s d := by
  refine it_inv (f := fun (t : Int × MI) => fState_copyFrom_l42 t.1 t.2 s2) (I := fun t => ∃ i : Nat, t.1 = (i : Int) ∧ (i : Int) ≤ s2 0 4 ∧ (∀ p, p < i → ∀ j, j < 14 → t.2 (10 + p) j = s2 (10 + p) j) ∧ ∀ d, ¬ (10 ≤ d ∧ d < 16) → t.2 d = s d)
    (fun y => (∀ p : Nat, (p : Int) < s2 0 4 → ∀ j, j < 14 → y (10 + p) j = s2 (10 + p) j) ∧ ∀ d, ¬ (10 ≤ d ∧ d < 16) → y d = s d) (fun t => (6 - t.1).toNat) (fun t ⟨i, h1, h2, h3, h4⟩ => by
    obtain ⟨i0, s1⟩ := t
    dsimp only at h1 h3 h4 ⊢
    subst h1
    have wi : sm_w (i : Int) = i := tw (by omega) (by omega)
    have wn : sm_w (s2 0 4) = s2 0 4 := tw (by omega) (by omega)
    by_cases z : s2 0 4 ≤ (i : Int)
    · right
      refine ⟨s1, ?_, fun p hp => h3 p (by omega), h4⟩
      unfold fState_copyFrom_l42
      rw [wi, wn, if_pos z]
    · left
      obtain ⟨P, e, e2⟩ := patCopy (s := sm_lo (10 + i) s1) (s2 := sm_lo (10 + i) s2) (hb i (by omega))
      refine ⟨((i : Int) + 1, sm_gl (10 + i) 1 P s1), ?_, ⟨i + 1, by push_cast; rfl, by push_cast; omega, fun p hp j hj => ?_, fun d hd => ?_⟩, by dsimp only; omega⟩
      · unfold fState_copyFrom_l42
        rw [wi, wn, if_neg z, if_neg (by omega), if_pos (by omega), show ((i : Int)).toNat = i by omega, e]
        rfl
      · dsimp only
        by_cases y : p = i
        · rw [y, gl_self]
          exact e2 j hj
        · rw [gl_oth _ _ (by omega)]
          exact h3 p (by omega) j hj
      · dsimp only
        rw [gl_oth _ _ (by omega)]
        exact h4 d hd) sl_fu (0, s) ⟨0, rfl, hn.1, fun p hp => absurd hp (by omega), fun _ _ => rfl⟩ (by show (6 - (0 : Int)).toNat < 5000; omega)
theorem gars_copy {s s2 : MI} (hn : 0 ≤ s2 0 6 ∧ s2 0 6 ≤ 5) : ∃ s', sl_it (fun (t : Int × MI) => fState_copyFrom_l79 t.1 t.2 s2) sl_fu (0, s) = some s' ∧ (∀ p : Nat, (p : Int) < s2 0 6 → ∀ j, j < 5 → s' (16 + p) j = s2 (16 + p) j) ∧ ∀ d, ¬ (16 ≤ d ∧ d < 21) → s' d = s d := by
  refine it_inv (f := fun (t : Int × MI) => fState_copyFrom_l79 t.1 t.2 s2) (I := fun t => ∃ i : Nat, t.1 = (i : Int) ∧ (i : Int) ≤ s2 0 6 ∧ (∀ p, p < i → ∀ j, j < 5 → t.2 (16 + p) j = s2 (16 + p) j) ∧ ∀ d, ¬ (16 ≤ d ∧ d < 21) → t.2 d = s d)
    (fun y => (∀ p : Nat, (p : Int) < s2 0 6 → ∀ j, j < 5 → y (16 + p) j = s2 (16 + p) j) ∧ ∀ d, ¬ (16 ≤ d ∧ d < 21) → y d = s d) (fun t => (5 - t.1).toNat) (fun t ⟨i, h1, h2, h3, h4⟩ => by
    obtain ⟨i0, s1⟩ := t
    dsimp only at h1 h3 h4 ⊢
    subst h1
    have wi : sm_w (i : Int) = i := tw (by omega) (by omega)
    have wn : sm_w (s2 0 6) = s2 0 6 := tw (by omega) (by omega)
    by_cases z : s2 0 6 ≤ (i : Int)
    · right
      refine ⟨s1, ?_, fun p hp => h3 p (by omega), h4⟩
      unfold fState_copyFrom_l79
      rw [wi, wn, if_pos z]
    · left
      obtain ⟨P, e, e2⟩ := garCopy (s := sm_lo (16 + i) s1) (s2 := sm_lo (16 + i) s2)
      refine ⟨((i : Int) + 1, sm_gl (16 + i) 1 P s1), ?_, ⟨i + 1, by push_cast; rfl, by push_cast; omega, fun p hp j hj => ?_, fun d hd => ?_⟩, by dsimp only; omega⟩
      · unfold fState_copyFrom_l79
        rw [wi, wn, if_neg z, if_neg (by omega), if_pos (by omega), show ((i : Int)).toNat = i by omega, e]
        rfl
      · dsimp only
        by_cases y : p = i
        · rw [y, gl_self]
          exact e2 j hj
        · rw [gl_oth _ _ (by omega)]
          exact h3 p (by omega) j hj
      · dsimp only
        rw [gl_oth _ _ (by omega)]
        exact h4 d hd) sl_fu (0, s) ⟨0, rfl, hn.1, fun p hp => absurd hp (by omega), fun _ _ => rfl⟩ (by show (5 - (0 : Int)).toNat < 5000; omega)
theorem brks_copy {s s2 : MI} (hn : 0 ≤ s2 0 8 ∧ s2 0 8 ≤ 40) (hb : ∀ p : Nat, (p : Int) < s2 0 8 → s2 (21 + p) 10 = 0 ∨ s2 (21 + p) 10 = 1) : ∃ s', sl_it (fun (t : Int × MI) => fState_copyFrom_l115 t.1 t.2 s2) sl_fu (0, s) = some s' ∧ (∀ p : Nat, (p : Int) < s2 0 8 → ∀ j, j < 11 → s' (21 + p) j = s2 (21 + p) j) ∧ ∀ d, ¬ (21 ≤ d ∧ d < 61) → s' d = s d := by
  refine it_inv (f := fun (t : Int × MI) => fState_copyFrom_l115 t.1 t.2 s2) (I := fun t => ∃ i : Nat, t.1 = (i : Int) ∧ (i : Int) ≤ s2 0 8 ∧ (∀ p, p < i → ∀ j, j < 11 → t.2 (21 + p) j = s2 (21 + p) j) ∧ ∀ d, ¬ (21 ≤ d ∧ d < 61) → t.2 d = s d)
    (fun y => (∀ p : Nat, (p : Int) < s2 0 8 → ∀ j, j < 11 → y (21 + p) j = s2 (21 + p) j) ∧ ∀ d, ¬ (21 ≤ d ∧ d < 61) → y d = s d) (fun t => (40 - t.1).toNat) (fun t ⟨i, h1, h2, h3, h4⟩ => by
    obtain ⟨i0, s1⟩ := t
    dsimp only at h1 h3 h4 ⊢
    subst h1
    have wi : sm_w (i : Int) = i := tw (by omega) (by omega)
    have wn : sm_w (s2 0 8) = s2 0 8 := tw (by omega) (by omega)
    by_cases z : s2 0 8 ≤ (i : Int)
    · right
      refine ⟨s1, ?_, fun p hp => h3 p (by omega), h4⟩
      unfold fState_copyFrom_l115
      rw [wi, wn, if_pos z]
    · left
      obtain ⟨P, e, e2⟩ := brkCopy (s := sm_lo (21 + i) s1) (s2 := sm_lo (21 + i) s2) (hb i (by omega))
      refine ⟨((i : Int) + 1, sm_gl (21 + i) 1 P s1), ?_, ⟨i + 1, by push_cast; rfl, by push_cast; omega, fun p hp j hj => ?_, fun d hd => ?_⟩, by dsimp only; omega⟩
      · unfold fState_copyFrom_l115
        rw [wi, wn, if_neg z, if_neg (by omega), if_pos (by omega), show ((i : Int)).toNat = i by omega, e]
        rfl
      · dsimp only
        by_cases y : p = i
        · rw [y, gl_self]
          exact e2 j hj
        · rw [gl_oth _ _ (by omega)]
          exact h3 p (by omega) j hj
      · dsimp only
        rw [gl_oth _ _ (by omega)]
        exact h4 d hd) sl_fu (0, s) ⟨0, rfl, hn.1, fun p hp => absurd hp (by omega), fun _ _ => rfl⟩ (by show (40 - (0 : Int)).toNat < 5000; omega)
