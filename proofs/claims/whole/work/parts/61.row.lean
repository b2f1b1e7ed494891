/-! ===== the row of the calls that wait ===== -/
theorem wk_d {s s' m m' : MI} (h : wk s m) (e : ∀ d, ¬ d = 9 → s' d = s d) (e2 : ∀ d, ¬ d = 8 → ¬ d = 0 → m' d = m d) : wk s' m' := by
  obtain ⟨a, b, c⟩ := h
  refine ⟨?_, ?_, by rw [e2 1 (by omega) (by omega)]; exact c⟩
  · unfold mR
    rw [e 2 (by omega), e 3 (by omega), e2 1 (by omega) (by omega)]
    exact a
  · unfold wOK
    rw [e2 6 (by omega) (by omega), e2 7 (by omega) (by omega), e2 1 (by omega) (by omega)]
    exact b
/-- only the rows differ -/
abbrev rowd (s s' m m' : MI) : Prop := (∀ d, ¬ d = 9 → s' d = s d) ∧ (∀ d, ¬ d = 8 → ¬ d = 0 → m' d = m d) ∧ ∀ i, ¬ i = 11 → m' 0 i = m 0 i
theorem row_in {s m : MI} (h : RS s (m 1)) {c f : Nat} {Q : Nat → Prop} (hc : (c : Int) < m 1 9) (hf : f ≤ c) (h0 : ∀ j, j < f → ∃ o : Nat, (o < c ∧ Q o) ∧ s 9 j = (o : Int) ∧ m 8 j = (o : Int)) (h1d : ∀ j j', j < f → j' < f → s 9 j = s 9 j' → j = j') (z1 : Int) :
    ∃ k : Nat, ∃ s' m', k ≤ f ∧ sl_it (fun (t : Int × MI) => fSending_putInOrder_l28 z1 (c : Int) t.1 t.2) sl_fu ((f : Int), s) = some ((k : Int), s') ∧ sl_it (fun (t : Int × MI) => fModel_laysRow_l31 (c : Int) t.1 t.2) sl_fu ((f : Int), m) = some ((k : Int), m') ∧ rowd s s' m m' ∧ (∀ i, m' 0 i = m 0 i) ∧ (∀ j, j ≤ f → ¬ j = k → ∃ o : Nat, (o < c ∧ Q o) ∧ s' 9 j = (o : Int) ∧ m' 8 j = (o : Int)) ∧ ∀ j j', j ≤ f → j' ≤ f → ¬ j = k → ¬ j' = k → s' 9 j = s' 9 j' → j = j' := by
  have S9 : m 1 9 ≤ 40 := h.2.2.2.2.2.2.1.2.2.2.2.2.2.2
  obtain ⟨⟨k, s'⟩, ⟨k', m'⟩, e1, e2, i, q0, q1, q2, q3, q4, q5, q6⟩ := it_two (f := fun (t : Int × MI) => fSending_putInOrder_l28 z1 (c : Int) t.1 t.2) (g := fun (t : Int × MI) => fModel_laysRow_l31 (c : Int) t.1 t.2)
    (fun t u => ∃ i : Nat, i ≤ f ∧ t.1 = (i : Int) ∧ u.1 = (i : Int) ∧ rowd s t.2 m u.2 ∧ (∀ j, u.2 0 j = m 0 j) ∧ (∀ j, j ≤ f → ¬ j = i → ∃ o : Nat, (o < c ∧ Q o) ∧ t.2 9 j = (o : Int) ∧ u.2 8 j = (o : Int)) ∧ ∀ j j', j ≤ f → j' ≤ f → ¬ j = i → ¬ j' = i → t.2 9 j = t.2 9 j' → j = j')
    (fun y z => ∃ i : Nat, i ≤ f ∧ y.1 = (i : Int) ∧ z.1 = (i : Int) ∧ rowd s y.2 m z.2 ∧ (∀ j, z.2 0 j = m 0 j) ∧ (∀ j, j ≤ f → ¬ j = i → ∃ o : Nat, (o < c ∧ Q o) ∧ y.2 9 j = (o : Int) ∧ z.2 8 j = (o : Int)) ∧ ∀ j j', j ≤ f → j' ≤ f → ¬ j = i → ¬ j' = i → y.2 9 j = y.2 9 j' → j = j') (fun t => t.1.toNat) (fun t u hR => by
    obtain ⟨i0, s1⟩ := t
    obtain ⟨i1, m1⟩ := u
    obtain ⟨i, hi, h1, h2, h3, h4, h5, h6⟩ := hR
    dsimp only at h1 h2 h3 h4 h5 h6 ⊢
    subst h1
    subst h2
    have wi : sm_w (i : Int) = i := tw (by omega) (by omega)
    by_cases z : i = 0
    · right
      refine ⟨((i : Int), s1), ((i : Int), m1), ?_, ?_, ⟨i, hi, rfl, rfl, h3, h4, h5, h6⟩⟩
      · unfold fSending_putInOrder_l28
        rw [wi, if_pos (by omega)]
      · unfold fModel_laysRow_l31
        rw [wi, if_pos (by omega)]
    · obtain ⟨o, ⟨o1, oQ⟩, o2, o3⟩ := h5 (i - 1) (by omega) (by omega)
      have h' : RS s1 (m1 1) := by rw [h3.2.1 1 (by omega) (by omega)]; exact RS_d h h3.1
      obtain ⟨v, hv, a1, a2⟩ := ahead_eq h' (c := c) (o := o) (by rw [h3.2.1 1 (by omega) (by omega)]; exact hc) o1
      have wi1 : sm_w ((i : Int) - 1) = (i : Int) - 1 := tw (by omega) (by omega)
      have ti1 : ((i : Int) - 1).toNat = i - 1 := by omega
      have eC : fSending_putInOrder_l28 z1 (c : Int) (i : Int) s1 = if v = 0 then some (.inr ((i : Int), s1)) else some (.inl ((i : Int) + (-1), sm_up s1 9 i (o : Int))) := by
        unfold fSending_putInOrder_l28
        rw [wi, if_neg (by omega), wi1, if_pos (by omega), ti1, o2, a1, Option.bind_some]
        rcases hv with rfl | rfl
        · rw [w0, if_pos rfl, if_pos rfl]
        · rw [w1, if_neg (by omega), if_pos (by omega), show ((i : Int)).toNat = i by omega, if_neg (by omega)]
          rfl
      have eM : fModel_laysRow_l31 (c : Int) (i : Int) m1 = if v = 0 then some (.inr ((i : Int), m1)) else some (.inl ((i : Int) + (-1), sm_up m1 8 i (o : Int))) := by
        unfold fModel_laysRow_l31
        rw [wi, if_neg (by omega), wi1, if_pos (by omega), ti1, o3, a2, Option.bind_some]
        rcases hv with rfl | rfl
        · rw [w0, if_pos rfl, if_pos rfl]
        · rw [w1, if_neg (by omega), if_pos (by omega), show ((i : Int)).toNat = i by omega, if_neg (by omega)]
          rfl
      rw [eC, eM]
      rcases hv with rfl | rfl
      · right
        exact ⟨_, _, if_pos rfl, if_pos rfl, ⟨i, hi, rfl, rfl, h3, h4, h5, h6⟩⟩
      · left
        refine ⟨_, _, if_neg (by omega), if_neg (by omega), ⟨i - 1, by omega, by dsimp only; omega, by dsimp only; omega, ⟨fun d e => ?_, fun d e e' => ?_, fun j e => ?_⟩, fun j => ?_, fun j hj e => ?_, fun j j' hj hj' e e' ee => ?_⟩, by dsimp only; omega⟩
        · exact (up_D e).trans (h3.1 d e)
        · exact (up_D e).trans (h3.2.1 d e e')
        · dsimp only
          rw [up_d (by omega : ¬ (0 : Nat) = 8)]
          exact h3.2.2 j e
        · dsimp only
          rw [up_d (by omega : ¬ (0 : Nat) = 8)]
          exact h4 j
        · dsimp only
          by_cases y : j = i
          · subst y
            exact ⟨o, ⟨o1, oQ⟩, up_s _ _ _ _, up_s _ _ _ _⟩
          · rw [up_j y, up_j y]
            exact h5 j hj y
        · dsimp only at ee
          by_cases y : j = i
          · subst y
            by_cases y' : j' = j
            · exact y'.symm
            · rw [up_s, up_j y', ← o2] at ee
              exact absurd (h6 (j - 1) j' (by omega) hj' (by omega) y' ee) (fun w => e' w.symm)
          · by_cases y' : j' = i
            · subst y'
              rw [up_s, up_j y, ← o2] at ee
              exact absurd (h6 j (j' - 1) hj (by omega) y (by omega) ee) e
            · rw [up_j y, up_j y'] at ee
              exact h6 j j' hj hj' y y' ee) sl_fu ((f : Int), s) ((f : Int), m) ⟨f, by omega, rfl, rfl, ⟨fun _ _ => rfl, fun _ _ _ => rfl, fun _ _ => rfl⟩, fun _ => rfl, fun j hj e => h0 j (by omega), fun j j' hj hj' e e' ee => h1d j j' (by omega) (by omega) ee⟩ (by show ((f : Int)).toNat < 5000; omega)
  dsimp only at q1 q2 q3 q4 q5 q6
  subst q1
  subst q2
  exact ⟨i, s', m', q0, e1, e2, q3, q4, q5, q6⟩
theorem row_eq {s m : MI} (h : RS s (m 1)) (hw : wk s m) : ∃ f : Nat, ∃ s' m', f ≤ 40 ∧ fSending_putInOrder s = some ((f : Int), s') ∧ fModel_laysRow m = some m' ∧ m' 0 11 = (f : Int) ∧ rowd s s' m m' ∧ (∀ j, j < f → ∃ o : Nat, ((o : Int) < m 1 9 ∧ wt (m 1) o = 1) ∧ s' 9 j = (o : Int) ∧ m' 8 j = (o : Int)) ∧ ∀ j j', j < f → j' < f → s' 9 j = s' 9 j' → j = j' := by
  have S9 : 0 ≤ m 1 9 ∧ m 1 9 ≤ 40 := h.2.2.2.2.2.2.1.2.2.2.2.2.2
  obtain ⟨⟨f0, s'⟩, m', e1, e2, f, q0, q1, q2, q3, q4, q5⟩ := it_two (f := fun (t : Int × Int × MI) => fSending_putInOrder_l4 t.1 t.2.1 t.2.2) (g := fun (t : Int × MI) => fModel_laysRow_l7 t.1 t.2)
    (fun t u => ∃ f i : Nat, f ≤ i ∧ (i : Int) ≤ m 1 9 ∧ t.1 = (f : Int) ∧ t.2.1 = (i : Int) ∧ u.1 = (i : Int) ∧ u.2 0 11 = (f : Int) ∧ rowd s t.2.2 m u.2 ∧ (∀ j, j < f → ∃ o : Nat, (o < i ∧ wt (m 1) o = 1) ∧ t.2.2 9 j = (o : Int) ∧ u.2 8 j = (o : Int)) ∧ ∀ j j', j < f → j' < f → t.2.2 9 j = t.2.2 9 j' → j = j')
    (fun y z => ∃ f : Nat, f ≤ 40 ∧ y.1 = (f : Int) ∧ z 0 11 = (f : Int) ∧ rowd s y.2 m z ∧ (∀ j, j < f → ∃ o : Nat, ((o : Int) < m 1 9 ∧ wt (m 1) o = 1) ∧ y.2 9 j = (o : Int) ∧ z 8 j = (o : Int)) ∧ ∀ j j', j < f → j' < f → y.2 9 j = y.2 9 j' → j = j') (fun t => (40 - t.2.1).toNat) (fun t u hR => by
    obtain ⟨f0, i0, s1⟩ := t
    obtain ⟨i1, m1⟩ := u
    obtain ⟨f, i, hf, hi, h1, h2, h3, h4, h5, h6, h7⟩ := hR
    dsimp only at h1 h2 h3 h4 h5 h6 h7 ⊢
    subst h1
    subst h2
    subst h3
    have wi : sm_w (i : Int) = i := tw (by omega) (by omega)
    have wf : sm_w (f : Int) = f := tw (by omega) (by omega)
    have m1e : m1 1 = m 1 := h5.2.1 1 (by omega) (by omega)
    have h' : RS s1 (m1 1) := by rw [m1e]; exact RS_d h h5.1
    have n8 : s1 0 8 = m 1 9 := by rw [← m1e]; exact h'.1.2.2.2.1
    have w9 : sm_w (m 1 9) = m 1 9 := tw (by omega) (by omega)
    by_cases z : m 1 9 ≤ (i : Int)
    · right
      refine ⟨((f : Int), s1), m1, ?_, ?_, ⟨f, by omega, rfl, h4, h5, fun j hj => ?_, h7⟩⟩
      · unfold fSending_putInOrder_l4
        rw [wi, n8, w9, if_pos z]
      · unfold fModel_laysRow_l7
        rw [wi, m1e, w9, if_pos z]
      · obtain ⟨o, ⟨o1, oQ⟩, o2, o3⟩ := h6 j hj
        exact ⟨o, ⟨by omega, oQ⟩, o2, o3⟩
    · left
      have hi' : (i : Int) < m1 1 9 := by rw [m1e]; omega
      obtain ⟨v1, v2⟩ := waits_eq h' hi'
      rw [m1e] at v1 v2
      have wv : wt (m 1) i = 0 ∨ wt (m 1) i = 1 := by unfold wt; split <;> omega
      unfold fSending_putInOrder_l4 fModel_laysRow_l7
      rw [wi, n8, w9, if_neg z, wf, if_neg (by omega), v1, Option.bind_some, m1e, w9, if_neg z, v2, Option.bind_some]
      rcases wv with e | e
      · rw [e, w0, if_pos rfl, if_pos rfl]
        exact ⟨_, _, rfl, rfl, ⟨f, i + 1, by omega, by push_cast; omega, rfl, by push_cast; rfl, by push_cast; rfl, h4, h5, fun j hj => by
          obtain ⟨o, ⟨o1, oQ⟩, o2, o3⟩ := h6 j hj
          exact ⟨o, ⟨by omega, oQ⟩, o2, o3⟩, h7⟩, by dsimp only; omega⟩
      · rw [e, w1, if_neg (by omega), if_neg (by omega)]
        obtain ⟨k, s2, m2, k1, x1, x2, x3, x4, x5, x6⟩ := row_in h' (c := i) (f := f) (Q := fun o => wt (m 1) o = 1) hi' hf h6 h7 (f : Int)
        rw [x1, Option.bind_some, h4, x2, Option.bind_some]
        dsimp only
        unfold fSending_putInOrder_j68_l4 fModel_laysRow_j71_l7 fSending_putInOrder_j78_l4 fModel_laysRow_j88_l7
        rw [tw (x := (k : Int)) (by omega) (by omega), if_pos (by omega), if_pos (by omega), show ((k : Int)).toNat = k by omega, Option.bind_some, Option.bind_some, Option.bind_some]
        refine ⟨_, _, rfl, rfl, ⟨f + 1, i + 1, by omega, by push_cast; omega, by push_cast; rfl, by push_cast; rfl, by push_cast; rfl, ?_, ⟨fun d e => ?_, fun d e e' => ?_, fun j e => ?_⟩, fun j hj => ?_, fun j j' hj hj' ee => ?_⟩, by dsimp only; omega⟩
        · dsimp only
          rw [up_s, up_d (by omega : ¬ (0 : Nat) = 8), x4, h4]
          push_cast
          rfl
        · exact (up_D e).trans ((x3.1 d e).trans (h5.1 d e))
        · exact (up_D e').trans ((up_D e).trans ((x3.2.1 d e e').trans (h5.2.1 d e e')))
        · dsimp only
          rw [up_j e, up_d (by omega : ¬ (0 : Nat) = 8), x4]
          exact h5.2.2 j e
        · dsimp only
          rw [up_d (by omega : ¬ (8 : Nat) = 0)]
          by_cases y : j = k
          · subst y
            exact ⟨i, ⟨by omega, e⟩, up_s _ _ _ _, up_s _ _ _ _⟩
          · rw [up_j y, up_j y]
            obtain ⟨o, ⟨o1, oQ⟩, o2, o3⟩ := x5 j (by omega) y
            exact ⟨o, ⟨by omega, oQ⟩, o2, o3⟩
        · dsimp only at ee
          by_cases y : j = k
          · by_cases y' : j' = k
            · omega
            · subst y
              rw [up_s, up_j y'] at ee
              obtain ⟨o, ⟨o1, _⟩, o2, _⟩ := x5 j' (by omega) y'
              omega
          · by_cases y' : j' = k
            · subst y'
              rw [up_s, up_j y] at ee
              obtain ⟨o, ⟨o1, _⟩, o2, _⟩ := x5 j (by omega) y
              omega
            · rw [up_j y, up_j y'] at ee
              exact x6 j j' (by omega) (by omega) y y' ee) sl_fu (0, 0, s) (0, sm_up m 0 11 0) ⟨0, 0, by omega, by push_cast; omega, rfl, rfl, rfl, up_s m 0 11 0, ⟨fun _ _ => rfl, fun d _ e => up_D e, fun j e => up_j e⟩, fun j hj => absurd hj (by omega), fun j j' hj => absurd hj (by omega)⟩ (by show (40 - (0 : Int)).toNat < 5000; omega)
  dsimp only at q1 q3 q4 q5
  subst q1
  refine ⟨f, s', m', q0, ?_, ?_, q2, q3, q4, q5⟩
  · unfold fSending_putInOrder
    rw [e1]
    rfl
  · unfold fModel_laysRow
    rw [Option.bind_some, e2]
    rfl
