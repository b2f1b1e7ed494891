/-! ===== the model copies rows and keeps its past ===== -/
theorem copies_eq {m : MI} {d0 d2 a b m0 m2 : Nat} (hd : ¬ d0 = d2) (ha : a + 810 ≤ m0) (hb : b + 810 ≤ m2) (h0 : m0 ≤ 4000) (h2 : m2 ≤ 4000) :
    ∃ m', fModel_copies d0 m0 (a : Int) d2 m2 (b : Int) m = some m' ∧ ∀ d j, m' d j = if d = d2 ∧ b ≤ j ∧ j < b + 810 then m d0 (a + (j - b)) else m d j := by
  obtain ⟨m', e, q⟩ := it_inv (f := fun (t : Int × MI) => fModel_copies_l3 d0 m0 (a : Int) d2 m2 (b : Int) t.1 t.2) (I := fun t => ∃ i : Nat, t.1 = (i : Int) ∧ i ≤ 810 ∧ ∀ d j, t.2 d j = if d = d2 ∧ b ≤ j ∧ j < b + i then m d0 (a + (j - b)) else m d j)
    (fun y => ∀ d j, y d j = if d = d2 ∧ b ≤ j ∧ j < b + 810 then m d0 (a + (j - b)) else m d j) (fun t => (810 - t.1).toNat) (fun t ⟨i, h1, h3, h4⟩ => by
    obtain ⟨i0, s⟩ := t
    dsimp only at h1 h4 ⊢
    subst h1
    have wi : sm_w (i : Int) = i := tw (by omega) (by omega)
    by_cases z : i = 810
    · subst z
      right
      refine ⟨s, ?_, h4⟩
      unfold fModel_copies_l3
      rw [wi, if_pos (by omega)]
    · left
      refine ⟨((i : Int) + 1, sm_up s d2 (b + i) (s d0 (a + i))), ?_, ⟨i + 1, by push_cast; rfl, by omega, fun d j => ?_⟩, by dsimp only; omega⟩
      · unfold fModel_copies_l3
        rw [wi, if_neg (by omega), tw (x := (a : Int) + (i : Int)) (by omega) (by omega), if_pos (by omega), tw (x := (b : Int) + (i : Int)) (by omega) (by omega), if_pos (by omega), show ((a : Int) + (i : Int)).toNat = a + i by omega, show ((b : Int) + (i : Int)).toNat = b + i by omega]
        rfl
      · dsimp only
        by_cases x : d = d2
        · subst x
          by_cases y : j = b + i
          · subst y
            rw [up_s, h4, if_neg (fun e => hd e.1), if_pos ⟨rfl, by omega, by omega⟩, Nat.add_sub_cancel_left]
          · rw [up_j y, h4]
            by_cases w : b ≤ j ∧ j < b + i
            · rw [if_pos ⟨rfl, w⟩, if_pos ⟨rfl, by omega, by omega⟩]
            · rw [if_neg (fun e => w e.2), if_neg (by omega)]
        · rw [up_d x, h4, if_neg (fun e => x e.1), if_neg (fun e => x e.1)]) sl_fu (0, m) ⟨0, rfl, by omega, fun d j => by rw [if_neg (by omega)]⟩ (by show (810 - (0 : Int)).toNat < 5000; omega)
  refine ⟨m', ?_, q⟩
  unfold fModel_copies
  rw [e]
  rfl
theorem shift_eq (m : MI) : ∃ m', sl_it (fun (t : Int × MI) => fModel_records_l10 t.1 t.2) sl_fu (0, m) = some m' ∧ ∀ d j, m' d j = if d = 2 ∧ j < 2430 then m 2 (j + 810) else m d j := by
  refine it_inv (f := fun (t : Int × MI) => fModel_records_l10 t.1 t.2) (I := fun t => ∃ i : Nat, t.1 = (i : Int) ∧ i ≤ 2430 ∧ ∀ d j, t.2 d j = if d = 2 ∧ j < i then m 2 (j + 810) else m d j)
    (fun y => ∀ d j, y d j = if d = 2 ∧ j < 2430 then m 2 (j + 810) else m d j) (fun t => (2430 - t.1).toNat) (fun t ⟨i, h1, h3, h4⟩ => by
    obtain ⟨i0, s⟩ := t
    dsimp only at h1 h4 ⊢
    subst h1
    have wi : sm_w (i : Int) = i := tw (by omega) (by omega)
    by_cases z : i = 2430
    · subst z
      right
      refine ⟨s, ?_, h4⟩
      unfold fModel_records_l10
      rw [wi, if_pos (by omega)]
    · left
      refine ⟨((i : Int) + 1, sm_up s 2 i (s 2 (i + 810))), ?_, ⟨i + 1, by push_cast; rfl, by omega, fun d j => ?_⟩, by dsimp only; omega⟩
      · unfold fModel_records_l10
        rw [wi, if_neg (by omega), tw (x := (i : Int) + 810) (by omega) (by omega), if_pos (by omega), if_pos (by omega), show ((i : Int) + 810).toNat = i + 810 by omega, show ((i : Int)).toNat = i by omega]
        rfl
      · dsimp only
        by_cases x : d = 2
        · subst x
          by_cases y : j = i
          · subst y
            rw [up_s, h4, if_neg (by omega), if_pos ⟨rfl, by omega⟩]
          · rw [up_j y, h4]
            by_cases w : j < i
            · rw [if_pos ⟨rfl, w⟩, if_pos ⟨rfl, by omega⟩]
            · rw [if_neg (fun e => w e.2), if_neg (by omega)]
        · rw [up_d x, h4, if_neg (fun e => x e.1), if_neg (fun e => x e.1)]) sl_fu (0, m) ⟨0, rfl, by omega, fun d j => by rw [if_neg (by omega)]⟩ (by show (2430 - (0 : Int)).toNat < 5000; omega)
theorem records_j {m : MI} {r : Nat} (hr : m 0 2 = (r : Int)) (h4 : r < 4) : ∃ m', fModel_records_j44 m = some m' ∧ m' 0 2 = (r : Int) + 1 ∧ (∀ d j, ¬ d = 2 → ¬ (d = 0 ∧ j = 2) → m' d j = m d j) ∧ (∀ j, j < 810 * r → m' 2 j = m 2 j) ∧ ∀ j, j < 810 → m' 2 (810 * r + j) = m 1 j := by
  obtain ⟨m1, e, q⟩ := copies_eq (m := m) (d0 := 1) (d2 := 2) (a := 0) (b := 810 * r) (m0 := 810) (m2 := 3240) (by omega) (by omega) (by omega) (by omega) (by omega)
  have hv : m1 0 2 = (r : Int) := by rw [q, if_neg (by omega)]; exact hr
  refine ⟨sm_up m1 0 2 (m1 0 2 + 1), ?_, by rw [up_s, hv], fun d j x y => ?_, fun j hj => ?_, fun j hj => ?_⟩
  · unfold fModel_records_j44
    rw [hr, show (r : Int) * 810 = ((810 * r : Nat) : Int) by omega]
    exact congrArg (fun x => Option.bind x (fun p1 => Option.bind (some (sm_up p1 0 2 ((p1 0 2) + 1))) (fun s4 => some s4))) e
  · have : sm_up m1 0 2 (m1 0 2 + 1) d j = m1 d j := by
      unfold sm_up
      rw [if_neg y]
    rw [this, q, if_neg (fun e => x e.1)]
  · rw [up_d (by omega : ¬ 2 = 0), q, if_neg (by omega)]
  · rw [up_d (by omega : ¬ 2 = 0), q, if_pos ⟨rfl, by omega, by omega⟩, show 0 + (810 * r + j - 810 * r) = j by omega]
theorem records_eq {m : MI} {r : Nat} (hr : m 0 2 = (r : Int)) (h4 : r ≤ 4) : ∃ m', fModel_records m = some m' ∧ m' 0 2 = (if r < 4 then (r : Int) + 1 else 4) ∧ (∀ d j, ¬ d = 2 → ¬ (d = 0 ∧ j = 2) → m' d j = m d j) ∧
    (r < 4 → (∀ j, j < 810 * r → m' 2 j = m 2 j) ∧ ∀ j, j < 810 → m' 2 (810 * r + j) = m 1 j) ∧ (r = 4 → (∀ j, j < 2430 → m' 2 j = m 2 (j + 810)) ∧ ∀ j, j < 810 → m' 2 (2430 + j) = m 1 j) := by
  unfold fModel_records
  rw [hr, tw (x := (r : Int)) (by omega) (by omega)]
  by_cases z : r = 4
  · rw [if_pos (by omega)]
    obtain ⟨m1, e, q⟩ := shift_eq m
    obtain ⟨m2, e2, q1, q2, q3, q4⟩ := records_j (m := sm_up m1 0 2 3) (r := 3) (up_s _ _ _ _) (by omega)
    rw [e, Option.bind_some, Option.bind_some, e2]
    refine ⟨m2, rfl, by rw [q1, if_neg (by omega)]; rfl, fun d j x y => ?_, fun h => absurd h (by omega), fun _ => ⟨fun j hj => ?_, fun j hj => ?_⟩⟩
    · rw [q2 d j x y]
      have : sm_up m1 0 2 3 d j = m1 d j := by
        unfold sm_up
        rw [if_neg y]
      rw [this, q, if_neg (fun e => x e.1)]
    · rw [q3 j (by omega), up_d (by omega : ¬ 2 = 0), q, if_pos ⟨rfl, hj⟩]
    · have := q4 j hj
      rw [show 810 * 3 + j = 2430 + j by omega] at this
      rw [this, up_d (by omega : ¬ 1 = 0), q, if_neg (by omega)]
  · rw [if_neg (by omega)]
    obtain ⟨m2, e2, q1, q2, q3, q4⟩ := records_j hr (by omega)
    exact ⟨m2, e2, by rw [q1, if_pos (by omega)], q2, fun _ => ⟨q3, q4⟩, fun h => absurd h z⟩
