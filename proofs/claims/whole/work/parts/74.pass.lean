/-! ===== minutes pass ===== -/
theorem DM_now {d d' m m' : MI} {ro : Nat → Nat} (h : DM d ro m) (e : ∀ a, a < 1 ∨ 62 ≤ a → d' a = d a) (e2 : m' 2 = m 2) (e3 : m' 3 = m 3) (e5 : m' 5 = m 5) (c2 : m' 0 2 = m 0 2) (c4 : m' 0 4 = m 0 4) (c7 : m' 0 7 = m 0 7)
    (hR : RS (sm_lo 1 d') (m' 1)) (hW : wk (sm_lo 1 d') m') : DM d' ro m' := by
  obtain ⟨h1, h2, ⟨r, r4, dr, mr, hp⟩, hro, hk, L, L6, dL, mL, hL⟩ := h
  have q0 := e 0 (by omega)
  refine ⟨hR, hW, ⟨r, r4, by rw [q0]; exact dr, by rw [c2]; exact mr, fun i hi => ?_⟩, hro, ?_, L, L6, by rw [e 185 (by omega)]; exact dL, by rw [c7]; exact mL, fun k hk' => ?_⟩
  · rw [e2]
    exact RS_61 (hp i hi) (fun x hx => e _ (by omega))
  · rw [q0, c4, e3]
    rcases hk with x | ⟨x, y, z⟩
    · exact Or.inl x
    · exact Or.inr ⟨x, y, RS_61 z (fun j hj => e _ (by omega))⟩
  · rw [e 186 (by omega), e5]
    exact hL k hk'
abbrev i32 (z : Int) : Prop := -2147483648 ≤ z ∧ z ≤ 2147483647
theorem n10 : ¬ (1 : Int) = 0 := by omega
theorem in_eq {z a b : Int} (hz : i32 z) (ha : i32 a) (hb : i32 b) : fModel_in z a b = some (if a ≤ z ∧ z ≤ b then 1 else 0) := by
  unfold fModel_in
  rw [tw hz.1 hz.2, tw ha.1 ha.2, tw hb.1 hb.2]
  by_cases x : z < a
  · rw [if_pos x, if_neg (by omega)]
  · by_cases y : b < z
    · rw [if_neg x, if_pos y, if_neg (by omega)]
    · rw [if_neg x, if_neg y, if_pos (by omega)]
theorem pass_eq {d m : MI} {ro : Nat → Nat} {z : Int} (h : DM d ro m) (hz : i32 z) : ∃ v d' ro' m', fDesk_pass z d ro = some (v, d', ro') ∧ fModel_pass z m = some (v, m') ∧ DM d' ro' m' := by
  have a1 := h.1
  have n11 : d 1 11 = m 1 0 := a1.1.2.2.2.2.2.1
  have S0 : 0 ≤ m 1 0 ∧ m 1 0 ≤ 2880 := a1.2.2.2.2.2.2.1.1
  unfold fDesk_pass fModel_pass
  rw [in_eq hz (by unfold i32; omega) (by unfold i32; omega), Option.bind_some, tw hz.1 hz.2]
  by_cases x : 1 ≤ z ∧ z ≤ 120
  · rw [if_neg (by omega), if_pos x.2, n11, if_pos x, w1, if_neg n10, tw (x := m 1 0 + z) (by omega) (by omega)]
    by_cases y : m 1 0 + z ≤ 2880
    · rw [if_pos y, if_pos y]
      obtain ⟨d1, ro1, m1, eD, eM, hD, kd, k0, km, km0⟩ := record_eq h
      have q1 : m1 1 = m 1 := km 1 (by omega) (by omega)
      rw [eD, eM, Option.bind_some, Option.bind_some]
      dsimp only
      rw [manyIn_eq hD.1 (x := 5) (by omega), Option.bind_some, manyIn_eq hD.1 (x := 6) (by omega), Option.bind_some]
      obtain ⟨k, d2, m2, e1, e2, x1, x2, x3, x4, x5, x6⟩ := mins_eq (d := d1) (m := m1) (n := z) hD.1 hD.2.1 (by omega) (by rw [q1]; omega) ro1 (d5 (m1 1) 5 + d5 (m1 1) 6)
      rw [e1, e2, Option.bind_some, Option.bind_some]
      dsimp only
      rw [manyIn_eq x1 (x := 5) (by omega), Option.bind_some, manyIn_eq x1 (x := 6) (by omega), Option.bind_some]
      refine ⟨_, _, _, _, rfl, ?_, DM_now hD x4 (x5 2 (by omega) (by omega) (by omega)) (x5 3 (by omega) (by omega) (by omega)) (x5 5 (by omega) (by omega) (by omega)) (x6 2 (by omega)) (x6 4 (by omega)) (x6 7 (by omega)) x1 x2⟩
      have : d5 (m2 1) 5 + d5 (m2 1) 6 - (d5 (m1 1) 5 + d5 (m1 1) 6) = k := by
        unfold dn at x3
        omega
      rw [this]
    · rw [if_neg y, if_neg y]
      exact ⟨_, _, _, _, rfl, rfl, h⟩
  · rw [if_neg x, w0, if_pos rfl]
    by_cases y : z < 1
    · rw [if_pos y]
      exact ⟨_, _, _, _, rfl, rfl, h⟩
    · rw [if_neg y, if_neg (by omega)]
      exact ⟨_, _, _, _, rfl, rfl, h⟩
