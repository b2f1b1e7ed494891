/-! ===== undo and restore ===== -/
theorem lays_now {s m : MI} (h : RS s (m 1)) : ∃ m', fModel_laysWays m = some m' ∧ (∀ d, ¬ d = 6 → ¬ d = 7 → m' d = m d) ∧ wk s m' := by
  obtain ⟨a1, a2, a3, a4, a5, a6, b1, b2, b3⟩ := h
  obtain ⟨m', e, q, w⟩ := lays_eq b2
  have q1 := q 1 (by omega) (by omega)
  exact ⟨m', e, q, by rw [q1]; exact a2, w, by rw [q1]; exact b2⟩
theorem DM_pop {d m : MI} {ro : Nat → Nat} {r : Nat} (h : DM d ro m) (hr : d 0 4 = ((r + 1 : Nat) : Int)) : r < 4 ∧ m 0 2 = ((r + 1 : Nat) : Int) ∧ ro r < 4 ∧ RS (sm_lo (188 + 61 * ro r) d) (fun k => m 2 (810 * r + k)) ∧ DM (sm_up d 0 4 (r : Int)) ro (sm_up m 0 2 (r : Int)) := by
  obtain ⟨h1, h2, ⟨r', r4, dr, mr, hp⟩, ⟨hro, hinj⟩, hk, L, L6, dL, mL, hL⟩ := h
  have e : r' = r + 1 := by rw [hr] at dr; omega
  subst e
  have ed : ∀ a, ¬ a = 0 → sm_up d 0 4 (r : Int) a = d a := fun a ha => up_D ha
  have em : ∀ a, ¬ a = 0 → sm_up m 0 2 (r : Int) a = m a := fun a ha => up_D ha
  refine ⟨by omega, mr, hro r (by omega), hp r (by omega), ?_, ?_, ⟨r, by omega, up_s _ _ _ _, up_s _ _ _ _, fun i hi => ?_⟩, ⟨hro, hinj⟩, ?_, L, L6, by rw [ed 185 (by omega)]; exact dL, by rw [up_j (by omega)]; exact mL, fun k hk' => by rw [ed 186 (by omega), em 5 (by omega)]; exact hL k hk'⟩
  · rw [em 1 (by omega)]
    exact RS_61 h1 (fun x hx => ed _ (by omega))
  · exact wk_m (wk_61 h2 (fun x hx => ed _ (by omega))) (em 1 (by omega)) (em 6 (by omega)) (em 7 (by omega))
  · rw [em 2 (by omega)]
    exact RS_61 (hp i (by omega)) (fun x hx => ed _ (by omega))
  · rw [up_j (by omega), up_j (by omega), em 3 (by omega)]
    rcases hk with x | ⟨x, y, z⟩
    · exact Or.inl x
    · exact Or.inr ⟨x, y, RS_61 z (fun j hj => ed _ (by omega))⟩
theorem back_eq {d m : MI} {ro : Nat → Nat} {N : Nat → Int} {P : MI} {c a : Nat} (h : DM d ro m) (hP : RS P N) (hc : ¬ c = 1) (ha : a + 810 ≤ 4000) (hN : ∀ k, k < 810 → N k = m c (a + k)) {m0 : Nat} (h0 : m0 ≤ 4000) (ha0 : a + 810 ≤ m0) :
    ∃ m1 m', fModel_copies c m0 (a : Int) 1 810 0 m = some m1 ∧ fModel_laysWays m1 = some m' ∧ DM (sm_gl 1 61 P d) ro m' ∧ m' 0 = m 0 ∧ sm_gl 1 61 P d 1 11 = m' 1 0 := by
  obtain ⟨m1, eM, q⟩ := copies_eq (m := m) (d0 := c) (d2 := 1) (a := a) (b := 0) (m0 := m0) (m2 := 810) hc ha0 (by omega) h0 (by omega)
  have hR1 : RS (sm_lo 1 (sm_gl 1 61 P d)) (m1 1) := by
    refine RS_61 (RS_row hP (fun i hi => ?_)) (fun x hx => lo_gl P d hx)
    rw [q, if_pos ⟨rfl, by omega, by omega⟩, hN i hi, show i - 0 = i by omega]
  obtain ⟨m', eL, qL, hW⟩ := lays_now hR1
  have hq : ∀ a, ¬ a = 1 → ¬ a = 6 → ¬ a = 7 → m' a = m a := fun a x y z => by
    rw [qL a y z]
    funext j
    rw [q, if_neg (fun e => x e.1)]
  have q1 := qL 1 (by omega) (by omega)
  have q0 := hq 0 (by omega) (by omega) (by omega)
  have hR2 : RS (sm_lo 1 (sm_gl 1 61 P d)) (m' 1) := by rw [q1]; exact hR1
  refine ⟨m1, m', eM, eL, DM_now h (fun a ha => ?_) (hq 2 (by omega) (by omega) (by omega)) (hq 3 (by omega) (by omega) (by omega)) (hq 5 (by omega) (by omega) (by omega)) (by rw [q0]) (by rw [q0]) (by rw [q0]) hR2 hW, q0, hR2.1.2.2.2.2.2.1⟩
  funext j
  exact gl_o (by omega)
theorem undo_eq {d m : MI} {ro : Nat → Nat} (h : DM d ro m) : ∃ v d' ro' m', fDesk_undo d ro = some (v, d', ro') ∧ fModel_undo m = some (v, m') ∧ DM d' ro' m' := by
  have H := h
  obtain ⟨_, _, ⟨r, r4, dr, mr, _⟩, _⟩ := h
  unfold fDesk_undo fModel_undo
  rw [tw (x := d 0 4) (by omega) (by omega), tw (x := m 0 2) (by omega) (by omega)]
  by_cases z : r = 0
  · rw [if_pos (by omega), if_pos (by omega)]
    exact ⟨_, _, _, _, rfl, rfl, H⟩
  · obtain ⟨k, rfl⟩ : ∃ k, r = k + 1 := ⟨r - 1, by omega⟩
    obtain ⟨k4, _, hk, hR, hD⟩ := DM_pop H dr
    have eN : (((k + 1 : Nat)) : Int) - 1 = (k : Int) := by omega
    rw [if_neg (by omega), if_pos (by omega), if_neg (by omega), dr, mr, eN, Option.bind_some, Option.bind_some, up_s, tw (x := (k : Int)) (by omega) (by omega), if_pos (by omega), show ((k : Int)).toNat = k by omega, if_pos hk, up_s]
    obtain ⟨P, eP, hP⟩ := copyFrom_eq (s := sm_lo 1 (sm_up d 0 4 (k : Int))) (RS_61 (s' := sm_lo (188 + 61 * ro k) (sm_up d 0 4 (k : Int))) hR (fun x hx => up_D (by omega)))
    obtain ⟨m1, m2, e1, e2, hD2, q0, _⟩ := back_eq (c := 2) (a := 810 * k) (m0 := 3240) hD hP (by omega) (by omega) (fun j hj => by rw [up_d (by omega : ¬ 2 = 0)]) (by omega) (by omega)
    rw [eP, Option.bind_some, Option.bind_some, show (k : Int) * 810 = ((810 * k : Nat) : Int) by omega]
    refine ⟨(k : Int), _, _, m2, ?_, ?_, hD2⟩
    · rw [gl_o (by omega), up_s]
    · rw [show fModel_copies 2 3240 ((810 * k : Nat) : Int) 1 810 0 (sm_up m 0 2 (k : Int)) = some m1 from e1, Option.bind_some, e2, Option.bind_some, q0, up_s]
theorem restore_eq {d m : MI} {ro : Nat → Nat} (h : DM d ro m) : ∃ v d' ro' m', fDesk_restore d ro = some (v, d', ro') ∧ fModel_restore m = some (v, m') ∧ DM d' ro' m' := by
  have H := h
  obtain ⟨_, _, _, _, hk, _⟩ := h
  unfold fDesk_restore fModel_restore
  rcases hk with ⟨x, y⟩ | ⟨x, y, z⟩
  · rw [x, y, w0, if_pos rfl, if_pos rfl]
    exact ⟨_, _, _, _, rfl, rfl, H⟩
  · rw [x, y, w1, if_neg (by omega), if_neg (by omega)]
    obtain ⟨d1, ro1, m1, eD, eM, hD, kd, k0, km, km0⟩ := record_eq H
    rw [eD, eM, Option.bind_some, Option.bind_some]
    dsimp only
    have hk1 : RS (sm_lo 62 d1) (m1 3) := by
      rw [km 3 (by omega) (by omega)]
      exact RS_61 z (fun j hj => kd _ (by omega) (by omega))
    obtain ⟨P, eP, hP⟩ := copyFrom_eq (s := sm_lo 1 d1) hk1
    obtain ⟨m2, m3, e1, e2, hD2, q0, e11⟩ := back_eq (c := 3) (a := 0) (m0 := 810) hD hP (by omega) (by omega) (fun j hj => by rw [Nat.zero_add]) (by omega) (by omega)
    rw [eP, Option.bind_some, Option.bind_some]
    refine ⟨m3 1 0, _, _, m3, ?_, ?_, hD2⟩
    · rw [e11]
    · rw [show fModel_copies 3 810 0 1 810 0 m1 = some m2 from e1, Option.bind_some, e2, Option.bind_some]
