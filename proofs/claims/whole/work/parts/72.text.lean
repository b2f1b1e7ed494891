/-! ===== the text is typed and cleared ===== -/
theorem DM_text {d d' m m' : MI} {ro : Nat → Nat} (h : DM d ro m) (e : ∀ a, a < 185 ∨ 188 ≤ a → d' a = d a) (em : ∀ a, ¬ a = 0 → ¬ a = 5 → m' a = m a) (e2 : m' 0 2 = m 0 2) (e4 : m' 0 4 = m 0 4)
    (hL : ∃ L : Nat, L ≤ 60 ∧ d' 185 1 = (L : Int) ∧ m' 0 7 = (L : Int) ∧ ∀ k, k < L → d' 186 k = m' 5 k ∧ 0 ≤ m' 5 k ∧ m' 5 k ≤ 65535) : DM d' ro m' := by
  obtain ⟨h1, h2, ⟨r, r4, dr, mr, hp⟩, hro, hk, _⟩ := h
  have c0 := e 0 (by omega)
  refine ⟨?_, ?_, ⟨r, r4, by rw [c0]; exact dr, by rw [e2]; exact mr, fun i hi => ?_⟩, hro, ?_, hL⟩
  · rw [em 1 (by omega) (by omega)]
    exact RS_61 h1 (fun x hx => e (1 + x) (by omega))
  · exact wk_m (wk_61 h2 (fun x hx => e (1 + x) (by omega))) (em 1 (by omega) (by omega)) (em 6 (by omega) (by omega)) (em 7 (by omega) (by omega))
  · rw [em 2 (by omega) (by omega)]
    exact RS_61 (hp i hi) (fun x hx => e _ (by omega))
  · rw [c0, e4, em 3 (by omega) (by omega)]
    rcases hk with x | ⟨x, y, z⟩
    · exact Or.inl x
    · exact Or.inr ⟨x, y, RS_61 z (fun j hj => e _ (by omega))⟩
theorem clearText_eq {d m : MI} {ro : Nat → Nat} (h : DM d ro m) : ∃ v d' m', fDesk_clearText d = some (v, d') ∧ fModel_clearText m = some (v, m') ∧ DM d' ro m' := by
  have H := h
  obtain ⟨_, _, _, _, _, L, L6, dL, mL, hL⟩ := h
  refine ⟨(L : Int), sm_up d 185 1 0, sm_up m 0 7 0, ?_, ?_, DM_text H (fun a ha => up_D (by omega)) (fun a h0 _ => up_D h0) (up_j (by omega)) (up_j (by omega)) ⟨0, by omega, up_s _ _ _ _, up_s _ _ _ _, fun k hk => absurd hk (by omega)⟩⟩
  · unfold fDesk_clearText
    rw [Option.bind_some, dL]
  · unfold fModel_clearText
    rw [Option.bind_some, mL]
theorem type_eq {d m : MI} {ro : Nat → Nat} {z : Int} (h : DM d ro m) (hz : 0 ≤ z ∧ z ≤ 65535) : ∃ v d' m', fDesk_type z d = some (v, d') ∧ fModel_type z m = some (v, m') ∧ DM d' ro m' := by
  have H := h
  obtain ⟨_, _, _, _, _, L, L6, dL, mL, hL⟩ := h
  have wL : sm_w (L : Int) = L := tw (by omega) (by omega)
  have lo1 : sm_lo 185 d 0 1 = (L : Int) := dL
  by_cases q : L = 60
  · have eA : fText_append z (sm_lo 185 d) = some (0, sm_lo 185 d) := by
      unfold fText_append
      rw [lo1, wL, if_neg (by omega)]
    have eg : sm_gl 185 3 (sm_lo 185 d) d = d := by
      funext a j
      unfold sm_gl
      by_cases x : 185 ≤ a ∧ a < 185 + 3
      · rw [if_pos x, lo_at, show 185 + (a - 185) = a by omega]
      · rw [if_neg x]
    refine ⟨-3, d, m, ?_, ?_, H⟩
    · unfold fDesk_type
      rw [eA, Option.bind_some]
      dsimp only
      rw [eg, Option.bind_some, w0, if_pos rfl]
    · unfold fModel_type
      rw [mL, wL, if_pos (by omega)]
  · have eA : fText_append z (sm_lo 185 d) = some (1, sm_up (sm_up (sm_lo 185 d) 1 L z) 0 1 ((L : Int) + 1)) := by
      unfold fText_append
      rw [lo1, wL, if_pos (by omega), if_pos (by omega), if_pos (by omega), show ((L : Int)).toNat = L by omega, Option.bind_some, up_d (by omega : ¬ 0 = 1), lo1, Option.bind_some]
    have g1 : sm_gl 185 3 (sm_up (sm_up (sm_lo 185 d) 1 L z) 0 1 ((L : Int) + 1)) d 185 1 = (L : Int) + 1 := by
      rw [gl_i (by omega) (by omega)]
      exact up_s _ _ _ _
    have g2 : ∀ k, sm_gl 185 3 (sm_up (sm_up (sm_lo 185 d) 1 L z) 0 1 ((L : Int) + 1)) d 186 k = if k = L then z else d 186 k := fun k => by
      rw [gl_i (by omega) (by omega), show 186 - 185 = 1 from rfl, up_d (by omega : ¬ 1 = 0), up_k]
      rfl
    refine ⟨(L : Int) + 1, sm_gl 185 3 (sm_up (sm_up (sm_lo 185 d) 1 L z) 0 1 ((L : Int) + 1)) d, sm_up (sm_up m 5 L z) 0 7 ((L : Int) + 1), ?_, ?_, DM_text H (fun a ha => ?_) (fun a h0 h5 => ?_) ?_ ?_ ⟨L + 1, by omega, by rw [g1]; push_cast; rfl, by rw [up_s]; push_cast; rfl, fun k hk => ?_⟩⟩
    · unfold fDesk_type
      rw [eA, Option.bind_some, Option.bind_some]
      dsimp only
      rw [w1, if_neg (by omega), g1]
    · unfold fModel_type
      rw [mL, wL, if_neg (by omega), if_pos (by omega), show ((L : Int)).toNat = L by omega, Option.bind_some, up_d (by omega : ¬ 0 = 5), mL, Option.bind_some, up_s]
    · funext j
      exact gl_o (by omega)
    · rw [up_D h0, up_D h5]
    · rw [up_j (by omega), up_d (by omega : ¬ 0 = 5)]
    · rw [up_j (by omega), up_d (by omega : ¬ 0 = 5)]
    · rw [g2, up_d (by omega : ¬ 5 = 0), up_k]
      by_cases x : k = L
      · rw [if_pos x, if_pos x]
        exact ⟨rfl, hz⟩
      · rw [if_neg x, if_neg x]
        exact hL k (by omega)
