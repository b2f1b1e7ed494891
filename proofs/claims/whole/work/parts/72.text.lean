/-! ===== the text is typed and cleared ===== -/
theorem DM_text {d d' m m' : MI} {ro : Nat → Nat} (h : DM d ro m) (e : ∀ a, a < 185 ∨ 188 ≤ a → d' a = d a) (em : ∀ a, ¬ a = 0 → ¬ a = 5 → m' a = m a) (e2 : m' 0 2 = m 0 2) (e4 : m' 0 4 = m 0 4)
    (hL : ∃ L : Nat, L ≤ 60 ∧ d' 185 1 = (L : Int) ∧ m' 0 7 = (L : Int) ∧ ∀ k, k < L → d' 186 k = m' 5 k ∧ 0 ≤ m' 5 k ∧ m' 5 k ≤ 65535) : DM d' ro m' := by
  obtain ⟨h1, h2, ⟨r, r4, dr, mr, hp⟩, hro, hk, _⟩ := h
  have c0 := e 0 (by omega)
  refine ⟨?_, ?_, ⟨r, r4, by rw [c0]; exact dr, by rw [e2]; exact mr, fun i hi => ?_⟩, hro, ?_, hL⟩
  · rw [em 1 (by omega) (by omega)]
    exact RS_61 h1 (fun x hx => e (1 + x) (by omega))
  · exact wk_m (wk_61 h2 (fun x hx => e (1 + x) (by omega))) (em 1 (by omega) (by omega)) (em 6 (by omega) (by omega)) (em 7 (by omega) (by omega))
  · rw [em 2 (by omega) (by omega)]
    exact RS_61 (hp i hi) (fun x hx => e _ (by omega))
  · rw [c0, e4, em 3 (by omega) (by omega)]
    rcases hk with x | ⟨x, y, z⟩
    · exact Or.inl x
    · exact Or.inr ⟨x, y, RS_61 z (fun j hj => e _ (by omega))⟩
theorem clearText_eq {d m : MI} {ro : Nat → Nat} (h : DM d ro m) : ∃ v d' m', fDesk_clearText d = some (v, d') ∧ fModel_clearText m = some (v, m') ∧ DM d' ro m' := by
  have H := h
  obtain ⟨_, _, _, _, _, L, L6, dL, mL, hL⟩ := h
  refine ⟨(L : Int), sm_up d 185 1 0, sm_up m 0 7 0, ?_, ?_, DM_text H (fun a ha => up_D (by omega)) (fun a h0 _ => up_D h0) (up_j (by omega)) (up_j (by omega)) ⟨0, by omega, up_s _ _ _ _, up_s _ _ _ _, fun k hk => absurd hk (by omega)⟩⟩
  · unfold fDesk_clearText
    rw [Option.bind_some, dL]
  · unfold fModel_clearText
    rw [Option.bind_some, mL]
