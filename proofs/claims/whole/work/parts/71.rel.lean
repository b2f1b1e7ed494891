/-! ===== the desk beside the model ===== -/
def DM (d : MI) (ro : Nat → Nat) (m : MI) : Prop := RS (sm_lo 1 d) (m 1) ∧ wk (sm_lo 1 d) m ∧ (∃ r : Nat, r ≤ 4 ∧ d 0 4 = (r : Int) ∧ m 0 2 = (r : Int) ∧ ∀ i, i < r → RS (sm_lo (188 + 61 * ro i) d) (fun k => m 2 (810 * i + k))) ∧
  ((∀ i, i < 4 → ro i < 4) ∧ ∀ i j, i < 4 → j < 4 → ro i = ro j → i = j) ∧ ((d 0 5 = 0 ∧ m 0 4 = 0) ∨ (d 0 5 = 1 ∧ m 0 4 = 1 ∧ RS (sm_lo 62 d) (m 3))) ∧
  ∃ L : Nat, L ≤ 60 ∧ d 185 1 = (L : Int) ∧ m 0 7 = (L : Int) ∧ ∀ k, k < L → d 186 k = m 5 k ∧ 0 ≤ m 5 k ∧ m 5 k ≤ 65535
theorem wk_m {s m m' : MI} (h : wk s m) (e1 : m' 1 = m 1) (e6 : m' 6 = m 6) (e7 : m' 7 = m 7) : wk s m' := by
  obtain ⟨a, b, c⟩ := h
  refine ⟨by rw [e1]; exact a, ?_, by rw [e1]; exact c⟩
  unfold wOK
  rw [e1, e6, e7]
  exact b
theorem keep_eq {d m : MI} {ro : Nat → Nat} (h : DM d ro m) : ∃ v d' m', fDesk_keep d = some (v, d') ∧ fModel_keep m = some (v, m') ∧ DM d' ro m' := by
  obtain ⟨h1, h2, ⟨r, r4, dr, mr, hp⟩, hro, hk, L, L6, dL, mL, hL⟩ := h
  obtain ⟨P, eP, hP⟩ := copyFrom_eq (s := sm_lo 62 d) h1
  obtain ⟨m1, eM, q⟩ := copies_eq (m := m) (d0 := 1) (d2 := 3) (a := 0) (b := 0) (m0 := 810) (m2 := 810) (by omega) (by omega) (by omega) (by omega) (by omega)
  have ed : ∀ a, ¬ a = 0 → ¬ (62 ≤ a ∧ a < 123) → sm_up (sm_gl 62 61 P d) 0 5 1 a = d a := fun a h0 ha => by
    rw [up_D h0]
    funext j
    exact gl_o (by omega)
  have em : ∀ a, ¬ a = 0 → ¬ a = 3 → sm_up m1 0 4 1 a = m a := fun a h0 h3 => by
    rw [up_D h0]
    funext j
    rw [q, if_neg (fun e => h3 e.1)]
  have em0 : ∀ j, ¬ j = 4 → sm_up m1 0 4 1 0 j = m 0 j := fun j hj => by rw [up_j hj, q, if_neg (by omega)]
  have ed0 : ∀ j, ¬ j = 5 → sm_up (sm_gl 62 61 P d) 0 5 1 0 j = d 0 j := fun j hj => by rw [up_j hj]; exact gl_o (by omega)
  have n11 : d 1 11 = m 1 0 := h1.1.2.2.2.2.2.1
  refine ⟨m 1 0, sm_up (sm_gl 62 61 P d) 0 5 1, sm_up m1 0 4 1, ?_, ?_, ?_, ?_, ⟨r, r4, ?_, ?_, fun i hi => ?_⟩, hro, Or.inr ⟨up_s _ _ _ _, up_s _ _ _ _, ?_⟩, L, L6, ?_, ?_, fun k hk' => ?_⟩
  · unfold fDesk_keep
    rw [eP, Option.bind_some, Option.bind_some, Option.bind_some, ed 1 (by omega) (by omega), n11]
  · unfold fModel_keep
    have := congrArg (fun x => Option.bind x (fun p1 => Option.bind (some (sm_up p1 0 4 1)) (fun s4 => some ((s4 1 0), s4)))) eM
    refine this.trans ?_
    rw [Option.bind_some, Option.bind_some, em 1 (by omega) (by omega)]
  · rw [em 1 (by omega) (by omega)]
    exact RS_61 h1 (fun x hx => ed (1 + x) (by omega) (by omega))
  · exact wk_m (wk_61 h2 (fun x hx => ed (1 + x) (by omega) (by omega))) (em 1 (by omega) (by omega)) (em 6 (by omega) (by omega)) (em 7 (by omega) (by omega))
  · rw [ed0 4 (by omega)]; exact dr
  · rw [em0 2 (by omega)]; exact mr
  · rw [em 2 (by omega) (by omega)]
    exact RS_61 (hp i hi) (fun x hx => ed _ (by omega) (by omega))
  · refine RS_row (N := m 1) (RS_61 hP (fun x hx => ?_)) (fun i hi => ?_)
    · show sm_up (sm_gl 62 61 P d) 0 5 1 (62 + x) = P x
      rw [up_D (by omega)]
      exact lo_gl P d hx
    · rw [up_d (by omega : ¬ 3 = 0), q, if_pos ⟨rfl, by omega, by omega⟩, show 0 + (i - 0) = i by omega]
  · rw [ed 185 (by omega) (by omega)]; exact dL
  · rw [em0 7 (by omega)]; exact mL
  · rw [ed 186 (by omega) (by omega), em 5 (by omega) (by omega)]
    exact hL k hk'
