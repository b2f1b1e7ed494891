/-! ===== the state is recorded ===== -/
theorem rec_j {d : MI} {ro : Nat → Nat} {N : Nat → Int} {r : Nat} (h : RS (sm_lo 1 d) N) (hr : d 0 4 = (r : Int)) (h4 : r < 4) (hro : ro r < 4) :
    ∃ d', fDesk_record_j54 d ro = some (d', ro) ∧ d' 0 4 = (r : Int) + 1 ∧ RS (sm_lo (188 + 61 * ro r) d') N ∧ (∀ a, ¬ a = 0 → a < 188 + 61 * ro r ∨ 249 + 61 * ro r ≤ a → d' a = d a) ∧ ∀ j, ¬ j = 4 → d' 0 j = d 0 j := by
  obtain ⟨P, eP, hP⟩ := copyFrom_eq (s := sm_lo (188 + 61 * ro r) d) h
  have g0 : ∀ j, sm_gl (188 + 61 * ro r) 61 P d 0 j = d 0 j := fun j => gl_o (by omega)
  refine ⟨sm_up (sm_gl (188 + 61 * ro r) 61 P d) 0 4 ((r : Int) + 1), ?_, up_s _ _ _ _, ?_, fun a h0 ha => ?_, fun j hj => by rw [up_j hj, g0]⟩
  · unfold fDesk_record_j54
    rw [hr, tw (x := (r : Int)) (by omega) (by omega), if_pos (by omega), show ((r : Int)).toNat = r by omega, if_pos hro, eP, Option.bind_some, Option.bind_some, g0, hr, Option.bind_some]
  · refine RS_61 hP (fun x hx => ?_)
    show sm_up (sm_gl (188 + 61 * ro r) 61 P d) 0 4 ((r : Int) + 1) (188 + 61 * ro r + x) = P x
    rw [up_D (by omega)]
    exact lo_gl P d hx
  · rw [up_D h0]
    funext j
    exact gl_o (by omega)
theorem ring_eq (d : MI) (ro : Nat → Nat) (h : ∀ i, i < 4 → ro i < 4) : ∃ r1, sl_it (fun (t : Int × (Nat → Nat)) => fDesk_record_l17 (ro 0) t.1 d t.2) sl_fu (1, ro) = some r1 ∧ ∀ k, k < 3 → r1 k = ro (k + 1) := by
  refine it_inv (f := fun (t : Int × (Nat → Nat)) => fDesk_record_l17 (ro 0) t.1 d t.2) (fun t => ∃ i : Nat, 1 ≤ i ∧ i ≤ 4 ∧ t.1 = (i : Int) ∧ ∀ k, k < 4 → t.2 k = if k + 1 < i then ro (k + 1) else ro k) (fun y => ∀ k, k < 3 → y k = ro (k + 1)) (fun t => (4 - t.1).toNat) (fun t ⟨i, i1, i4, ei, hk⟩ => ?_) sl_fu (1, ro) ⟨1, by omega, by omega, rfl, fun k _ => by rw [if_neg (by omega)]⟩ (by show (4 - (1 : Int)).toNat < 5000; omega)
  obtain ⟨z, f⟩ := t
  dsimp only at ei hk ⊢
  subst ei
  have wi : sm_w (i : Int) = i := tw (by omega) (by omega)
  have wj : sm_w ((i : Int) - 1) = (i : Int) - 1 := tw (by omega) (by omega)
  by_cases z : i = 4
  · right
    refine ⟨f, ?_, fun k hk' => ?_⟩
    · unfold fDesk_record_l17
      rw [wi, if_pos (by omega)]
    · rw [hk k (by omega), if_pos (by omega)]
  · left
    have hi := hk i (by omega)
    rw [if_neg (by omega)] at hi
    refine ⟨((i : Int) + 1, sl_upN f (i - 1) (ro i)), ?_, ⟨i + 1, by omega, by omega, by push_cast; rfl, fun k hk' => ?_⟩, by dsimp only; omega⟩
    · unfold fDesk_record_l17
      rw [wi, wj, if_neg (by omega), if_pos (by omega), show ((i : Int)).toNat = i by omega, hi, if_pos (h i (by omega)), if_pos (by omega), show ((i : Int) - 1).toNat = i - 1 by omega]
    · dsimp only
      unfold sl_upN
      by_cases y : k = i - 1
      · rw [if_pos y, if_pos (by omega), show k + 1 = i by omega]
      · rw [if_neg y, hk k hk']
        by_cases x : k + 1 < i
        · rw [if_pos x, if_pos (by omega)]
        · rw [if_neg x, if_neg (by omega)]
theorem record_eq {d m : MI} {ro : Nat → Nat} (h : DM d ro m) : ∃ d' ro' m', fDesk_record d ro = some (d', ro') ∧ fModel_records m = some m' ∧ DM d' ro' m' ∧ (∀ a, ¬ a = 0 → a < 188 → d' a = d a) ∧ (∀ j, ¬ j = 4 → d' 0 j = d 0 j) ∧ (∀ a, ¬ a = 2 → ¬ a = 0 → m' a = m a) ∧ ∀ j, ¬ j = 2 → m' 0 j = m 0 j := by
  obtain ⟨h1, h2, ⟨r, r4, dr, mr, hp⟩, ⟨hro, hinj⟩, hk, L, L6, dL, mL, hL⟩ := h
  obtain ⟨m', eM, q2, qo, qa, qb⟩ := records_eq mr r4
  have ma : ∀ a, ¬ a = 2 → ¬ a = 0 → m' a = m a := fun a x y => by
    funext j
    exact qo a j x (fun e => y e.1)
  have m0 : ∀ j, ¬ j = 2 → m' 0 j = m 0 j := fun j x => qo 0 j (by omega) (fun e => x e.2)
  have fin : ∀ (d' : MI) (ro' : Nat → Nat), (∀ a, ¬ a = 0 → a < 188 → d' a = d a) → (∀ j, ¬ j = 4 → d' 0 j = d 0 j) → (∃ r : Nat, r ≤ 4 ∧ d' 0 4 = (r : Int) ∧ m' 0 2 = (r : Int) ∧ ∀ i, i < r → RS (sm_lo (188 + 61 * ro' i) d') (fun k => m' 2 (810 * i + k))) →
      ((∀ i, i < 4 → ro' i < 4) ∧ ∀ i j, i < 4 → j < 4 → ro' i = ro' j → i = j) → DM d' ro' m' := fun d' ro' x1 x2 x3 x4 => by
    refine ⟨?_, ?_, x3, x4, ?_, L, L6, ?_, ?_, fun k hk' => ?_⟩
    · rw [ma 1 (by omega) (by omega)]
      exact RS_61 h1 (fun x hx => x1 (1 + x) (by omega) (by omega))
    · exact wk_m (wk_61 h2 (fun x hx => x1 (1 + x) (by omega) (by omega))) (ma 1 (by omega) (by omega)) (ma 6 (by omega) (by omega)) (ma 7 (by omega) (by omega))
    · rw [x2 5 (by omega), m0 4 (by omega), ma 3 (by omega) (by omega)]
      rcases hk with x | ⟨x, y, z⟩
      · exact Or.inl x
      · exact Or.inr ⟨x, y, RS_61 z (fun j hj => x1 _ (by omega) (by omega))⟩
    · rw [x1 185 (by omega) (by omega)]; exact dL
    · rw [m0 7 (by omega)]; exact mL
    · rw [x1 186 (by omega) (by omega), ma 5 (by omega) (by omega)]
      exact hL k hk'
  by_cases z : r = 4
  · subst z
    obtain ⟨r1, eR, hR⟩ := ring_eq d ro hro
    have h1' : RS (sm_lo 1 (sm_up d 0 4 3)) (m 1) := RS_61 h1 (fun x hx => up_D (by omega))
    have n3 : sl_upN r1 3 (ro 0) 3 = ro 0 := by simp [sl_upN]
    have nk : ∀ k, k < 3 → sl_upN r1 3 (ro 0) k = ro (k + 1) := fun k hk' => by
      unfold sl_upN
      rw [if_neg (by omega)]
      exact hR k hk'
    obtain ⟨d', eD, k4, kR, kd, k0⟩ := rec_j (r := 3) (ro := sl_upN r1 3 (ro 0)) h1' (up_s _ _ _ _) (by omega) (by rw [n3]; exact hro 0 (by omega))
    rw [n3] at kR kd
    have xd : ∀ a, ¬ a = 0 → (a < 188 + 61 * ro 0 ∨ 249 + 61 * ro 0 ≤ a) → d' a = d a := fun a x y => (kd a x y).trans (up_D x)
    have xd1 : ∀ a, ¬ a = 0 → a < 188 → d' a = d a := fun a x y => xd a x (by omega)
    have xd0 : ∀ j, ¬ j = 4 → d' 0 j = d 0 j := fun j hj => (k0 j hj).trans (up_j hj)
    obtain ⟨qb1, qb2⟩ := qb rfl
    refine ⟨d', sl_upN r1 3 (ro 0), m', ?_, eM, fin _ _ xd1 xd0 ⟨4, by omega, k4, by rw [q2]; rfl, fun i hi => ?_⟩ ⟨fun i hi => ?_, fun i j hi hj e => ?_⟩, xd1, xd0, ma, m0⟩
    · unfold fDesk_record
      rw [dr, show ((4 : Nat) : Int) = 4 from rfl, tw (x := 4) (by omega) (by omega), if_neg (by omega), if_pos (hro 0 (by omega)), eR, Option.bind_some, Option.bind_some, eD]
    · by_cases y : i = 3
      · subst y
        rw [n3]
        exact RS_row kR (fun j hj => qb2 j hj)
      · rw [nk i (by omega)]
        have hne : ¬ ro (i + 1) = ro 0 := fun e => by
          have := hinj (i + 1) 0 (by omega) (by omega) e
          omega
        refine RS_row (RS_61 (hp (i + 1) (by omega)) (fun x hx => xd _ (by omega) (by omega))) (fun j hj => ?_)
        show m' 2 (810 * i + j) = m 2 (810 * (i + 1) + j)
        rw [qb1 _ (by omega), show 810 * i + j + 810 = 810 * (i + 1) + j by omega]
    · by_cases y : i = 3
      · rw [y, n3]; exact hro 0 (by omega)
      · rw [nk i (by omega)]; exact hro (i + 1) (by omega)
    · by_cases y : i = 3
      · by_cases y' : j = 3
        · omega
        · rw [y, n3, nk j (by omega)] at e
          have := hinj 0 (j + 1) (by omega) (by omega) e
          omega
      · by_cases y' : j = 3
        · rw [y', n3, nk i (by omega)] at e
          have := hinj (i + 1) 0 (by omega) (by omega) e
          omega
        · rw [nk i (by omega), nk j (by omega)] at e
          have := hinj (i + 1) (j + 1) (by omega) (by omega) e
          omega
  · obtain ⟨d', eD, k4, kR, kd, k0⟩ := rec_j h1 dr (by omega) (hro r (by omega))
    have xd1 : ∀ a, ¬ a = 0 → a < 188 → d' a = d a := fun a x y => kd a x (by omega)
    obtain ⟨qa1, qa2⟩ := qa (by omega)
    refine ⟨d', ro, m', ?_, eM, fin _ _ xd1 k0 ⟨r + 1, by omega, by rw [k4]; push_cast; rfl, by rw [q2, if_pos (by omega)]; push_cast; rfl, fun i hi => ?_⟩ ⟨hro, hinj⟩, xd1, k0, ma, m0⟩
    · unfold fDesk_record
      rw [dr, tw (x := (r : Int)) (by omega) (by omega), if_pos (by omega), eD]
    · by_cases y : i = r
      · subst y
        exact RS_row kR (fun j hj => qa2 j hj)
      · have hne : ¬ ro i = ro r := fun e => y (hinj i r (by omega) (by omega) e)
        refine RS_row (RS_61 (hp i (by omega)) (fun x hx => kd _ (by omega) (by omega))) (fun j hj => ?_)
        show m' 2 (810 * i + j) = m 2 (810 * i + j)
        exact qa1 _ (by omega)
