/-! ===== waitFor: a forecast on a copy ===== -/
theorem minute_n9 {s m m' : MI} (h : RS s (m 1)) (hw : wk s m) (hm : m 1 0 < 2880) (e : fModel_passes m = some m') : m' 1 9 = m 1 9 := by
  obtain ⟨k, s1, m1, x1, x2, x3, x4, x5, x6, x7⟩ := patrols_eq h hw
  obtain ⟨s2, m2, y1, y2, y3, y4, y5, y6⟩ := sends_eq x3 x4
  unfold fModel_passes at e
  rw [x2, Option.bind_some, y2, Option.bind_some] at e
  have e' : mS m2 0 (m2 1 0 + 1) = m' := Option.some.inj e
  rw [← e', n_mS (by omega)]
  exact (y5.2.2 9 (by omega)).trans (x5.2 9 (by omega))
theorem DM_tri {d d' m m' : MI} {ro : Nat → Nat} (h : DM d ro m) (e : ∀ a, a < 123 ∨ 184 ≤ a → d' a = d a) (e1 : ∀ j, j < 810 → m' 1 j = m 1 j) (e2 : m' 2 = m 2) (e3 : m' 3 = m 3) (e5 : m' 5 = m 5) (e6 : m' 6 = m 6) (e7 : m' 7 = m 7) (c2 : m' 0 2 = m 0 2) (c4 : m' 0 4 = m 0 4) (c7 : m' 0 7 = m 0 7) : DM d' ro m' := by
  obtain ⟨h1, h2, ⟨r, r4, dr, mr, hp⟩, hro, hk, L, L6, dL, mL, hL⟩ := h
  have q0 := e 0 (by omega)
  refine ⟨RS_row (RS_61 h1 (fun x hx => e (1 + x) (by omega))) e1, wk_up2 (wk_61 h2 (fun x hx => e (1 + x) (by omega))) rfl rfl e6 e7 (e1 5 (by omega)) (fun i _ _ => e1 i (by omega)), ⟨r, r4, by rw [q0]; exact dr, by rw [c2]; exact mr, fun i hi => ?_⟩, hro, ?_, L, L6, by rw [e 185 (by omega)]; exact dL, by rw [c7]; exact mL, fun k hk' => ?_⟩
  · rw [e2]
    exact RS_61 (hp i hi) (fun x hx => e _ (by omega))
  · rw [q0, c4, e3]
    rcases hk with x | ⟨x, y, z⟩
    · exact Or.inl x
    · exact Or.inr ⟨x, y, RS_61 z (fun j hj => e _ (by omega))⟩
  · rw [e 186 (by omega), e5]
    exact hL k hk'
theorem wait_loops {c : Nat} (c40 : c < 40) : ∀ (k i n : Nat) (dt mu : MI), i + k = 240 → k + 2 ≤ n → RS (sm_lo 123 dt) (mu 1) → wk (sm_lo 123 dt) mu → vC (mu 1) c 8 = -5 → (c : Int) < mu 1 9 →
    ∃ (y : MI ⊕ (Int × MI)) (d' mE : MI), sl_it (fun (t : Int × MI) => fDesk_waitFor_l54 (21 + c) t.1 t.2) n ((i : Int), dt) = some y ∧ sl_it (fun (t : Int × MI) => fModel_waitFor_l38 (c : Int) t.1 t.2) n ((i : Int), mu) = some mE ∧
      (∀ a, a < 123 ∨ 184 ≤ a → d' a = dt a) ∧ (∀ a, ¬ a = 1 → ¬ a = 8 → ¬ a = 0 → mE a = mu a) ∧ (∀ j, ¬ j = 11 → mE 0 j = mu 0 j) ∧ (-5 ≤ vC (mE 1) c 8 ∧ vC (mE 1) c 8 ≤ 5) ∧
      ((y = .inl d' ∧ vC (mE 1) c 8 = -5) ∨ (y = .inr (vC (mE 1) c 7, d') ∧ ¬ vC (mE 1) c 8 = -5)) := by
  intro k
  induction k with
  | zero =>
    intro i n dt mu hi hn hR hW h8 hc
    obtain ⟨n, rfl⟩ : ∃ n', n = n' + 1 := ⟨n - 1, by omega⟩
    have wi : sm_w (i : Int) = i := tw (by omega) (by omega)
    refine ⟨.inl dt, dt, mu, it_end _ ?_, it_end _ ?_, fun _ _ => rfl, fun _ _ _ _ => rfl, fun _ _ => rfl, by omega, Or.inl ⟨rfl, h8⟩⟩
    · dsimp only
      unfold fDesk_waitFor_l54
      rw [wi, if_pos (by omega)]
    · dsimp only
      unfold fModel_waitFor_l38
      rw [wi, if_pos (by omega)]
  | succ k ih =>
    intro i n dt mu hi hn hR hW h8 hc
    obtain ⟨n, rfl⟩ : ∃ n', n = n' + 2 := ⟨n - 2, by omega⟩
    have wi : sm_w (i : Int) = i := tw (by omega) (by omega)
    have S0 : 0 ≤ mu 1 0 ∧ mu 1 0 ≤ 2880 := hR.2.2.2.2.2.2.1.1
    have n11 : dt 123 11 = mu 1 0 := hR.1.2.2.2.2.2.1
    by_cases q : 2880 ≤ mu 1 0
    · refine ⟨.inl dt, dt, mu, it_end _ ?_, it_end _ ?_, fun _ _ => rfl, fun _ _ _ _ => rfl, fun _ _ => rfl, by omega, Or.inl ⟨rfl, h8⟩⟩
      · dsimp only
        unfold fDesk_waitFor_l54
        rw [wi, if_neg (by omega), n11, tw (x := mu 1 0) (by omega) (by omega), if_pos q]
      · dsimp only
        unfold fModel_waitFor_l38
        rw [wi, if_neg (by omega), tw (x := mu 1 0) (by omega) (by omega), if_pos q]
    · obtain ⟨v, P, m2, x1, x2, x3, x4, x5, x6, x7, x8, x9⟩ := minute_eq hR hW (by omega)
      have n9 := minute_n9 hR hW (by omega) x2
      have el : ∀ x, x < 61 → sm_lo 123 (sm_gl 123 61 P dt) x = P x := fun x hx => lo_gl P dt hx
      have hR2 : RS (sm_lo 123 (sm_gl 123 61 P dt)) (m2 1) := RS_61 x3 el
      have hW2 : wk (sm_lo 123 (sm_gl 123 61 P dt)) m2 := wk_61 x4 el
      have hc2 : (c : Int) < m2 1 9 := by rw [n9]; exact hc
      obtain ⟨cr, ci⟩ := RS_c hR2 hc2
      have S7 : 0 ≤ m2 1 7 ∧ m2 1 7 ≤ 6 := hR2.2.2.2.2.2.2.1.2.2.2.2.1
      have S0' : 0 ≤ m2 1 0 ∧ m2 1 0 ≤ 2880 := hR2.2.2.2.2.2.2.1.1
      obtain ⟨i8, i5, _⟩ := k_c8 ci S7.2
      have r6 : sm_gl 123 61 P dt (123 + (21 + c)) 6 = vC (m2 1) c 8 := cr.1.2.2.2.2.2.2
      have g11 : sm_gl 123 61 P dt 123 11 = m2 1 0 := hR2.1.2.2.2.2.2.1
      have cr' : cR (sm_gl 123 61 P dt (123 + (21 + c))) (vC (m2 1) c) := cr
      have eC : fDesk_waitFor_l54 (21 + c) (i : Int) dt = if vC (m2 1) c 8 = -5 then some (.inl ((i : Int) + 1, sm_gl 123 61 P dt)) else some (.inr (.inr (wtd (m2 1 0) (vC (m2 1) c), sm_gl 123 61 P dt))) := by
        unfold fDesk_waitFor_l54
        rw [wi, if_neg (by omega), n11, tw (x := mu 1 0) (by omega) (by omega), if_neg q, x1, Option.bind_some, Option.bind_some, r6, tw (x := vC (m2 1) c 8) (by omega) (by omega), g11, waited_c cr' ci S0'.2 S7.2, Option.bind_some]
      have eM : fModel_waitFor_l38 (c : Int) (i : Int) mu = some (.inl ((i : Int) + 1, m2)) := by
        unfold fModel_waitFor_l38
        rw [wi, if_neg (by omega), tw (x := mu 1 0) (by omega) (by omega), if_neg q, ofCall_8 c40, Option.bind_some, h8, tw (x := -5) (by omega) (by omega), if_pos rfl, x2, Option.bind_some]
      have fr : ∀ a, a < 123 ∨ 184 ≤ a → sm_gl 123 61 P dt a = dt a := fun a ha => by
        funext j
        exact gl_o (by omega)
      have ei : (i : Int) + 1 = ((i + 1 : Nat) : Int) := by omega
      by_cases u : vC (m2 1) c 8 = -5
      · rw [if_pos u] at eC
        obtain ⟨y, d', mE, y1, y2, y3, y4, y5, y6, y7⟩ := ih (i + 1) (n + 1) (sm_gl 123 61 P dt) m2 (by omega) (by omega) hR2 hW2 u hc2
        refine ⟨y, d', mE, ?_, ?_, fun a ha => (y3 a ha).trans (fr a ha), fun a e1 e2 e3 => (y4 a e1 e2 e3).trans (x8 a e1 e2 e3), fun j e => (y5 j e).trans (x9 j e), y6, y7⟩
        · rw [it_go (s' := ((i : Int) + 1, sm_gl 123 61 P dt)) (n + 1) eC, ei]
          exact y1
        · rw [it_go (s' := ((i : Int) + 1, m2)) (n + 1) eM, ei]
          exact y2
      · rw [if_neg u] at eC
        refine ⟨.inr (vC (m2 1) c 7, sm_gl 123 61 P dt), sm_gl 123 61 P dt, m2, it_end _ ?_, ?_, fr, x8, x9, i8, Or.inr ⟨rfl, u⟩⟩
        · have ew : wtd (m2 1 0) (vC (m2 1) c) = vC (m2 1) c 7 := by
            unfold wtd
            rw [if_neg (fun e => u e.1)]
          rw [← ew]
          exact eC
        · rw [it_go (s' := ((i : Int) + 1, m2)) (n + 1) eM]
          refine it_end _ ?_
          dsimp only
          unfold fModel_waitFor_l38
          rw [ofCall_8 c40, Option.bind_some, tw (x := vC (m2 1) c 8) (by omega) (by omega), if_neg u, ite_self, ite_self]
theorem waitFor_eq {d m : MI} {ro : Nat → Nat} {x : Int} (h : DM d ro m) (hx : i32 x) : ∃ v d' m', fDesk_waitFor x d = some (v, d') ∧ fModel_waitFor x m = some (v, m') ∧ DM d' ro m' := by
  have a1 := h.1
  have n8 : sm_lo 1 d 0 8 = m 1 9 := a1.1.2.2.2.1
  have S9 : 0 ≤ m 1 9 ∧ m 1 9 ≤ 40 := a1.2.2.2.2.2.2.1.2.2.2.2.2.2
  have S7 : 0 ≤ m 1 7 ∧ m 1 7 ≤ 6 := a1.2.2.2.2.2.2.1.2.2.2.2.1
  unfold fDesk_waitFor fModel_waitFor
  rw [isCall_c hx n8 S9, isCall_m hx S9, Option.bind_some, Option.bind_some, ix_w]
  by_cases q : 0 ≤ x ∧ x < m 1 9
  · rw [if_neg (ix_y q), if_neg (ix_y q)]
    obtain ⟨c, rfl⟩ : ∃ k : Nat, x = (k : Int) := ⟨x.toNat, by omega⟩
    have c40 : c < 40 := by omega
    obtain ⟨hR, hI⟩ := RS_c a1 q.2
    obtain ⟨i8, i5, i6⟩ := k_c8 hI S7.2
    have r5 : d (1 + (21 + c)) 5 = vC (m 1) c 5 := hR.1.2.2.2.2.2.1
    rw [tw (x := (c : Int)) (by omega) (by omega), if_pos (show (0 : Int) ≤ (c : Int) ∧ (c : Int) < 40 by omega), show ((c : Int)).toNat = c by omega, isUn_c (by rw [r5]; exact i5), Option.bind_some, r5, ofCall_5 c40, Option.bind_some, tw (x := vC (m 1) c 5) (by omega) (by omega)]
    by_cases u : vC (m 1) c 5 ≤ 1
    · have t8 := (k_cC (r := d 0) hI (by omega) a1.2.2.2.2.2.2.1.1.1).2.2.2
      obtain ⟨P, eP, hP⟩ := copyFrom_eq (s := sm_lo 123 d) a1
      obtain ⟨m1, eM, cq⟩ := copies_eq (m := m) (d0 := 1) (d2 := 4) (a := 0) (b := 0) (m0 := 810) (m2 := 810) (by omega) (by omega) (by omega) (by omega) (by omega)
      have m1d : ∀ a, ¬ a = 4 → m1 a = m a := fun a ha => by
        funext j
        rw [cq, if_neg (fun e => ha e.1)]
      have m14 : ∀ j, j < 810 → m1 4 j = m 1 j := fun j hj => by rw [cq, if_pos ⟨rfl, by omega, by omega⟩, show 0 + (j - 0) = j by omega]
      have el : ∀ i, i < 61 → sm_lo 123 (sm_gl 123 61 P d) i = P i := fun i hi => lo_gl P d hi
      have m11 := m1d 1 (by omega)
      obtain ⟨y, d', mE, y1, y2, y3, y4, y5, y6, y7⟩ := wait_loops c40 240 0 5000 (sm_gl 123 61 P d) m1 (by omega) (by omega) (by rw [m11]; exact RS_61 hP el) (by
        refine ⟨?_, ?_, ?_⟩
        · rw [m11]
          exact (RS_61 hP el).2.1
        · unfold wOK
          rw [m11, m1d 6 (by omega), m1d 7 (by omega)]
          exact h.2.1.2.1
        · rw [m11]
          exact h.2.1.2.2) (by rw [m11]; exact t8) (by rw [m11]; exact q.2)
      have y1' : sl_it (fun (t : Int × MI) => fDesk_waitFor_l54 (21 + c) t.1 t.2) sl_fu (0, sm_gl 123 61 P d) = some y := y1
      have y2' : sl_it (fun (t : Int × MI) => fModel_waitFor_l38 (c : Int) t.1 t.2) sl_fu (0, m1) = some mE := y2
      obtain ⟨m3, eM3, cq3⟩ := copies_eq (m := mE) (d0 := 4) (d2 := 1) (a := 0) (b := 0) (m0 := 810) (m2 := 810) (by omega) (by omega) (by omega) (by omega) (by omega)
      have m3d : ∀ a, ¬ a = 1 → m3 a = mE a := fun a ha => by
        funext j
        rw [cq3, if_neg (fun e => ha e.1)]
      have hD : DM d' ro m3 := by
        refine DM_tri h (fun a ha => ?_) (fun j hj => ?_) ?_ ?_ ?_ ?_ ?_ ?_ ?_ ?_
        · rw [y3 a ha]
          funext j
          exact gl_o (by omega)
        · rw [cq3, if_pos ⟨rfl, by omega, by omega⟩, y4 4 (by omega) (by omega) (by omega), show 0 + (j - 0) = j by omega]
          exact m14 j hj
        · rw [m3d 2 (by omega), y4 2 (by omega) (by omega) (by omega), m1d 2 (by omega)]
        · rw [m3d 3 (by omega), y4 3 (by omega) (by omega) (by omega), m1d 3 (by omega)]
        · rw [m3d 5 (by omega), y4 5 (by omega) (by omega) (by omega), m1d 5 (by omega)]
        · rw [m3d 6 (by omega), y4 6 (by omega) (by omega) (by omega), m1d 6 (by omega)]
        · rw [m3d 7 (by omega), y4 7 (by omega) (by omega) (by omega), m1d 7 (by omega)]
        · rw [m3d 0 (by omega), y5 2 (by omega), m1d 0 (by omega)]
        · rw [m3d 0 (by omega), y5 4 (by omega), m1d 0 (by omega)]
        · rw [m3d 0 (by omega), y5 7 (by omega), m1d 0 (by omega)]
      have eMc : fModel_copies 1 810 0 4 810 0 m = some m1 := eM
      have eM3c : fModel_copies 4 810 0 1 810 0 mE = some m3 := eM3
      rw [if_pos u, if_pos u, w1, if_neg n10, eP, Option.bind_some, Option.bind_some, y1', Option.bind_some, eMc, Option.bind_some, y2', Option.bind_some]
      unfold fModel_waitFor_j79 fModel_waitFor_j103
      rw [ofCall_8 c40, Option.bind_some, tw (x := vC (mE 1) c 8) (by omega) (by omega), ofCall_7 c40, Option.bind_some, eM3c, Option.bind_some, Option.bind_some]
      rcases y7 with ⟨rfl, e⟩ | ⟨rfl, e⟩
      · rw [if_pos e]
        exact ⟨_, _, _, rfl, rfl, hD⟩
      · rw [if_neg e]
        exact ⟨_, _, _, rfl, rfl, hD⟩
    · rw [if_neg u, if_neg u, w0, if_pos rfl]
      exact ⟨_, _, _, rfl, rfl, h⟩
  · rw [if_pos (ix_n q), if_pos (ix_n q)]
    exact ⟨_, _, _, rfl, rfl, h⟩
