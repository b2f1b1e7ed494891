/-! ===== many minutes ===== -/
theorem RS_61 {s s' : MI} {N : Nat → Int} (h : RS s N) (e : ∀ x, x < 61 → s' x = s x) : RS s' N := by
  obtain ⟨a1, a2, a3, a4, a5, a6, b1, b2, b3, b4, b5, b6, b7, b8⟩ := h
  have S := b1
  obtain ⟨S0, S1, S2, S6, S7, S8, S9⟩ := b1
  refine ⟨?_, ?_, ?_, ?_, ?_, ?_, S, b2, b3, b4, b5, b6, b7, b8⟩
  · unfold sR
    rw [e 0 (by omega), e 8 (by omega), e 1 (by omega)]
    exact a1
  · unfold mR
    rw [e 2 (by omega), e 3 (by omega)]
    exact a2
  · rw [e 4 (by omega)]
    exact a3
  · intro p hp
    rw [e (10 + p) (by omega)]
    exact a4 p hp
  · intro g hg
    rw [e (16 + g) (by omega)]
    exact a5 g hg
  · intro c hc
    rw [e (21 + c) (by omega)]
    exact a6 c hc
theorem wk_61 {s s' m : MI} (h : wk s m) (e : ∀ x, x < 61 → s' x = s x) : wk s' m := by
  refine ⟨?_, h.2⟩
  unfold mR
  rw [e 2 (by omega), e 3 (by omega)]
  exact h.1
theorem lo_gl {o n : Nat} (P d : MI) {x : Nat} (hx : x < n) : sm_lo o (sm_gl o n P d) x = P x := by
  funext j
  rw [lo_at, gl_i (by omega) (by omega), Nat.add_sub_cancel_left]
theorem manyIn_eq {s m : MI} (h : RS s (m 1)) {x : Int} (hx : 0 ≤ x ∧ x ≤ 7) : fModel_manyIn x m = some (d5 (m 1) x) := by
  obtain ⟨a1, a2, a3, a4, a5, a6, b1, b2, b3, b4, b5, b6, b7, b8⟩ := h
  obtain ⟨S0, S1, S2, S6, S7, S8, S9⟩ := b1
  unfold fModel_manyIn d5
  rw [it_sum (n := (m 1 9).toNat) (g := fun c => if vC (m 1) c 5 = x then 1 else 0) (by omega) (fun i acc hi => by
    have i5 : 0 ≤ vC (m 1) i 5 ∧ vC (m 1) i 5 ≤ 7 := by
      obtain ⟨_, _, _, _, _, _, y⟩ := b6 i (by omega)
      unfold cS at y
      omega
    dsimp only
    unfold fModel_manyIn_l4 fModel_manyIn_j31_l4
    rw [tw (x := (i : Int)) (by omega) (by omega), tw (x := m 1 9) (by omega) (by omega), if_neg (by omega), ofCall_5 (by omega), Option.bind_some, tw (x := vC (m 1) i 5) (by omega) (by omega), tw (x := x) (by omega) (by omega)]
    by_cases z : vC (m 1) i 5 = x
    · rw [if_pos z, if_pos z]
    · rw [if_neg z, if_neg z]) (fun acc => by
    dsimp only
    unfold fModel_manyIn_l4
    rw [tw (x := (((m 1 9).toNat : Nat) : Int)) (by omega) (by omega), tw (x := m 1 9) (by omega) (by omega), if_pos (by omega)])]
  rfl
theorem mins_eq {d m : MI} {n : Int} (h : RS (sm_lo 1 d) (m 1)) (hw : wk (sm_lo 1 d) m) (hn : 0 ≤ n ∧ n ≤ 120) (hm : m 1 0 + n ≤ 2880) (ro : Nat → Nat) (z2 : Int) :
    ∃ k d' m', sl_it (fun (t : Int × Int × MI) => fDesk_pass_l40 n t.1 t.2.1 t.2.2 ro) sl_fu (0, 0, d) = some (k, d') ∧ sl_it (fun (t : Int × MI) => fModel_pass_l49 n z2 t.1 t.2) sl_fu (0, m) = some m' ∧ RS (sm_lo 1 d') (m' 1) ∧ wk (sm_lo 1 d') m' ∧ dn (m' 1) = dn (m 1) + k ∧ (∀ a, a < 1 ∨ 62 ≤ a → d' a = d a) ∧
      (∀ a, ¬ a = 1 → ¬ a = 8 → ¬ a = 0 → m' a = m a) ∧ (∀ i, ¬ i = 11 → m' 0 i = m 0 i) := by
  obtain ⟨⟨k, d'⟩, m', e1, e2, q1, q2, q3, q4, q5, q6⟩ := it_two (f := fun (t : Int × Int × MI) => fDesk_pass_l40 n t.1 t.2.1 t.2.2 ro) (g := fun (t : Int × MI) => fModel_pass_l49 n z2 t.1 t.2)
    (fun t u => (0 ≤ t.2.1 ∧ t.2.1 ≤ n) ∧ u.1 = t.2.1 ∧ u.2 1 0 = m 1 0 + t.2.1 ∧ RS (sm_lo 1 t.2.2) (u.2 1) ∧ wk (sm_lo 1 t.2.2) u.2 ∧ dn (u.2 1) = dn (m 1) + t.1 ∧ (∀ a, a < 1 ∨ 62 ≤ a → t.2.2 a = d a) ∧ (∀ a, ¬ a = 1 → ¬ a = 8 → ¬ a = 0 → u.2 a = m a) ∧ (∀ i, ¬ i = 11 → u.2 0 i = m 0 i))
    (fun y z => RS (sm_lo 1 y.2) (z 1) ∧ wk (sm_lo 1 y.2) z ∧ dn (z 1) = dn (m 1) + y.1 ∧ (∀ a, a < 1 ∨ 62 ≤ a → y.2 a = d a) ∧ (∀ a, ¬ a = 1 → ¬ a = 8 → ¬ a = 0 → z a = m a) ∧ (∀ i, ¬ i = 11 → z 0 i = m 0 i)) (fun t => (n - t.2.1).toNat) (fun t u hR => by
    obtain ⟨k, i, d1⟩ := t
    obtain ⟨i', m1⟩ := u
    obtain ⟨h1, h2, h3, h4, h5, h6, h7, h8, h9⟩ := hR
    dsimp only at h1 h2 h3 h4 h5 h6 h7 h8 h9 ⊢
    subst h2
    have wi : sm_w i' = i' := tw (by omega) (by omega)
    have wn : sm_w n = n := tw (by omega) (by omega)
    by_cases z : n ≤ i'
    · right
      refine ⟨(k, d1), m1, ?_, ?_, h4, h5, h6, h7, h8, h9⟩
      · unfold fDesk_pass_l40
        rw [wn, wi, if_pos z]
      · unfold fModel_pass_l49
        rw [wn, wi, if_pos z]
    · left
      obtain ⟨k2, s2, m2, x1, x2, x3, x4, x5, x6, x7, x8, x9⟩ := minute_eq h4 h5 (by omega)
      have el : ∀ x, x < 61 → sm_lo 1 (sm_gl 1 61 s2 d1) x = s2 x := fun x hx => lo_gl s2 d1 hx
      refine ⟨(k + k2, i' + 1, sm_gl 1 61 s2 d1), (i' + 1, m2), ?_, ?_, ⟨by dsimp only; omega, rfl, by dsimp only; omega, RS_61 x3 el, wk_61 x4 el, by dsimp only; omega, fun a ha => ?_, fun a e1 e2 e3 => (x8 a e1 e2 e3).trans (h8 a e1 e2 e3), fun j e => (x9 j e).trans (h9 j e)⟩, by dsimp only; omega⟩
      · unfold fDesk_pass_l40
        rw [wn, wi, if_neg z, x1]
        rfl
      · unfold fModel_pass_l49
        rw [wn, wi, if_neg z, x2]
        rfl
      · dsimp only
        rw [← h7 a ha]
        funext j
        exact gl_o (by omega)) sl_fu (0, 0, d) (0, m) ⟨⟨by dsimp only; omega, by dsimp only; omega⟩, rfl, by dsimp only; omega, h, hw, by dsimp only; omega, fun _ _ => rfl, fun _ _ _ _ => rfl, fun _ _ => rfl⟩ (by show (n - 0).toNat < 5000; omega)
  exact ⟨k, d', m', e1, e2, q1, q2, q3, q4, q5, q6⟩
