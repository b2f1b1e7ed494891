/-! ===== the model's ways: all over all areas ===== -/
def fwI (r : Nat → Nat → Int) (k : Nat) (V : Nat → Nat → Int) : Prop :=
  (∀ x y, x < 12 → y < 12 → 0 ≤ V x y ∧ V x y ≤ 100000) ∧ (∀ x, x < 12 → V x x = 0) ∧ dSound r 100000 V ∧ (∀ x y, x < 12 → y < 12 → 0 < r x y → V x y ≤ r x y) ∧ ∀ y, y < k → y < 12 → ∀ x z, x < 12 → z < 12 → V x z ≤ V x y + V y z
theorem fw_step {r : Nat → Nat → Int} {k : Nat} {V V' : Nat → Nat → Int} (hk : k < 12) (h : fwI r k V) (e : ∀ x z, x < 12 → z < 12 → V' x z = min (V x z) (V x k + V k z)) : fwI r (k + 1) V' := by
  obtain ⟨h1, h2, h3, h4, h5⟩ := h
  refine ⟨fun x y hx hy => ?_, fun x hx => ?_, fun f hf x z hx hz hlt => ?_, fun x y hx hy hr => ?_, fun y hy hy2 x z hx hz => ?_⟩
  · rw [e x y hx hy]
    have := h1 x y hx hy
    have := h1 x k hx hk
    have := h1 k y hk hy
    omega
  · rw [e x x hx hx]
    have := h2 x hx
    have := h1 x k hx hk
    have := h1 k x hk hx
    omega
  · rw [e x z hx hz] at hlt ⊢
    have g1 := h3 f hf x z hx hz
    have g2 := h3 f hf x k hx hk
    have g3 := h3 f hf k z hk hz
    have := h1 x k hx hk
    have := h1 k z hk hz
    rcases Int.le_total (V x z) (V x k + V k z) with q | q
    · rw [Int.min_eq_left q] at hlt ⊢
      exact g1 hlt
    · rw [Int.min_eq_right q] at hlt ⊢
      have := g2 (by omega)
      have := g3 (by omega)
      omega
  · rw [e x y hx hy]
    have := h4 x y hx hy hr
    omega
  · rw [e x z hx hz, e x y hx hy2, e y z hy2 hz]
    have p1 := h1 x k hx hk
    have p2 := h1 k z hk hz
    have p3 := h1 y k hy2 hk
    have p4 := h1 k y hk hy2
    have kk := h2 k hk
    by_cases q : y = k
    · subst q
      omega
    · have a1 := h5 y (by omega) hy2 x z hx hz
      have a2 := h5 y (by omega) hy2 k z hk hz
      have a3 := h5 y (by omega) hy2 x k hx hk
      omega
theorem fw_dist {r : Nat → Nat → Int} {V : Nat → Nat → Int} (h : fwI r 12 V) : Dist r 100000 V := by
  obtain ⟨h1, h2, h3, h4, h5⟩ := h
  refine ⟨h2, h1, fun z hz x c hx hc hr => ?_, h3⟩
  have := h5 c hc hc x z hx hz
  have := h4 x c hx hc hr
  dsimp only
  omega
theorem lw3i {k : Nat} (hk : k < 12) {m : MI} (hb : ∀ x y, x < 12 → y < 12 → 0 ≤ m 7 (12 * x + y) ∧ m 7 (12 * x + y) ≤ 100000) (hd : ∀ x, x < 12 → m 7 (12 * x + x) = 0) : ∃ m', sl_it (fun (t : Int × MI) => fModel_laysWays_l196 (k : Int) t.1 t.2) sl_fu (0, m) = some m' ∧ (∀ d, ¬ d = 7 → m' d = m d) ∧
    ∀ x z, x < 12 → z < 12 → m' 7 (12 * x + z) = min (m 7 (12 * x + z)) (m 7 (12 * x + k) + m 7 (12 * k + z)) := by
  refine it_inv (I := fun t => ∃ i : Nat, t.1 = (i : Int) ∧ i ≤ 144 ∧ (∀ d, ¬ d = 7 → t.2 d = m d) ∧ ∀ x z, x < 12 → z < 12 → t.2 7 (12 * x + z) = if 12 * x + z < i then min (m 7 (12 * x + z)) (m 7 (12 * x + k) + m 7 (12 * k + z)) else m 7 (12 * x + z)) _ (fun t => (144 - t.1).toNat) ?_ sl_fu (0, m)
    ⟨0, rfl, by omega, fun _ _ => rfl, fun x z hx hz => by rw [if_neg (by omega)]⟩ (by show (144 - (0 : Int)).toNat < 5000; omega)
  rintro ⟨z0, s⟩ ⟨i, hz0, hi, h1, h2⟩
  dsimp only at hz0 h1 h2 ⊢
  subst hz0
  unfold fModel_laysWays_l196
  rw [tw (x := (i : Int)) (by omega) (by omega)]
  by_cases hi2 : 144 ≤ (i : Int)
  · right
    rw [if_pos hi2]
    exact ⟨s, rfl, h1, fun x z hx hz => by rw [h2 x z hx hz, if_pos (by omega)]⟩
  · left
    obtain ⟨x, y, hx, hy, hxy⟩ := k12 (by omega : i < 144)
    have e1 : i / 12 = x := by omega
    have e2 : i % 12 = y := by omega
    have vxk : s 7 (12 * x + k) = m 7 (12 * x + k) := by
      have := hb x k hx hk
      have := hd k hk
      rw [h2 x k hx hk]
      split <;> omega
    have vky : s 7 (12 * k + y) = m 7 (12 * k + y) := by
      have := hb k y hk hy
      have := hd k hk
      rw [h2 k y hk hy]
      split <;> omega
    have vxy : s 7 i = m 7 (12 * x + y) := by
      rw [hxy, h2 x y hx hy, if_neg (by omega)]
    have b1 := hb x k hx hk
    have b2 := hb k y hk hy
    have b3 := hb x y hx hy
    rw [if_neg hi2, div12 (by omega), rem12 (by omega), e1, e2, tg (by omega) (by omega) (by omega), tg (by omega) (by omega) (by omega), if_pos ⟨by omega, by omega⟩, tn (by omega) (by omega), tn (by omega) (by omega), Int.toNat_natCast, show ((x : Int) * 12 + (k : Int)).toNat = 12 * x + k by omega, show (12 * (k : Int) + (y : Int)).toNat = 12 * k + y by omega, vxk, vky, vxy, tw (x := m 7 (12 * x + y)) (by omega) (by omega), tw (by omega) (by omega)]
    have key : ∀ v : Int, v = min (m 7 (12 * x + y)) (m 7 (12 * x + k) + m 7 (12 * k + y)) → ∃ s', fModel_laysWays_j258_l196 (k : Int) (i : Int) (i : Int) v s = some (.inl s') ∧ (∃ i1 : Nat, s'.1 = (i1 : Int) ∧ i1 ≤ 144 ∧ (∀ d, ¬ d = 7 → s'.2 d = m d) ∧ ∀ x z, x < 12 → z < 12 → s'.2 7 (12 * x + z) = if 12 * x + z < i1 then min (m 7 (12 * x + z)) (m 7 (12 * x + k) + m 7 (12 * k + z)) else m 7 (12 * x + z)) ∧ (144 - s'.1).toNat < (144 - (i : Int)).toNat := by
      intro v hv
      unfold fModel_laysWays_j258_l196
      rw [tg (by omega) (by omega) (by omega), tn (by omega) (by omega), Int.toNat_natCast, Option.bind_some]
      refine ⟨_, rfl, ⟨i + 1, by push_cast; rfl, by omega, fun d h7 => by dsimp only; rw [up_D h7]; exact h1 d h7, fun u w hu hw => ?_⟩, by dsimp only; omega⟩
      dsimp only
      by_cases q : 12 * u + w = i
      · have e3 : u = x := by omega
        have e4 : w = y := by omega
        subst e3
        subst e4
        rw [q, up_s, hv, if_pos (by omega), hxy]
      · rw [up_j q, h2 u w hu hw]
        by_cases q2 : 12 * u + w < i
        · rw [if_pos q2, if_pos (by omega)]
        · rw [if_neg q2, if_neg (by omega)]
    by_cases q : m 7 (12 * x + y) ≤ m 7 (12 * x + k) + m 7 (12 * k + y)
    · rw [if_pos q]
      exact key _ (by omega)
    · rw [if_neg q]
      exact key _ (by omega)
theorem lw3 {m : MI} {r : Nat → Nat → Int} (h0 : fwI r 0 (fun x y => m 7 (12 * x + y))) : ∃ m', sl_it (fun (t : Int × MI) => fModel_laysWays_l188 t.1 t.2) sl_fu (0, m) = some m' ∧ (∀ d, ¬ d = 7 → m' d = m d) ∧ fwI r 12 (fun x y => m' 7 (12 * x + y)) := by
  refine it_inv (I := fun t => ∃ k : Nat, t.1 = (k : Int) ∧ k ≤ 12 ∧ (∀ d, ¬ d = 7 → t.2 d = m d) ∧ fwI r k (fun x y => t.2 7 (12 * x + y))) _ (fun t => (12 - t.1).toNat) ?_ sl_fu (0, m) ⟨0, rfl, by omega, fun _ _ => rfl, h0⟩ (by show (12 - (0 : Int)).toNat < 5000; omega)
  rintro ⟨z0, s⟩ ⟨k, hz0, hk, h1, h2⟩
  dsimp only at hz0 h1 h2 ⊢
  subst hz0
  unfold fModel_laysWays_l188
  rw [tw (x := (k : Int)) (by omega) (by omega)]
  by_cases hk2 : 12 ≤ (k : Int)
  · right
    rw [if_pos hk2]
    refine ⟨s, rfl, h1, ?_⟩
    obtain rfl : k = 12 := by omega
    exact h2
  · left
    obtain ⟨s', e, f1, f2⟩ := lw3i (by omega : k < 12) h2.1 h2.2.1
    rw [if_neg hk2, e]
    exact ⟨_, rfl, ⟨k + 1, by push_cast; rfl, by omega, fun d hd => by dsimp only; rw [f1 d hd]; exact h1 d hd, fw_step (by omega) h2 (fun x z hx hz => f2 x z hx hz)⟩, by dsimp only; omega⟩
/-- the ways are laid anew: what comes is right for the row's roads -/
theorem lays_eq {m : MI} (hR : rOK (m 1)) : ∃ m', fModel_laysWays m = some m' ∧ (∀ d, ¬ d = 6 → ¬ d = 7 → m' d = m d) ∧ wOK m' := by
  obtain ⟨m1, e1, f1, g1⟩ := lw1 m
  have r1 : m1 1 = m 1 := f1 1 (by omega) (by omega)
  obtain ⟨m2, e2, f2, g2'⟩ := lw2 (m := m1) (by rw [r1]; exact hR) g1
  have r2 : m2 1 = m 1 := by rw [f2 1 (by omega) (by omega), r1]
  rw [r1] at g2'
  have hfw : fwI (rd (m 1)) 0 (fun x y => m2 7 (12 * x + y)) := by
    refine ⟨fun x y hx hy => ?_, fun x hx => ?_, fun f hf x z hx hz hlt => ?_, fun x y hx hy hr => ?_, fun y hy => absurd hy (by omega)⟩
    · have := rd_le hR x y
      dsimp only
      rw [(g2' x y hx hy).2]
      split
      · omega
      · split <;> omega
    · dsimp only
      rw [(g2' x x hx hx).2, if_pos rfl]
    · dsimp only at hlt ⊢
      rw [(g2' x z hx hz).2] at hlt ⊢
      by_cases q : x = z
      · subst q
        rw [if_pos rfl]
        omega
      · rw [if_neg q] at hlt ⊢
        by_cases q2 : rd (m 1) x z = 0
        · rw [if_pos q2] at hlt
          omega
        · rw [if_neg q2]
          exact hf x z hx hz (by have := rd_le hR x z; omega)
    · dsimp only
      rw [(g2' x y hx hy).2]
      have : ¬ x = y := fun q => by
        subst q
        rw [rd_self hR x] at hr
        omega
      rw [if_neg this, if_neg (by omega)]
      exact Int.le_refl _
  obtain ⟨m3, e3, f3, g3⟩ := lw3 hfw
  refine ⟨m3, by unfold fModel_laysWays; rw [e1, Option.bind_some, e2, Option.bind_some, e3]; rfl, fun d h6 h7 => by rw [f3 d h7, f2 d h6 h7, f1 d h6 h7], fun x y hx hy => ?_, ?_⟩
  · rw [f3 6 (by omega), f3 1 (by omega), r2]
    exact (g2' x y hx hy).1
  · rw [f3 1 (by omega), r2]
    exact fw_dist g3
