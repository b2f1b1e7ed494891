/-! ===== the model's ways ===== -/
/-- the minutes between two areas, by the roads 0 .. r-1 of the row (the last one counts) -/
def rdl (N : Nat → Int) : Nat → Nat → Nat → Int
  | 0, _, _ => 0
  | r + 1, x, y => if ((x : Int) = N (16 + 3 * r) ∧ (y : Int) = N (16 + 3 * r + 1)) ∨ ((x : Int) = N (16 + 3 * r + 1) ∧ (y : Int) = N (16 + 3 * r)) then N (16 + 3 * r + 2) else rdl N r x y
/-- the roads of the row are in order -/
def rOK (N : Nat → Int) : Prop := 0 ≤ N 5 ∧ N 5 ≤ 30 ∧ ∀ r : Nat, (r : Int) < N 5 → (0 ≤ N (16 + 3 * r) ∧ N (16 + 3 * r) < 12) ∧ (0 ≤ N (16 + 3 * r + 1) ∧ N (16 + 3 * r + 1) < 12) ∧ ¬ N (16 + 3 * r) = N (16 + 3 * r + 1) ∧ 1 ≤ N (16 + 3 * r + 2) ∧ N (16 + 3 * r + 2) ≤ 60
abbrev rd (N : Nat → Int) : Nat → Nat → Int := rdl N (N 5).toNat
theorem rdl_le {N : Nat → Int} (h : rOK N) (x y : Nat) : ∀ r : Nat, (r : Int) ≤ N 5 → 0 ≤ rdl N r x y ∧ rdl N r x y ≤ 60 := by
  intro r
  induction r with
  | zero => intro _; exact ⟨Int.le_refl _, by show (0 : Int) ≤ 60; omega⟩
  | succ r ih =>
    intro hr
    have := h.2.2 r (by push_cast at hr; omega)
    unfold rdl
    split
    · omega
    · exact ih (by push_cast at hr; omega)
theorem rdl_self {N : Nat → Int} (h : rOK N) (x : Nat) : ∀ r : Nat, (r : Int) ≤ N 5 → rdl N r x x = 0 := by
  intro r
  induction r with
  | zero => intro _; rfl
  | succ r ih =>
    intro hr
    have := h.2.2 r (by push_cast at hr; omega)
    unfold rdl
    rw [if_neg (by omega)]
    exact ih (by push_cast at hr; omega)
theorem rdl_sym (N : Nat → Int) (x y : Nat) : ∀ r : Nat, rdl N r x y = rdl N r y x := by
  intro r
  induction r with
  | zero => rfl
  | succ r ih =>
    unfold rdl
    rw [ih]
    by_cases q : ((x : Int) = N (16 + 3 * r) ∧ (y : Int) = N (16 + 3 * r + 1)) ∨ ((x : Int) = N (16 + 3 * r + 1) ∧ (y : Int) = N (16 + 3 * r))
    · rw [if_pos q, if_pos (by omega)]
    · rw [if_neg q, if_neg (by omega)]
theorem rd_le {N : Nat → Int} (h : rOK N) (x y : Nat) : 0 ≤ rd N x y ∧ rd N x y ≤ 60 := rdl_le h x y _ (by have := h.1; omega)
theorem rd_self {N : Nat → Int} (h : rOK N) (x : Nat) : rd N x x = 0 := rdl_self h x _ (by have := h.1; omega)
/-- what the model keeps of the roads -/
def wOK (m : MI) : Prop := (∀ x y, x < 12 → y < 12 → m 6 (12 * x + y) = if rd (m 1) x y = 0 then 100000 else rd (m 1) x y) ∧ Dist (rd (m 1)) 100000 (fun x y => m 7 (12 * x + y))
theorem rem12 {k : Nat} (hk : k < 1000) : sm_rem (k : Int) 12 = ((k % 12 : Nat) : Int) := by
  unfold sm_rem
  have e1 : sm_i (k : Int) / sm_i 12 = sm_i (((k / 12 : Nat) : Int)) := by
    apply Int32.toInt_inj.mp
    have := div4 (x := (k : Int)) (by omega) (by omega) 12 (by omega) (by omega)
    unfold sm_div at this
    rw [this, sm_i_toInt, tw (by omega) (by omega)]
    omega
  rw [e1, sm_i_mul, sm_i_sub, sm_i_toInt, tw (by omega) (by omega)]
  omega
theorem div12 {k : Nat} (hk : k < 1000) : sm_div (k : Int) 12 = ((k / 12 : Nat) : Int) := by
  rw [div4 (by omega) (by omega) 12 (by omega) (by omega)]
  omega
theorem k12 {k : Nat} (hk : k < 144) : ∃ x y, x < 12 ∧ y < 12 ∧ k = 12 * x + y := ⟨k / 12, k % 12, by omega, by omega, by omega⟩
/-- first loop -/
theorem lw1 (m : MI) : ∃ m', sl_it (fun (t : Int × MI) => fModel_laysWays_l2 t.1 t.2) sl_fu (0, m) = some m' ∧ (∀ d, ¬ d = 6 → ¬ d = 7 → m' d = m d) ∧ ∀ x y, x < 12 → y < 12 → m' 6 (12 * x + y) = 100000 ∧ m' 7 (12 * x + y) = if x = y then 0 else 100000 := by
  refine it_inv (I := fun t => ∃ k : Nat, t.1 = (k : Int) ∧ k ≤ 144 ∧ (∀ d, ¬ d = 6 → ¬ d = 7 → t.2 d = m d) ∧ ∀ x y, x < 12 → y < 12 → 12 * x + y < k → t.2 6 (12 * x + y) = 100000 ∧ t.2 7 (12 * x + y) = if x = y then 0 else 100000) _ (fun t => (144 - t.1).toNat) ?_ sl_fu (0, m) ⟨0, rfl, by omega, fun _ _ _ => rfl, fun _ _ _ _ h => absurd h (by omega)⟩ (by show (144 - (0 : Int)).toNat < 5000; omega)
  rintro ⟨z, s⟩ ⟨k, hz, hk, h1, h2⟩
  dsimp only at hz h1 h2 ⊢
  subst hz
  unfold fModel_laysWays_l2
  rw [tw (x := (k : Int)) (by omega) (by omega)]
  by_cases hk2 : 144 ≤ (k : Int)
  · right
    rw [if_pos hk2]
    exact ⟨s, rfl, h1, fun x y hx hy => h2 x y hx hy (by omega)⟩
  · left
    have hkl : k < 144 := by omega
    rw [if_neg hk2, if_pos ⟨by omega, by omega⟩, Option.bind_some, div12 (by omega), rem12 (by omega), tw (x := ((k / 12 : Nat) : Int)) (by omega) (by omega), tw (x := ((k % 12 : Nat) : Int)) (by omega) (by omega), Int.toNat_natCast]
    have key : ∀ v : Int, v = (if k / 12 = k % 12 then 0 else 100000) → ∃ s', fModel_laysWays_j39_l2 (k : Int) (k : Int) v (sm_up s 6 k 100000) = some (.inl s') ∧ (∃ k1 : Nat, s'.1 = (k1 : Int) ∧ k1 ≤ 144 ∧ (∀ d, ¬ d = 6 → ¬ d = 7 → s'.2 d = m d) ∧ ∀ x y, x < 12 → y < 12 → 12 * x + y < k1 → s'.2 6 (12 * x + y) = 100000 ∧ s'.2 7 (12 * x + y) = if x = y then 0 else 100000) ∧ (144 - s'.1).toNat < (144 - (k : Int)).toNat := by
      intro v hv
      unfold fModel_laysWays_j39_l2
      rw [tg (by omega) (by omega) (by omega), tn (by omega) (by omega), Int.toNat_natCast, Option.bind_some]
      refine ⟨_, rfl, ⟨k + 1, by push_cast; rfl, by omega, fun d h6 h7 => by dsimp only; rw [up_D h7, up_D h6]; exact h1 d h6 h7, fun x y hx hy hlt => ?_⟩, by dsimp only; omega⟩
      dsimp only
      by_cases q : 12 * x + y = k
      · have e1 : k / 12 = x := by omega
        have e2 : k % 12 = y := by omega
        rw [q, up_d (by omega), up_s, up_s, hv, e1, e2]
        exact ⟨rfl, rfl⟩
      · rw [up_d (by omega), up_j q, up_j q, up_d (by omega)]
        exact h2 x y hx hy (by omega)
    by_cases q : ((k / 12 : Nat) : Int) = ((k % 12 : Nat) : Int)
    · rw [if_pos q]
      exact key 0 (by rw [if_pos (by omega)])
    · rw [if_neg q]
      exact key 100000 (by rw [if_neg (by omega)])
/-- second loop: the roads -/
theorem lw2 {m : MI} (hR : rOK (m 1)) (h0 : ∀ x y, x < 12 → y < 12 → m 6 (12 * x + y) = 100000 ∧ m 7 (12 * x + y) = if x = y then 0 else 100000) : ∃ m', sl_it (fun (t : Int × MI) => fModel_laysWays_l48 t.1 t.2) sl_fu (0, m) = some m' ∧ (∀ d, ¬ d = 6 → ¬ d = 7 → m' d = m d) ∧
    ∀ x y, x < 12 → y < 12 → m' 6 (12 * x + y) = (if rd (m 1) x y = 0 then 100000 else rd (m 1) x y) ∧ m' 7 (12 * x + y) = if x = y then 0 else if rd (m 1) x y = 0 then 100000 else rd (m 1) x y := by
  refine it_inv (I := fun t => ∃ k : Nat, t.1 = (k : Int) ∧ (k : Int) ≤ m 1 5 ∧ (∀ d, ¬ d = 6 → ¬ d = 7 → t.2 d = m d) ∧ ∀ x y, x < 12 → y < 12 → t.2 6 (12 * x + y) = (if rdl (m 1) k x y = 0 then 100000 else rdl (m 1) k x y) ∧ t.2 7 (12 * x + y) = if x = y then 0 else if rdl (m 1) k x y = 0 then 100000 else rdl (m 1) k x y) _ (fun t => (30 - t.1).toNat) ?_ sl_fu (0, m)
    ⟨0, rfl, by have := hR.1; omega, fun _ _ _ => rfl, fun x y hx hy => by obtain ⟨a, b⟩ := h0 x y hx hy; exact ⟨by dsimp only; rw [a]; rfl, by dsimp only; rw [b]; rfl⟩⟩ (by show (30 - (0 : Int)).toNat < 5000; omega)
  rintro ⟨z, s⟩ ⟨k, hz, hk, h1, h2⟩
  dsimp only at hz h1 h2 ⊢
  subst hz
  have hR1 := hR.1
  have hR2 := hR.2.1
  have e1 : s 1 = m 1 := h1 1 (by omega) (by omega)
  unfold fModel_laysWays_l48
  rw [e1, tw (x := (k : Int)) (by omega) (by omega), tw (x := m 1 5) (by omega) (by omega)]
  by_cases hk2 : m 1 5 ≤ (k : Int)
  · right
    rw [if_pos hk2]
    have : (m 1 5).toNat = k := by omega
    refine ⟨s, rfl, h1, fun x y hx hy => ?_⟩
    have := h2 x y hx hy
    unfold rd
    rw [show (m 1 5).toNat = k by omega]
    exact this
  · left
    obtain ⟨⟨a0, a1⟩, ⟨b0, b1⟩, hab, m0, m1⟩ := hR.2.2 k (by omega)
    obtain ⟨a, ha⟩ := Int.eq_ofNat_of_zero_le a0
    obtain ⟨b, hb⟩ := Int.eq_ofNat_of_zero_le b0
    have i0 : (16 + 3 * (k : Int)).toNat = 16 + 3 * k := by omega
    have i1 : (16 + 3 * (k : Int) + 1).toNat = 16 + 3 * k + 1 := by omega
    have i2 : (16 + 3 * (k : Int) + 2).toNat = 16 + 3 * k + 2 := by omega
    rw [if_neg hk2, tg (by omega) (by omega) (by omega), tg (by omega) (by omega) (by omega), tg (by omega) (by omega) (by omega), tn (e := 16 + 3 * (k : Int)) (by omega) (by omega), tn (e := 16 + 3 * (k : Int) + 1) (by omega) (by omega), tn (e := 16 + 3 * (k : Int) + 2) (by omega) (by omega), i0, i1, i2]
    rw [ha, hb] at hab ⊢
    rw [ha] at a1
    rw [hb] at b1
    simp only [Option.bind_some]
    rw [tg (by omega) (by omega) (by omega), tg (by omega) (by omega) (by omega), tn (by omega) (by omega), tn (by omega) (by omega), show (12 * (a : Int) + (b : Int)).toNat = 12 * a + b by omega, show (12 * (b : Int) + (a : Int)).toNat = 12 * b + a by omega]
    generalize hv : m 1 (16 + 3 * k + 2) = v at m0 m1 ⊢
    have v1 : ∀ t : MI, t 1 = m 1 → t 1 (16 + 3 * k + 2) = v := fun t ht => by rw [ht]; exact hv
    rw [v1 (sm_up s 6 (12 * a + b) v) (by rw [up_D (by omega)]; exact e1), v1 (sm_up (sm_up s 6 (12 * a + b) v) 6 (12 * b + a) v) (by rw [up_D (by omega), up_D (by omega)]; exact e1), v1 (sm_up (sm_up (sm_up s 6 (12 * a + b) v) 6 (12 * b + a) v) 7 (12 * a + b) v) (by rw [up_D (by omega), up_D (by omega), up_D (by omega)]; exact e1)]
    refine ⟨_, rfl, ⟨k + 1, by push_cast; rfl, by push_cast; omega, fun d h6 h7 => by dsimp only; rw [up_D h7, up_D h7, up_D h6, up_D h6]; exact h1 d h6 h7, fun x y hx hy => ?_⟩, by dsimp only; omega⟩
    have h2xy := h2 x y hx hy
    have er : rdl (m 1) (k + 1) x y = if (x = a ∧ y = b) ∨ (x = b ∧ y = a) then v else rdl (m 1) k x y := by
      show (if ((x : Int) = m 1 (16 + 3 * k) ∧ (y : Int) = m 1 (16 + 3 * k + 1)) ∨ ((x : Int) = m 1 (16 + 3 * k + 1) ∧ (y : Int) = m 1 (16 + 3 * k)) then m 1 (16 + 3 * k + 2) else rdl (m 1) k x y) = _
      rw [ha, hb, hv]
      by_cases q : (x = a ∧ y = b) ∨ (x = b ∧ y = a)
      · rw [if_pos q, if_pos (by omega)]
      · rw [if_neg q, if_neg (by omega)]
    rw [er]
    dsimp only
    rw [up_d (by omega), up_d (by omega)]
    by_cases q : (x = a ∧ y = b) ∨ (x = b ∧ y = a)
    · rw [if_pos q, if_neg (by omega), if_neg (by omega)]
      rcases q with ⟨rfl, rfl⟩ | ⟨rfl, rfl⟩
      · rw [up_j (by omega), up_s, up_j (by omega), up_s]
        exact ⟨rfl, rfl⟩
      · rw [up_s, up_s]
        exact ⟨rfl, rfl⟩
    · rw [if_neg q, up_j (by omega), up_j (by omega), up_j (by omega), up_j (by omega), up_d (by omega), up_d (by omega)]
      exact h2xy
