/-! ===== ways, next areas, garages, the end of a tow: class and model alike ===== -/
abbrev d2 (m : MI) : Nat → Nat → Int := fun x z => m 7 (12 * x + z)
abbrev wk (s m : MI) : Prop := mR s (m 1) ∧ wOK m ∧ rOK (m 1)
theorem way_eq {x z : Nat} {m : MI} (hx : x < 12) (hz : z < 12) : fModel_way (x : Int) (z : Int) m = some (d2 m x z) := by
  unfold fModel_way
  rw [tg (by omega) (by omega) (by omega), tn (by omega) (by omega), show (12 * (x : Int) + (z : Int)).toNat = 12 * x + z by omega]
theorem wk_D {s m : MI} (h : wk s m) {x z : Nat} (hx : x < 12) (hz : z < 12) : (s 3 (12 * x + z) = 1000000 ∧ d2 m x z = 100000) ∨ (s 3 (12 * x + z) = d2 m x z ∧ 0 ≤ d2 m x z ∧ d2 m x z ≤ 660) := by
  have := dist_same h.1.2 h.2.1.2 (fun x c _ _ => (rd_le h.2.2 x c).2) (by omega) (by omega) hx hz
  rcases this with ⟨a, b⟩ | ⟨a, b, c⟩
  · exact Or.inl ⟨a, b⟩
  · right
    exact ⟨a, by show 0 ≤ m 7 (12 * x + z); omega, by show m 7 (12 * x + z) ≤ 660; omega⟩
theorem wk_tri {s m : MI} (h : wk s m) {x y z : Nat} (hx : x < 12) (hy : y < 12) (hz : z < 12) (hf : d2 m x y < 100000) : d2 m x z ≤ d2 m x y + d2 m y z :=
  h.2.1.2.2.2.2 (fun u => d2 m u z) (h.2.1.2.2.2.1 z hz) x y hx hy hf
theorem wk_rd {s m : MI} (h : wk s m) {x y : Nat} (hx : x < 12) (hy : y < 12) (hr : 0 < rd (m 1) x y) : d2 m x y ≤ rd (m 1) x y := by
  have := h.2.1.2.2.2.1 y hy x y hx hy hr
  have z := h.2.1.2.1 y hy
  dsimp only at this z
  show m 7 (12 * x + y) ≤ _
  omega
theorem wk_next {s m : MI} (h : wk s m) {x z : Nat} (hx : x < 12) (hz : z < 12) (hne : ¬ x = z) (hf : d2 m x z < 100000) : ∃ a, a < 12 ∧ 0 < rd (m 1) x a ∧ rd (m 1) x a + d2 m a z = d2 m x z := by
  refine Classical.byContradiction fun no => ?_
  obtain ⟨_, _, fe, so⟩ := h.2.1.2
  have fz := fe z hz
  have := so (fun u => if u = x then d2 m x z + 1 else d2 m u z) (fun u c hu hc hr => by
    have f1 := fz u c hu hc hr
    dsimp only at f1 ⊢
    by_cases q : u = x
    · subst q
      rw [if_pos rfl]
      have hcx : ¬ c = u := by
        intro e
        rw [e, rd_self h.2.2] at hr
        omega
      rw [if_neg hcx]
      have : ¬ rd (m 1) u c + d2 m c z = d2 m u z := fun e => no ⟨c, hc, hr, e⟩
      dsimp only [d2] at this ⊢
      omega
    · rw [if_neg q]
      by_cases e : c = x
      · rw [if_pos e, ← e]
        dsimp only [d2]
        omega
      · rw [if_neg e]
        exact f1) x z hx hz hf
  dsimp only at this
  rw [if_pos rfl, if_neg (fun e => hne e.symm)] at this
  have z0 := h.2.1.2.1 z hz
  dsimp only [d2] at this z0
  omega
/-- the predicate both programs look for -/
abbrev nxP (m : MI) (x z a : Nat) : Prop := 0 < rd (m 1) x a ∧ rd (m 1) x a + d2 m a z = d2 m x z
theorem nextOn_l {s m : MI} (h : wk s m) {x z : Nat} (hx : x < 12) (hz : z < 12) (hf : d2 m x z < 100000) (i : Nat) (hi : i < 12) :
    (nxP m x z i ∧ fModel_nextOn_l2 (x : Int) (z : Int) (i : Int) m = some (.inr (.inr (i : Int)))) ∨ (¬ nxP m x z i ∧ fModel_nextOn_l2 (x : Int) (z : Int) (i : Int) m = some (.inl ((i : Int) + 1))) := by
  have r6 := h.2.1.1 x i hx hi
  have rb := rd_le h.2.2 x i
  have D1 := wk_D h hx hz
  have D2 := wk_D h hi hz
  unfold fModel_nextOn_l2 fModel_nextOn_j53_l2
  rw [tw (x := (i : Int)) (by omega) (by omega), if_neg (by omega), tg (by omega) (by omega) (by omega), tn (by omega) (by omega), show (12 * (x : Int) + (i : Int)).toNat = 12 * x + i by omega, r6]
  by_cases q : rd (m 1) x i = 0
  · right
    rw [if_pos q, tw (by omega) (by omega), if_pos (by omega)]
    exact ⟨fun e => by have := e.1; omega, rfl⟩
  · rw [if_neg q, tw (x := rd (m 1) x i) (by omega) (by omega), if_neg (by omega), way_eq hi hz, Option.bind_some, way_eq hx hz, Option.bind_some, tw (by omega) (by omega), tw (by omega) (by omega)]
    by_cases e : rd (m 1) x i + d2 m i z = d2 m x z
    · left
      rw [if_pos e]
      exact ⟨⟨by omega, e⟩, rfl⟩
    · right
      rw [if_neg e]
      exact ⟨fun y => e y.2, rfl⟩
theorem nextOnWay_l {s m : MI} (h : wk s m) {x z : Nat} (hx : x < 12) (hz : z < 12) (hf : d2 m x z < 100000) (i : Nat) (hi : i < 12) :
    (nxP m x z i ∧ fMap_nextOnWay_l38 (x : Int) (z : Int) (d2 m x z) (i : Int) (sm_lo 1 s) = some (.inr (.inr (i : Int)))) ∨ (¬ nxP m x z i ∧ fMap_nextOnWay_l38 (x : Int) (z : Int) (d2 m x z) (i : Int) (sm_lo 1 s) = some (.inl ((i : Int) + 1))) := by
  have r6 : sm_lo 1 s 1 (12 * x + i) = rd (m 1) x i := h.1.1 x i hx hi
  have rb := rd_le h.2.2 x i
  have D1 := wk_D h hx hz
  have D2 := wk_D h hi hz
  have s2 : sm_lo 1 s 2 (12 * i + z) = s 3 (12 * i + z) := rfl
  unfold fMap_nextOnWay_l38 fMap_nextOnWay_j92_l38
  rw [tw (x := (i : Int)) (by omega) (by omega), if_neg (by omega), tw (x := d2 m x z) (by omega) (by omega), if_neg (by omega), tg (by omega) (by omega) (by omega), tn (by omega) (by omega), show ((x : Int) * 12 + (i : Int)).toNat = 12 * x + i by omega, r6, tw (x := rd (m 1) x i) (by omega) (by omega)]
  by_cases q : rd (m 1) x i = 0
  · right
    rw [if_pos (by omega)]
    exact ⟨fun e => by have := e.1; omega, rfl⟩
  · rw [if_neg (by omega), tg (by omega) (by omega) (by omega), tn (by omega) (by omega), show ((i : Int) * 12 + (z : Int)).toNat = 12 * i + z by omega, s2, tw (by omega) (by omega)]
    by_cases e : rd (m 1) x i + d2 m i z = d2 m x z
    · left
      rw [if_pos (by omega)]
      exact ⟨⟨by omega, e⟩, rfl⟩
    · right
      rw [if_neg (by omega)]
      exact ⟨fun y => e y.2, rfl⟩
theorem next_eq {s m : MI} (h : wk s m) {x z : Nat} (hx : x < 12) (hz : z < 12) (hne : ¬ x = z) (hf : d2 m x z < 100000) :
    ∃ a : Nat, a < 12 ∧ fModel_nextOn (x : Int) (z : Int) m = some (a : Int) ∧ fMap_nextOnWay (x : Int) (z : Int) (sm_lo 1 s) = some (a : Int) ∧ nxP m x z a := by
  obtain ⟨a0, ha0, hp0⟩ := wk_next h hx hz hne hf
  have A := it_find (f := fun t => fModel_nextOn_l2 (x : Int) (z : Int) t m) (n := 12) (P := nxP m x z) (by omega) (nextOn_l h hx hz hf) (by
    unfold fModel_nextOn_l2
    rw [tw (by omega) (by omega), if_pos (by omega)])
  have B := it_find (f := fun t => fMap_nextOnWay_l38 (x : Int) (z : Int) (d2 m x z) t (sm_lo 1 s)) (n := 12) (P := nxP m x z) (by omega) (nextOnWay_l h hx hz hf) (by
    unfold fMap_nextOnWay_l38
    rw [tw (by omega) (by omega), if_pos (by omega)])
  rcases A with ⟨_, no⟩ | ⟨a, ha, ea, pa, na⟩
  · exact absurd hp0 (no a0 ha0)
  rcases B with ⟨_, no⟩ | ⟨b, hb, eb, pb, nb⟩
  · exact absurd hp0 (no a0 ha0)
  have ab : a = b := by
    rcases Nat.lt_trichotomy a b with q | q | q
    · exact absurd pa (nb a q)
    · exact q
    · exact absurd pb (na b q)
  subst ab
  have D := wk_D h hx hz
  have s2 : sm_lo 1 s 2 (12 * x + z) = d2 m x z := by
    show s 3 (12 * x + z) = _
    omega
  refine ⟨a, ha, ?_, ?_, pa⟩
  · unfold fModel_nextOn
    rw [ea]
    rfl
  · unfold fMap_nextOnWay
    rw [tw (x := (x : Int)) (by omega) (by omega), tw (x := (z : Int)) (by omega) (by omega), if_neg (by omega), if_neg (by omega), if_neg (by omega), if_pos (by omega), tg (by omega) (by omega) (by omega), tn (by omega) (by omega), show ((x : Int) * 12 + (z : Int)).toNat = 12 * x + z by omega, s2, eb]
    rfl
theorem next_end {s m : MI} (h : wk s m) {z : Nat} (hz : z < 12) : fMap_nextOnWay (z : Int) (z : Int) (sm_lo 1 s) = some (-5) := by
  have z0 : d2 m z z = 0 := h.2.1.2.1 z hz
  have B := it_find (f := fun t => fMap_nextOnWay_l38 (z : Int) (z : Int) (d2 m z z) t (sm_lo 1 s)) (n := 12) (P := nxP m z z) (by omega) (nextOnWay_l h hz hz (by omega)) (by
    unfold fMap_nextOnWay_l38
    rw [tw (by omega) (by omega), if_pos (by omega)])
  have D := wk_D h hz hz
  have s2 : sm_lo 1 s 2 (12 * z + z) = d2 m z z := by
    show s 3 (12 * z + z) = _
    omega
  rcases B with ⟨eb, _⟩ | ⟨b, hb, eb, pb, nb⟩
  · unfold fMap_nextOnWay
    rw [tw (x := (z : Int)) (by omega) (by omega), if_neg (by omega), if_neg (by omega), if_neg (by omega), if_pos (by omega), tg (by omega) (by omega) (by omega), tn (by omega) (by omega), show ((z : Int) * 12 + (z : Int)).toNat = 12 * z + z by omega, s2, eb]
    rfl
  · have D3 := wk_D h hb hz
    have := pb.1
    have := pb.2
    omega
theorem region_eq {x : Nat} (hx : x < 12) : fModel_region (x : Int) = some (((x / 4 : Nat)) : Int) ∧ fDesk_regionOf (x : Int) = some (((x / 4 : Nat)) : Int) := by
  unfold fModel_region fDesk_regionOf
  rw [div4 (by omega) (by omega) 4 (by omega) (by omega)]
  exact ⟨rfl, rfl⟩
