/-! ===== the class's map of roads ===== -/
theorem sm_min_eq {x y : Int} (h1 : 0 ≤ x) (h2 : x ≤ 100000000) (h3 : 0 ≤ y) (h4 : y ≤ 100000000) : sm_min x y = min x y := by
  unfold sm_min
  rw [tw (by omega) (by omega), tw (by omega) (by omega)]
  split <;> omega
theorem isArea_eq {x : Nat} (hx : x < 12) : fDesk_isArea (x : Int) = some 1 := by
  unfold fDesk_isArea
  rw [tw (by omega) (by omega), if_neg (by omega), if_neg (by omega)]
theorem between_eq {x y : Nat} {s : MI} (hx : x < 12) (hy : y < 12) : fMap_between (x : Int) (y : Int) s = some (s 2 (12 * x + y)) := by
  unfold fMap_between
  rw [tw (x := (x : Int)) (by omega) (by omega), tw (x := (y : Int)) (by omega) (by omega), if_neg (by omega), if_neg (by omega), if_neg (by omega), if_pos (by omega), tg (by omega) (by omega) (by omega), tn (by omega) (by omega)]
  rw [show ((x : Int) * 12 + (y : Int)).toNat = 12 * x + y by omega]
abbrev mD (s : MI) : Nat → Nat → Int := fun x y => s 2 (12 * x + y)
def buI (rd : Nat → Nat → Int) (a b : Nat) (m : Int) (s0 : MI) (P : Nat → Nat → Prop) (s : MI) : Prop :=
  (∀ d, ¬ d = 2 → s d = s0 d) ∧ (∀ x y, x < 12 → y < 12 → 0 ≤ mD s x y ∧ mD s x y ≤ mD s0 x y) ∧ dSound (rdAdd rd a b m) 1000000 (mD s) ∧ ∀ x y, x < 12 → y < 12 → P x y → mD s x y ≤ dAdd (mD s0) a b m x y
theorem bu_step {rd : Nat → Nat → Int} {a b x j : Nat} {m : Int} {s0 s : MI} {P : Nat → Nat → Prop} (h0 : Dist rd 1000000 (mD s0)) (ha : a < 12) (hb : b < 12) (hm : 1 ≤ m ∧ m ≤ 60) (hx : x < 12) (hj : j < 12) (h : buI rd a b m s0 P s) :
    buI rd a b m s0 (fun u v => P u v ∨ (u = x ∧ v = j)) (sm_up s 2 (12 * x + j) (min (mD s x j) (min (mD s x a + m + mD s b j) (mD s x b + m + mD s a j)))) := by
  obtain ⟨h1, h2, h3, h4⟩ := h
  have e : ∀ u v, u < 12 → v < 12 → mD (sm_up s 2 (12 * x + j) (min (mD s x j) (min (mD s x a + m + mD s b j) (mD s x b + m + mD s a j)))) u v = if u = x ∧ v = j then min (mD s x j) (min (mD s x a + m + mD s b j) (mD s x b + m + mD s a j)) else mD s u v := by
    intro u v hu hv
    by_cases e : u = x ∧ v = j
    · obtain ⟨rfl, rfl⟩ := e
      rw [if_pos ⟨rfl, rfl⟩]
      exact up_s _ _ _ _
    · rw [if_neg e]
      exact up_j (by omega)
  have b1 := h2 x a hx ha
  have b2 := h2 b j hb hj
  have b3 := h2 x b hx hb
  have b4 := h2 a j ha hj
  have b5 := h2 x j hx hj
  refine ⟨fun d hd => by rw [up_D hd]; exact h1 d hd, fun u v hu hv => ?_, fun f hf u v hu hv hlt => ?_, fun u v hu hv hP => ?_⟩
  · rw [e u v hu hv]
    split
    · rename_i q
      obtain ⟨rfl, rfl⟩ := q
      omega
    · exact h2 u v hu hv
  · rw [e u v hu hv] at hlt ⊢
    split at hlt
    · rename_i q
      obtain ⟨rfl, rfl⟩ := q
      rw [if_pos ⟨rfl, rfl⟩]
      have fab : f a ≤ m + f b := by
        have := hf a b ha hb (by unfold rdAdd; rw [if_pos (Or.inl ⟨rfl, rfl⟩)]; omega)
        unfold rdAdd at this
        rwa [if_pos (Or.inl ⟨rfl, rfl⟩)] at this
      have fba : f b ≤ m + f a := by
        have := hf b a hb ha (by unfold rdAdd; rw [if_pos (Or.inr ⟨rfl, rfl⟩)]; omega)
        unfold rdAdd at this
        rwa [if_pos (Or.inr ⟨rfl, rfl⟩)] at this
      have g5 := h3 f hf u v hu hv
      have g1 := h3 f hf u a hu ha
      have g2 := h3 f hf b v hb hv
      have g3 := h3 f hf u b hu hb
      have g4 := h3 f hf a v ha hv
      rcases Int.le_total (mD s u v) (min (mD s u a + m + mD s b v) (mD s u b + m + mD s a v)) with q | q
      · rw [Int.min_eq_left q] at hlt ⊢
        exact g5 hlt
      · rw [Int.min_eq_right q] at hlt ⊢
        rcases Int.le_total (mD s u a + m + mD s b v) (mD s u b + m + mD s a v) with q2 | q2
        · rw [Int.min_eq_left q2] at hlt ⊢
          have := g1 (by omega)
          have := g2 (by omega)
          omega
        · rw [Int.min_eq_right q2] at hlt ⊢
          have := g3 (by omega)
          have := g4 (by omega)
          omega
    · rename_i q
      rw [if_neg q]
      exact h3 f hf u v hu hv hlt
  · rw [e u v hu hv]
    split
    · rename_i q
      obtain ⟨rfl, rfl⟩ := q
      unfold dAdd
      omega
    · rename_i q
      exact h4 u v hu hv (hP.resolve_right q)
theorem bu_inner {rd : Nat → Nat → Int} {a b x : Nat} {m : Int} {s0 s : MI} (h0 : Dist rd 1000000 (mD s0)) (ha : a < 12) (hb : b < 12) (hm : 1 ≤ m ∧ m ≤ 60) (hx : x < 12) (h : buI rd a b m s0 (fun u _ => u < x) s) :
    ∃ y, sl_it (fun (t : Int × MI) => fMap_build_l53 (a : Int) (b : Int) m (x : Int) t.1 t.2) sl_fu (0, s) = some y ∧ buI rd a b m s0 (fun u _ => u < x + 1) y := by
  refine it_inv (I := fun t => ∃ j : Nat, t.1 = (j : Int) ∧ j ≤ 12 ∧ buI rd a b m s0 (fun u v => u < x ∨ (u = x ∧ v < j)) t.2) _ (fun t => (12 - t.1).toNat) ?_ sl_fu (0, s) ⟨0, rfl, by omega, h.1, h.2.1, h.2.2.1, fun u v hu hv hP => h.2.2.2 u v hu hv (by omega)⟩ (by show (12 - (0 : Int)).toNat < 5000; omega)
  rintro ⟨z, s1⟩ ⟨j, hz, hj, hI⟩
  dsimp only at hz hI ⊢
  subst hz
  unfold fMap_build_l53
  rw [tw (x := (j : Int)) (by omega) (by omega)]
  by_cases hj12 : 12 ≤ (j : Int)
  · right
    rw [if_pos hj12]
    exact ⟨s1, rfl, hI.1, hI.2.1, hI.2.2.1, fun u v hu hv hP => hI.2.2.2 u v hu hv (by omega)⟩
  · left
    have hjl : j < 12 := by omega
    have d0 : ∀ u v, u < 12 → v < 12 → 0 ≤ s1 2 (12 * u + v) ∧ s1 2 (12 * u + v) ≤ 1000000 := fun u v hu hv => ⟨(hI.2.1 u v hu hv).1, Int.le_trans (hI.2.1 u v hu hv).2 (h0.2.1 u v hu hv).2⟩
    have b1 := d0 x a hx ha
    have b2 := d0 b j hb hjl
    have b3 := d0 x b hx hb
    have b4 := d0 a j ha hjl
    have b5 := d0 x j hx hjl
    rw [if_neg hj12]
    simp only [between_eq hx ha, between_eq hb hjl, between_eq hx hb, between_eq ha hjl, between_eq hx hjl, Option.bind_some]
    rw [tg (by omega) (by omega) (by omega), tn (by omega) (by omega), sm_min_eq (x := s1 2 (12 * x + a) + m + s1 2 (12 * b + j)) (by omega) (by omega) (by omega) (by omega), sm_min_eq (by omega) (by omega) (by omega) (by omega), show ((x : Int) * 12 + (j : Int)).toNat = 12 * x + j by omega]
    refine ⟨_, rfl, ⟨j + 1, by push_cast; rfl, by omega, ?_⟩, by show (12 - ((j : Int) + 1)).toNat < (12 - (j : Int)).toNat; omega⟩
    have := bu_step h0 ha hb hm hx hjl hI
    exact ⟨this.1, this.2.1, this.2.2.1, fun u v hu hv hP => this.2.2.2 u v hu hv (by omega)⟩
theorem bu_outer {rd : Nat → Nat → Int} {a b : Nat} {m : Int} {s0 : MI} (h0 : Dist rd 1000000 (mD s0)) (ha : a < 12) (hb : b < 12) (hm : 1 ≤ m ∧ m ≤ 60) (h : buI rd a b m s0 (fun _ _ => False) s0) :
    ∃ y, sl_it (fun (t : Int × MI) => fMap_build_l43 (a : Int) (b : Int) m t.1 t.2) sl_fu (0, s0) = some y ∧ buI rd a b m s0 (fun _ _ => True) y := by
  refine it_inv (I := fun t => ∃ x : Nat, t.1 = (x : Int) ∧ x ≤ 12 ∧ buI rd a b m s0 (fun u _ => u < x) t.2) _ (fun t => (12 - t.1).toNat) ?_ sl_fu (0, s0) ⟨0, rfl, by omega, h.1, h.2.1, h.2.2.1, fun u v hu hv hP => absurd hP (by omega)⟩ (by show (12 - (0 : Int)).toNat < 5000; omega)
  rintro ⟨z, s1⟩ ⟨x, hz, hx, hI⟩
  dsimp only at hz hI ⊢
  subst hz
  unfold fMap_build_l43
  rw [tw (x := (x : Int)) (by omega) (by omega)]
  by_cases hx12 : 12 ≤ (x : Int)
  · right
    rw [if_pos hx12]
    exact ⟨s1, rfl, hI.1, hI.2.1, hI.2.2.1, fun u v hu hv hP => hI.2.2.2 u v hu hv (by omega)⟩
  · left
    obtain ⟨y, hy, hIy⟩ := bu_inner h0 ha hb hm (by omega : x < 12) hI
    rw [if_neg hx12, hy]
    exact ⟨_, rfl, ⟨x + 1, by push_cast; rfl, by omega, hIy⟩, by show (12 - ((x : Int) + 1)).toNat < (12 - (x : Int)).toNat; omega⟩
/-- a road is built: the numbers of the map are those of the roads with this one more -/
theorem build_eq {rd : Nat → Nat → Int} {a b : Nat} {m : Int} {s : MI} (h0 : Dist rd 1000000 (mD s)) (ha : a < 12) (hb : b < 12) (hab : ¬ a = b) (hm : 1 ≤ m ∧ m ≤ 60) (hrd : ∀ x y, x < 12 → y < 12 → s 1 (12 * x + y) = rd x y) (h00 : rd a b = 0 ∧ rd b a = 0) :
    ∃ s', fMap_build (a : Int) (b : Int) m s = some (s 0 0 + 1 - 1, s') ∧ s' 0 0 = s 0 0 + 1 ∧ (∀ x y, x < 12 → y < 12 → s' 1 (12 * x + y) = rdAdd rd a b m x y) ∧ Dist (rdAdd rd a b m) 1000000 (mD s') := by
  unfold fMap_build
  have w1 : sm_w 1 = 1 := tw (by omega) (by omega)
  simp only [isArea_eq ha, isArea_eq hb, Option.bind_some, w1]
  rw [if_neg (by omega), if_neg (by omega), tg (by omega) (by omega) (by omega), tg (by omega) (by omega) (by omega), tn (by omega) (by omega), tn (by omega) (by omega), show ((a : Int) * 12 + (b : Int)).toNat = 12 * a + b by omega, show ((b : Int) * 12 + (a : Int)).toNat = 12 * b + a by omega]
  generalize hs1 : sm_up (sm_up s 1 (12 * a + b) m) 1 (12 * b + a) m = s1
  have e2 : s1 2 = s 2 := by rw [← hs1, up_D (by omega), up_D (by omega)]
  have e0 : s1 0 = s 0 := by rw [← hs1, up_D (by omega), up_D (by omega)]
  have h01 : Dist rd 1000000 (mD s1) := by
    have : mD s1 = mD s := by funext x y; show s1 2 _ = s 2 _; rw [e2]
    rw [this]; exact h0
  have hI0 : buI rd a b m s1 (fun _ _ => False) s1 := by
    refine ⟨fun _ _ => rfl, fun x y hx hy => ⟨(h01.2.1 x y hx hy).1, Int.le_refl _⟩, fun f hf x z hx hz hlt => h01.2.2.2 f (fun u c hu hc hr => ?_) x z hx hz hlt, fun _ _ _ _ h => h.elim⟩
    have := hf u c hu hc (by
      unfold rdAdd
      split
      · omega
      · exact hr)
    unfold rdAdd at this
    split at this
    · rename_i q
      rcases q with ⟨rfl, rfl⟩ | ⟨rfl, rfl⟩
      · rw [h00.1] at hr; omega
      · rw [h00.2] at hr; omega
    · exact this
  obtain ⟨y, hy, hIy⟩ := bu_outer h01 ha hb hm hI0
  rw [hy]
  simp only [Option.bind_some]
  refine ⟨_, by rw [up_s, hIy.1 0 (by omega), e0], by rw [up_s], fun x y' hx hy' => ?_, ?_⟩
  · rw [up_d (by omega), hIy.1 1 (by omega), ← hs1]
    unfold rdAdd
    by_cases q1 : x = b ∧ y' = a
    · obtain ⟨rfl, rfl⟩ := q1
      rw [up_s, if_pos (Or.inr ⟨rfl, rfl⟩)]
    · rw [up_j (by omega)]
      by_cases q2 : x = a ∧ y' = b
      · obtain ⟨rfl, rfl⟩ := q2
        rw [up_s, if_pos (Or.inl ⟨rfl, rfl⟩)]
      · rw [up_j (by omega), if_neg (by omega)]
        exact hrd x y' hx hy'
  · have : ∀ q, mD (sm_up y 0 0 q) = mD y := fun q => by funext u v; exact up_d (by omega)
    rw [this]
    exact dAdd_dist h01 ha hb (by omega) (fun u v hu hv => (hIy.2.1 u v hu hv).1) hIy.2.2.1 (fun u v hu hv => hIy.2.2.2 u v hu hv trivial)
