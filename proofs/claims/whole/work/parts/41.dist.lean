/-! ===== distances over at most 12 areas: what both programs keep is one and the same ===== -/
def dFeas (rd : Nat → Nat → Int) (f : Nat → Int) : Prop := ∀ x c, x < 12 → c < 12 → 0 < rd x c → f x ≤ rd x c + f c
def dSound (rd : Nat → Nat → Int) (inf : Int) (D : Nat → Nat → Int) : Prop := ∀ f : Nat → Int, dFeas rd f → ∀ x z, x < 12 → z < 12 → D x z < inf → f x ≤ D x z + f z
def Dist (rd : Nat → Nat → Int) (inf : Int) (D : Nat → Nat → Int) : Prop :=
  (∀ x, x < 12 → D x x = 0) ∧ (∀ x y, x < 12 → y < 12 → 0 ≤ D x y ∧ D x y ≤ inf) ∧ (∀ z, z < 12 → dFeas rd (fun x => D x z)) ∧ dSound rd inf D
theorem cnt_sub {p q : Nat → Bool} : ∀ (l : List Nat), (∀ u ∈ l, p u = true → q u = true) → l.countP p ≤ l.countP q ∧ (l.countP q ≤ l.countP p → ∀ u ∈ l, q u = true → p u = true)
  | [], _ => ⟨Nat.le_refl _, fun _ u hu => by cases hu⟩
  | a :: l, h => by
    obtain ⟨h1, h2⟩ := cnt_sub l (fun u hu => h u (List.mem_cons_of_mem _ hu))
    have ha := h a List.mem_cons_self
    rw [List.countP_cons, List.countP_cons]
    cases hp : p a <;> cases hq : q a
    · refine ⟨by simpa [hp, hq] using h1, fun hle u hu hqu => ?_⟩
      rcases List.mem_cons.mp hu with rfl | hu
      · rw [hq] at hqu; cases hqu
      · exact h2 (by simpa [hp, hq] using hle) u hu hqu
    · refine ⟨by simp; omega, fun hle u hu hqu => ?_⟩
      simp at hle
      omega
    · exact absurd (ha hp) (by simp [hq])
    · refine ⟨by simp; omega, fun hle u hu hqu => ?_⟩
      rcases List.mem_cons.mp hu with rfl | hu
      · exact hp
      · exact h2 (by simp at hle; omega) u hu hqu
def dCnt (d : Nat → Int) (t : Int) : Nat := (List.range 12).countP (fun u => decide (d u ≤ t))
theorem dist_gap {rd : Nat → Nat → Int} {inf : Int} {D : Nat → Nat → Int} (h : Dist rd inf D) (hr : ∀ x c, x < 12 → c < 12 → rd x c ≤ 60) {z : Nat} (hz : z < 12) {t : Int} (ht : 0 ≤ t) (hg : ∀ u, u < 12 → D u z ≤ t + 60 → D u z ≤ t) {x : Nat} (hx : x < 12) (hf : D x z < inf) : D x z ≤ t := by
  rcases Int.lt_or_le t (D x z) with hgt | hle
  · have hinf := (h.2.1 x z hx hz).2
    have hfe : dFeas rd (fun u => if D u z ≤ t then D u z else inf + t + 1) := by
      intro u c hu hc hrd
      have h60 := hr u c hu hc
      have hF := h.2.2.1 z hz u c hu hc hrd
      have hb := h.2.1 u z hu hz
      dsimp only
      by_cases hcl : D c z ≤ t
      · have hul : D u z ≤ t := hg u hu (by dsimp only at hF; omega)
        rw [if_pos hcl, if_pos hul]
        exact hF
      · rw [if_neg hcl]
        split <;> omega
    have hs := h.2.2.2 _ hfe x z hx hz hf
    have hzz := h.1 z hz
    rw [if_neg (by omega), if_pos (by omega)] at hs
    omega
  · exact hle
theorem dist_cnt {rd : Nat → Nat → Int} {inf : Int} {D : Nat → Nat → Int} (h : Dist rd inf D) (hr : ∀ x c, x < 12 → c < 12 → rd x c ≤ 60) {z : Nat} (hz : z < 12) : ∀ (j : Nat) (x : Nat), x < 12 → D x z < inf → 60 * (j : Int) < D x z → j + 1 ≤ dCnt (fun u => D u z) (60 * (j : Int)) := by
  intro j
  induction j with
  | zero =>
    intro x hx hf hgt
    have : 0 < (List.range 12).countP (fun u => decide (D u z ≤ 60 * ((0 : Nat) : Int))) := by
      rw [List.countP_pos_iff]
      exact ⟨z, List.mem_range.mpr hz, by simp [h.1 z hz]⟩
    exact this
  | succ j ih =>
    intro x hx hf hgt
    have h1 := ih x hx hf (by push_cast at hgt; omega)
    have hsub := cnt_sub (p := fun u => decide (D u z ≤ 60 * (j : Int))) (q := fun u => decide (D u z ≤ 60 * ((j + 1 : Nat) : Int))) (List.range 12) (fun u _ hu => by
      simp only [decide_eq_true_eq] at hu ⊢
      push_cast
      omega)
    rcases Nat.lt_or_ge (dCnt (fun u => D u z) (60 * (j : Int))) (dCnt (fun u => D u z) (60 * ((j + 1 : Nat) : Int))) with hlt | hge
    · omega
    · have hall := hsub.2 hge
      have := dist_gap h hr hz (t := 60 * (j : Int)) (by omega) (fun u hu hle => by
        have := hall u (List.mem_range.mpr hu) (by simp only [decide_eq_true_eq]; push_cast; omega)
        simpa using this) hx hf
      push_cast at hgt
      omega
theorem dist_bound {rd : Nat → Nat → Int} {inf : Int} {D : Nat → Nat → Int} (h : Dist rd inf D) (hr : ∀ x c, x < 12 → c < 12 → rd x c ≤ 60) {x z : Nat} (hx : x < 12) (hz : z < 12) (hf : D x z < inf) : D x z ≤ 660 := by
  rcases Int.lt_or_le 660 (D x z) with hgt | hle
  · have h1 : 11 + 1 ≤ (List.range 12).countP (fun u => decide (D u z ≤ 60 * ((11 : Nat) : Int))) := dist_cnt h hr hz 11 x hx hf (by push_cast; omega)
    have h2 : (List.range 12).countP (fun u => decide (D u z ≤ 60 * ((11 : Nat) : Int))) ≤ (List.range 12).length := List.countP_le_length
    have h3 : (List.range 12).countP (fun u => decide (D u z ≤ 60 * ((11 : Nat) : Int))) = (List.range 12).length := by
      have : (List.range 12).length = 12 := by simp
      omega
    have h4 := List.countP_eq_length.mp h3 x (List.mem_range.mpr hx)
    simp only [decide_eq_true_eq] at h4
    push_cast at h4
    omega
  · exact hle
theorem dist_le {rd : Nat → Nat → Int} {i1 i2 : Int} {D1 D2 : Nat → Nat → Int} (h1 : Dist rd i1 D1) (h2 : Dist rd i2 D2) {x z : Nat} (hx : x < 12) (hz : z < 12) (hf : D1 x z < i1) : D2 x z ≤ D1 x z := by
  have := h1.2.2.2 (fun u => D2 u z) (h2.2.2.1 z hz) x z hx hz hf
  have hzz := h2.1 z hz
  omega
/-- both keep the same distances, each with a number of its own for 'no way' -/
theorem dist_same {rd : Nat → Nat → Int} {i1 i2 : Int} {D1 D2 : Nat → Nat → Int} (h1 : Dist rd i1 D1) (h2 : Dist rd i2 D2) (hr : ∀ x c, x < 12 → c < 12 → rd x c ≤ 60) (hi1 : 660 < i1) (hi2 : 660 < i2) {x z : Nat} (hx : x < 12) (hz : z < 12) :
    (D1 x z = i1 ∧ D2 x z = i2) ∨ (D1 x z = D2 x z ∧ 0 ≤ D1 x z ∧ D1 x z ≤ 660) := by
  have b1 := h1.2.1 x z hx hz
  have b2 := h2.2.1 x z hx hz
  rcases Int.lt_or_le (D1 x z) i1 with f1 | f1
  · have l1 := dist_le h1 h2 hx hz f1
    have n1 := dist_bound h1 hr hx hz f1
    have l2 := dist_le h2 h1 hx hz (by omega)
    exact Or.inr ⟨by omega, b1.1, n1⟩
  · rcases Int.lt_or_le (D2 x z) i2 with f2 | f2
    · have l2 := dist_le h2 h1 hx hz f2
      have n2 := dist_bound h2 hr hx hz f2
      omega
    · exact Or.inl ⟨by omega, by omega⟩
/-- one more road -/
def rdAdd (rd : Nat → Nat → Int) (a b : Nat) (m : Int) : Nat → Nat → Int := fun x y => if (x = a ∧ y = b) ∨ (x = b ∧ y = a) then m else rd x y
def dAdd (D : Nat → Nat → Int) (a b : Nat) (m : Int) : Nat → Nat → Int := fun x y => min (D x y) (min (D x a + m + D b y) (D x b + m + D a y))
theorem dAdd_feas {rd : Nat → Nat → Int} {inf : Int} {D : Nat → Nat → Int} (h : Dist rd inf D) {a b : Nat} (ha : a < 12) (hb : b < 12) {m : Int} (hm : 0 < m) {z : Nat} (hz : z < 12) : dFeas (rdAdd rd a b m) (fun x => dAdd D a b m x z) := by
  intro x c hx hc hrd
  have haa := h.1 a ha
  have hbb := h.1 b hb
  have n1 := (h.2.1 a z ha hz).1
  have n2 := (h.2.1 b z hb hz).1
  have n3 := (h.2.1 a b ha hb).1
  have n4 := (h.2.1 b a hb ha).1
  unfold rdAdd at hrd ⊢
  unfold dAdd
  dsimp only at hrd ⊢
  by_cases e : (x = a ∧ c = b) ∨ (x = b ∧ c = a)
  · rw [if_pos e]
    rcases e with ⟨rfl, rfl⟩ | ⟨rfl, rfl⟩ <;> omega
  · rw [if_neg e] at hrd ⊢
    have f1 := h.2.2.1 z hz x c hx hc hrd
    have f2 := h.2.2.1 a ha x c hx hc hrd
    have f3 := h.2.2.1 b hb x c hx hc hrd
    dsimp only at f1 f2 f3
    omega
/-- what comes out of any work that only makes sound steps and gets below dAdd is right -/
theorem dAdd_dist {rd : Nat → Nat → Int} {inf : Int} {D V : Nat → Nat → Int} (h : Dist rd inf D) {a b : Nat} (ha : a < 12) (hb : b < 12) {m : Int} (hm : 0 < m) (hV0 : ∀ x y, x < 12 → y < 12 → 0 ≤ V x y) (hs : dSound (rdAdd rd a b m) inf V) (hle : ∀ x y, x < 12 → y < 12 → V x y ≤ dAdd D a b m x y) : Dist (rdAdd rd a b m) inf V := by
  have hge : ∀ x y, x < 12 → y < 12 → dAdd D a b m x y ≤ V x y := by
    intro x y hx hy
    rcases Int.lt_or_le (V x y) inf with hf | hf
    · have := hs _ (dAdd_feas h ha hb hm hy) x y hx hy hf
      have hz : dAdd D a b m y y ≤ 0 := by
        unfold dAdd
        have := h.1 y hy
        omega
      omega
    · have : dAdd D a b m x y ≤ D x y := by unfold dAdd; omega
      have := (h.2.1 x y hx hy).2
      omega
  have he : ∀ x y, x < 12 → y < 12 → V x y = dAdd D a b m x y := fun x y hx hy => Int.le_antisymm (hle x y hx hy) (hge x y hx hy)
  refine ⟨fun x hx => ?_, fun x y hx hy => ⟨hV0 x y hx hy, ?_⟩, fun z hz x c hx hc hrd => ?_, hs⟩
  · have h1 := hV0 x x hx hx
    have h2 := hle x x hx hx
    have h3 : dAdd D a b m x x ≤ D x x := by unfold dAdd; omega
    have := h.1 x hx
    omega
  · have h2 := hle x y hx hy
    have h3 : dAdd D a b m x y ≤ D x y := by unfold dAdd; omega
    have := (h.2.1 x y hx hy).2
    omega
  · have := dAdd_feas h ha hb hm hz x c hx hc hrd
    dsimp only at this ⊢
    rw [he x z hx hz, he c z hc hz]
    exact this
