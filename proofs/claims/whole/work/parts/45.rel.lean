/-! ===== the model's row, seen by its parts; what always holds of it; the class's state beside it ===== -/
def nu (N : Nat → Int) (i : Nat) (v : Int) : Nat → Int := fun k => if k = i then v else N k
theorem nu_s (N : Nat → Int) (i : Nat) (v : Int) : nu N i v i = v := by simp [nu]
theorem nu_n {N : Nat → Int} {i k : Nat} {v : Int} (h : ¬ k = i) : nu N i v k = N k := by simp [nu, h]
theorem up_nu (m : MI) (d j : Nat) (v : Int) : sm_up m d j v d = nu (m d) j v := by
  funext k
  simp [sm_up, nu]
abbrev vP (N : Nat → Int) (p : Nat) : Nat → Int := fun w => if w < 14 then N (186 + 14 * p + w) else 0
abbrev vC (N : Nat → Int) (c : Nat) : Nat → Int := fun w => if w < 13 then N (290 + 13 * c + w) else 0
abbrev vG (N : Nat → Int) (g : Nat) : Nat → Int := fun w => if w < 4 then N (270 + 4 * g + w) else 0
abbrev vM (N : Nat → Int) (k : Nat) : Nat → Int := fun w => if w < 4 then N (106 + 4 * k + w) else 0
def sumN : Nat → (Nat → Int) → Int
  | 0, _ => 0
  | n + 1, f => sumN n f + f n
theorem sumN_eq {f g : Nat → Int} : ∀ n, (∀ k, k < n → f k = g k) → sumN n f = sumN n g
  | 0, _ => rfl
  | n + 1, h => by
    show sumN n f + f n = sumN n g + g n
    rw [sumN_eq n (fun k hk => h k (by omega)), h n (by omega)]
theorem sumN_up {f g : Nat → Int} {a : Nat} : ∀ n, a < n → (∀ k, k < n → ¬ k = a → f k = g k) → sumN n f = sumN n g + (f a - g a)
  | 0, h, _ => absurd h (by omega)
  | n + 1, h, e => by
    show sumN n f + f n = sumN n g + g n + (f a - g a)
    by_cases q : a = n
    · subst q
      rw [sumN_eq a (fun k hk => e k (by omega) (by omega))]
      omega
    · rw [sumN_up n (by omega) (fun k hk => e k (by omega)), e n (by omega) (fun z => q z.symm)]
      omega
theorem sumN_0 : ∀ n, sumN n (fun _ => 0) = 0
  | 0 => rfl
  | n + 1 => by
    show sumN n (fun _ => 0) + 0 = 0
    rw [sumN_0 n]
    rfl
theorem sumN_nn {f : Nat → Int} : ∀ n, (∀ k, k < n → 0 ≤ f k) → 0 ≤ sumN n f
  | 0, _ => Int.le_refl _
  | n + 1, h => by
    have := sumN_nn n (fun k hk => h k (by omega))
    have := h n (by omega)
    show 0 ≤ sumN n f + f n
    omega
def late (q : Nat → Int) : Int := if ¬ q 8 = -5 ∧ q 3 < q 7 then 1 else 0
def paid (t : Int) (q : Nat → Int) : Int := if q 5 = 5 then (if 20 - 10 * t - 5 * q 10 < 0 then 0 else 20 - 10 * t - 5 * q 10) else 0
abbrev tierC (N : Nat → Int) (c : Nat) : Int := N (106 + 4 * (vC N c 0).toNat)
def uw (N : Nat → Int) (g : Nat) : Int := sumN (N 7).toNat (fun p => if vP N p 3 = 3 ∧ vP N p 13 = (g : Int) then 1 else 0)
def pI (nc ng : Int) (q : Nat → Int) : Prop := (0 ≤ q 0 ∧ q 0 < 12) ∧ (1 ≤ q 1 ∧ q 1 ≤ 9) ∧ (q 2 = 0 ∨ q 2 = 1) ∧ (0 ≤ q 4 ∧ q 4 < 12) ∧
  ((q 3 = 0 ∨ q 3 = 4) ∧ q 5 = -5 ∧ q 6 = -5 ∨ (q 3 = 1 ∨ q 3 = 2 ∨ q 3 = 3) ∧ (0 ≤ q 5 ∧ q 5 < nc) ∧ (1 ≤ q 6 ∧ q 6 ≤ 2000)) ∧ (q 3 = 3 → (0 ≤ q 12 ∧ q 12 < 12) ∧ 0 ≤ q 13 ∧ q 13 < ng)
def cS (np mi : Int) (q : Nat → Int) : Prop :=
  (q 5 = 0 ∧ q 6 = -5 ∧ q 8 = -5 ∧ q 9 = -5) ∨ (q 5 = 1 ∧ (0 ≤ q 6 ∧ q 6 < np) ∧ q 8 = -5 ∧ q 9 = -5) ∨ ((q 5 = 2 ∨ q 5 = 4) ∧ (0 ≤ q 6 ∧ q 6 < np) ∧ (0 ≤ q 8 ∧ q 8 < np) ∧ (0 ≤ q 7 ∧ q 7 ≤ 2880) ∧ q 9 = -5) ∨
  (q 5 = 3 ∧ (q 6 = -5 ∨ 0 ≤ q 6 ∧ q 6 < np) ∧ (0 ≤ q 8 ∧ q 8 < np) ∧ (0 ≤ q 7 ∧ q 7 ≤ 2880) ∧ q 9 = -5) ∨ ((q 5 = 5 ∨ q 5 = 6) ∧ q 6 = -5 ∧ (0 ≤ q 8 ∧ q 8 < np) ∧ (0 ≤ q 7 ∧ q 7 ≤ 2880) ∧ 0 ≤ q 9 ∧ q 9 ≤ mi) ∨
  (q 5 = 7 ∧ q 6 = -5 ∧ q 8 = -5 ∧ (0 ≤ q 9 ∧ q 9 ≤ mi) ∧ q 7 = q 9 - q 4 ∧ q 4 ≤ q 9)
def cI (nm np mi : Int) (q : Nat → Int) : Prop := (0 ≤ q 0 ∧ q 0 < nm) ∧ (0 ≤ q 1 ∧ q 1 < 12) ∧ (1 ≤ q 2 ∧ q 2 ≤ 12) ∧ (10 ≤ q 3 ∧ q 3 ≤ 290) ∧ (0 ≤ q 4 ∧ q 4 ≤ mi) ∧ (q 10 = 0 ∨ q 10 = 1) ∧ cS np mi q
/-- how a patrol at work and its call belong together -/
def lkP (q c : Nat → Int) : Prop := q 3 = 1 ∧ (c 5 = 1 ∨ c 5 = 3 ∧ q 2 = 1 ∧ q 0 / 4 = c 1 / 4) ∨ q 3 = 2 ∧ c 5 = 2 ∨ q 3 = 3 ∧ c 5 = 4
def nS (N : Nat → Int) : Prop := (0 ≤ N 0 ∧ N 0 ≤ 2880) ∧ (0 ≤ N 1 ∧ N 1 ≤ 5) ∧ ((10 ≤ N 2 ∧ N 2 ≤ 240) ∧ (10 ≤ N 3 ∧ N 3 ≤ 240) ∧ (10 ≤ N 4 ∧ N 4 ≤ 240)) ∧ (0 ≤ N 6 ∧ N 6 ≤ 20) ∧ (0 ≤ N 7 ∧ N 7 ≤ 6) ∧ (0 ≤ N 8 ∧ N 8 ≤ 5) ∧ (0 ≤ N 9 ∧ N 9 ≤ 40)
def nM (N : Nat → Int) : Prop := ∀ k : Nat, (k : Int) < N 6 → 0 ≤ vM N k 0 ∧ vM N k 0 ≤ 2
def nP (N : Nat → Int) : Prop := ∀ p : Nat, (p : Int) < N 7 → pI (N 9) (N 8) (vP N p)
def nG (N : Nat → Int) : Prop := ∀ g : Nat, (g : Int) < N 8 → (0 ≤ vG N g 0 ∧ vG N g 0 < 12) ∧ (1 ≤ vG N g 1 ∧ vG N g 1 ≤ 9) ∧ 0 ≤ vG N g 2 ∧ vG N g 2 + uw N g ≤ vG N g 1
def nC (N : Nat → Int) : Prop := ∀ c : Nat, (c : Int) < N 9 → cI (N 6) (N 7) (N 0) (vC N c)
def nL (N : Nat → Int) : Prop := (∀ p : Nat, (p : Int) < N 7 → 0 ≤ vP N p 5 → vC N (vP N p 5).toNat 6 = (p : Int) ∧ lkP (vP N p) (vC N (vP N p 5).toNat)) ∧ ∀ c : Nat, (c : Int) < N 9 → 0 ≤ vC N c 6 → vP N (vC N c 6).toNat 5 = (c : Int)
def nT (N : Nat → Int) : Prop :=
  N 10 = sumN (N 9).toNat (fun c => paid (tierC N c) (vC N c)) ∧ N 11 = sumN (N 9).toNat (fun c => 15 * late (vC N c)) ∧ N 12 = sumN (N 9).toNat (fun c => vC N c 10) ∧
  ∀ k : Nat, (k : Int) < N 6 → vM N k 1 = sumN (N 9).toNat (fun c => if vC N c 0 = (k : Int) then paid (tierC N c) (vC N c) - 15 * late (vC N c) else 0) ∧ vM N k 2 = sumN (N 9).toNat (fun c => if vC N c 0 = (k : Int) then vC N c 10 else 0) ∧ vM N k 3 = sumN (N 9).toNat (fun c => if vC N c 0 = (k : Int) then late (vC N c) else 0)
/-- what stands behind the counts has begun at nothing -/
def nZ (N : Nat → Int) : Prop := (∀ k : Nat, k < 20 → N 6 ≤ (k : Int) → vM N k 1 = 0 ∧ vM N k 2 = 0 ∧ vM N k 3 = 0) ∧ (∀ p : Nat, p < 6 → N 7 ≤ (p : Int) → vP N p 7 = 0 ∧ vP N p 8 = 0 ∧ vP N p 9 = 0 ∧ vP N p 10 = 0 ∧ vP N p 11 = 0) ∧ ∀ g : Nat, g < 5 → N 8 ≤ (g : Int) → vG N g 2 = 0 ∧ vG N g 3 = 0
/-- what always holds of the model's row -/
def NI (N : Nat → Int) : Prop := nS N ∧ rOK N ∧ nM N ∧ nP N ∧ nG N ∧ nC N ∧ nL N ∧ nT N ∧ nZ N
def pR (r q : Nat → Int) : Prop := (r 0 = q 0 ∧ r 1 = q 1 ∧ r 2 = q 2 ∧ r 3 = q 3 ∧ r 4 = q 4 ∧ r 5 = q 5 ∧ r 6 = q 6) ∧ (q 3 = 3 → r 7 = q 12 ∧ r 8 = q 13) ∧ (r 9 = q 7 ∧ r 10 = q 8 ∧ r 11 = q 9 ∧ r 12 = q 10 ∧ r 13 = q 11)
def cR (r q : Nat → Int) : Prop := (r 0 = q 0 ∧ r 1 = q 1 ∧ r 2 = q 2 ∧ r 3 = q 3 ∧ r 4 = q 4 ∧ r 5 = q 5 ∧ r 6 = q 8) ∧ (q 8 = -5 → r 7 = -5) ∧ (¬ q 8 = -5 → r 7 = q 4 + q 7) ∧ r 8 = q 9 ∧ r 9 = q 11 ∧ r 10 = q 10
def sR (s : MI) (N : Nat → Int) : Prop := s 0 2 = N 6 ∧ s 0 4 = N 7 ∧ s 0 6 = N 8 ∧ s 0 8 = N 9 ∧ s 0 10 = N 1 ∧ s 0 11 = N 0 ∧ (s 8 0 = N 2 ∧ s 8 1 = N 3 ∧ s 8 2 = N 4) ∧ s 1 0 = N 5
def mR (s : MI) (N : Nat → Int) : Prop := (∀ x y, x < 12 → y < 12 → s 2 (12 * x + y) = rd N x y) ∧ Dist (rd N) 1000000 (fun x y => s 3 (12 * x + y))
/-- the class's state s beside the model's row N -/
def RS (s : MI) (N : Nat → Int) : Prop := sR s N ∧ mR s N ∧ (∀ k : Nat, (k : Int) < N 6 → s 4 k = vM N k 0) ∧ (∀ p : Nat, (p : Int) < N 7 → pR (s (10 + p)) (vP N p)) ∧
  (∀ g : Nat, (g : Int) < N 8 → s (16 + g) 0 = vG N g 0 ∧ s (16 + g) 1 = vG N g 1 ∧ s (16 + g) 2 = vG N g 2 ∧ s (16 + g) 3 = uw N g ∧ s (16 + g) 4 = vG N g 3) ∧ (∀ c : Nat, (c : Int) < N 9 → cR (s (21 + c)) (vC N c)) ∧ NI N
-- the parts under a write
theorem vP_P {N : Nat → Int} {p p' w : Nat} {v : Int} (hw : w < 14) : vP (nu N (186 + 14 * p + w) v) p' = if p' = p then nu (vP N p) w v else vP N p' := by
  funext k
  by_cases e : p' = p
  · subst e
    rw [if_pos rfl]
    unfold vP nu
    by_cases hk : k < 14
    · simp only [hk, if_true]
      by_cases q : k = w
      · simp [q]
      · rw [if_neg (by omega), if_neg q]
    · simp only [hk, if_false]
      rw [if_neg (by omega)]
  · rw [if_neg e]
    unfold vP nu
    by_cases hk : k < 14
    · simp only [hk, if_true]
      rw [if_neg (by omega)]
    · simp only [hk, if_false]
theorem vC_C {N : Nat → Int} {p p' w : Nat} {v : Int} (hw : w < 13) : vC (nu N (290 + 13 * p + w) v) p' = if p' = p then nu (vC N p) w v else vC N p' := by
  funext k
  by_cases e : p' = p
  · subst e
    rw [if_pos rfl]
    unfold vC nu
    by_cases hk : k < 13
    · simp only [hk, if_true]
      by_cases q : k = w
      · simp [q]
      · rw [if_neg (by omega), if_neg q]
    · simp only [hk, if_false]
      rw [if_neg (by omega)]
  · rw [if_neg e]
    unfold vC nu
    by_cases hk : k < 13
    · simp only [hk, if_true]
      rw [if_neg (by omega)]
    · simp only [hk, if_false]
theorem vG_G {N : Nat → Int} {p p' w : Nat} {v : Int} (hw : w < 4) : vG (nu N (270 + 4 * p + w) v) p' = if p' = p then nu (vG N p) w v else vG N p' := by
  funext k
  by_cases e : p' = p
  · subst e
    rw [if_pos rfl]
    unfold vG nu
    by_cases hk : k < 4
    · simp only [hk, if_true]
      by_cases q : k = w
      · simp [q]
      · rw [if_neg (by omega), if_neg q]
    · simp only [hk, if_false]
      rw [if_neg (by omega)]
  · rw [if_neg e]
    unfold vG nu
    by_cases hk : k < 4
    · simp only [hk, if_true]
      rw [if_neg (by omega)]
    · simp only [hk, if_false]
theorem vM_M {N : Nat → Int} {p p' w : Nat} {v : Int} (hw : w < 4) : vM (nu N (106 + 4 * p + w) v) p' = if p' = p then nu (vM N p) w v else vM N p' := by
  funext k
  by_cases e : p' = p
  · subst e
    rw [if_pos rfl]
    unfold vM nu
    by_cases hk : k < 4
    · simp only [hk, if_true]
      by_cases q : k = w
      · simp [q]
      · rw [if_neg (by omega), if_neg q]
    · simp only [hk, if_false]
      rw [if_neg (by omega)]
  · rw [if_neg e]
    unfold vM nu
    by_cases hk : k < 4
    · simp only [hk, if_true]
      rw [if_neg (by omega)]
    · simp only [hk, if_false]
theorem vP_o {N : Nat → Int} {i p : Nat} {v : Int} (h : i < 186 + 14 * p ∨ 200 + 14 * p ≤ i) : vP (nu N i v) p = vP N p := by
  funext k
  unfold vP nu
  by_cases hk : k < 14
  · simp only [hk, if_true]
    rw [if_neg (by omega)]
  · simp only [hk, if_false]
theorem vC_o {N : Nat → Int} {i p : Nat} {v : Int} (h : i < 290 + 13 * p ∨ 303 + 13 * p ≤ i) : vC (nu N i v) p = vC N p := by
  funext k
  unfold vC nu
  by_cases hk : k < 13
  · simp only [hk, if_true]
    rw [if_neg (by omega)]
  · simp only [hk, if_false]
theorem vG_o {N : Nat → Int} {i p : Nat} {v : Int} (h : i < 270 + 4 * p ∨ 274 + 4 * p ≤ i) : vG (nu N i v) p = vG N p := by
  funext k
  unfold vG nu
  by_cases hk : k < 4
  · simp only [hk, if_true]
    rw [if_neg (by omega)]
  · simp only [hk, if_false]
theorem vM_o {N : Nat → Int} {i p : Nat} {v : Int} (h : i < 106 + 4 * p ∨ 110 + 4 * p ≤ i) : vM (nu N i v) p = vM N p := by
  funext k
  unfold vM nu
  by_cases hk : k < 4
  · simp only [hk, if_true]
    rw [if_neg (by omega)]
  · simp only [hk, if_false]
theorem rdl_nu {N N' : Nat → Int} (h : ∀ i, 16 ≤ i → i < 106 → N' i = N i) (x y : Nat) : ∀ r, r ≤ 30 → rdl N' r x y = rdl N r x y
  | 0, _ => rfl
  | r + 1, hr => by
    unfold rdl
    rw [h (16 + 3 * r) (by omega) (by omega), h (16 + 3 * r + 1) (by omega) (by omega), h (16 + 3 * r + 2) (by omega) (by omega), rdl_nu h x y r (by omega)]
theorem rd_nu {N N' : Nat → Int} (h5 : N' 5 = N 5) (hN : N 5 ≤ 30) (h : ∀ i, 16 ≤ i → i < 106 → N' i = N i) : rd N' = rd N := by
  funext x y
  unfold rd
  rw [h5]
  exact rdl_nu h x y _ (by omega)
theorem rOK_nu {N N' : Nat → Int} (h5 : N' 5 = N 5) (h : ∀ i, 16 ≤ i → i < 106 → N' i = N i) (hR : rOK N) : rOK N' := by
  obtain ⟨a, b, c⟩ := hR
  refine ⟨by rw [h5]; exact a, by rw [h5]; exact b, fun r hr => ?_⟩
  rw [h5] at hr
  rw [h (16 + 3 * r) (by omega) (by omega), h (16 + 3 * r + 1) (by omega) (by omega), h (16 + 3 * r + 2) (by omega) (by omega)]
  exact c r hr
