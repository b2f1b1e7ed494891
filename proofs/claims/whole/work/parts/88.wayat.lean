/-! ===== wayAt: a shortest way has at most 11 areas behind the first ===== -/
theorem sumN_le {f g : Nat → Int} : ∀ n, (∀ k, k < n → f k ≤ g k) → sumN n f ≤ sumN n g
  | 0, _ => Int.le_refl _
  | n + 1, h => by
    have := sumN_le n (fun k hk => h k (by omega))
    have := h n (by omega)
    show sumN n f + f n ≤ sumN n g + g n
    omega
theorem sumN_lt {f g : Nat → Int} {a : Nat} : ∀ n, a < n → (∀ k, k < n → f k ≤ g k) → f a + 1 ≤ g a → sumN n f + 1 ≤ sumN n g
  | 0, h, _, _ => absurd h (by omega)
  | n + 1, h, hk, ha => by
    show sumN n f + f n + 1 ≤ sumN n g + g n
    by_cases q : a = n
    · subst q
      have := sumN_le a (f := f) (g := g) (fun k hk' => hk k (by omega))
      omega
    · have := sumN_lt n (by omega) (fun k hk' => hk k (by omega)) ha
      have := hk n (by omega)
      omega
/-- how many areas are nearer to z -/
def nnr (m : MI) (z x : Nat) : Int := sumN 12 (fun u => if d2 m u z < d2 m x z then 1 else 0)
theorem nnr_nn (m : MI) (z x : Nat) : 0 ≤ nnr m z x := sumN_nn _ (fun k _ => by split <;> omega)
theorem nnr_le (m : MI) (z x : Nat) (hx : x < 12) : nnr m z x ≤ 11 := by
  have := sumN_lt (f := fun u => if d2 m u z < d2 m x z then 1 else 0) (g := fun _ => 1) (a := x) 12 hx (fun k _ => by split <;> omega) (by rw [if_neg (by omega)]; omega)
  have e : sumN 12 (fun _ => 1) = 12 := rfl
  unfold nnr
  omega
theorem nnr_lt {m : MI} {z x a : Nat} (ha : a < 12) (h : d2 m a z < d2 m x z) : nnr m z a + 1 ≤ nnr m z x := by
  unfold nnr
  refine sumN_lt (a := a) 12 ha (fun k _ => ?_) ?_
  · split
    · rw [if_pos (by omega)]
      omega
    · split <;> omega
  · rw [if_neg (by omega), if_pos h]
    omega
theorem it_go {S Y : Type} {f : S → Option (S ⊕ Y)} {s s' : S} (n : Nat) (h : f s = some (.inl s')) : sl_it f (n + 1) s = sl_it f n s' := by
  show (f s).bind _ = _
  rw [h]
  rfl
theorem it_end {S Y : Type} {f : S → Option (S ⊕ Y)} {s : S} {y : Y} (n : Nat) (h : f s = some (.inr y)) : sl_it f (n + 1) s = some y := by
  show (f s).bind _ = _
  rw [h]
  rfl
theorem way_loops {d m : MI} {z x0 : Nat} {p : Int} (h : wk (sm_lo 1 d) m) (hz : z < 12) (hx0 : x0 < 12) (hf0 : d2 m x0 z < 100000) (hp : i32 p) : ∀ (c x k n : Nat), x < 12 → d2 m x z < 100000 → nnr m z x ≤ (c : Int) → (k : Int) ≤ p → k + c ≤ 1000 → c ≤ 12 → c + 3 ≤ n →
    ∃ A K : Int, sl_it (fun (t : Int × Int) => fModel_wayAt_l29 (x0 : Int) (z : Int) p t.1 t.2 m) n ((x : Int), (k : Int)) = some (A, K) ∧ (0 ≤ K ∧ K ≤ (k : Int) + c) ∧ sl_it (fun (t : Int × Int) => fDesk_wayAt_l55 (z : Int) p t.1 t.2 d) n ((x : Int), (k : Int)) = some (if K = p then A else -5) := by
  intro c
  induction c with
  | zero =>
    intro x k n hx hf hc hk hk1 hc12 hn
    obtain ⟨n, rfl⟩ : ∃ n', n = n' + 2 := ⟨n - 2, by omega⟩
    have wk' : sm_w (k : Int) = k := tw (by omega) (by omega)
    have wx : sm_w (x : Int) = x := tw (by omega) (by omega)
    have wz : sm_w (z : Int) = z := tw (by omega) (by omega)
    have xz : x = z := by
      refine Classical.byContradiction (fun hne => ?_)
      obtain ⟨a, a1, _, _, a4⟩ := next_eq h hx hz hne hf
      have h1 := nnr_nn m z a
      have h2 := nnr_lt (x := x) a1 (show d2 m a z < d2 m x z by have := a4.1; have := a4.2; omega)
      omega
    subst xz
    by_cases q : p = (k : Int)
    · refine ⟨(x : Int), (k : Int), it_end _ ?_, by omega, ?_⟩
      · dsimp only
        unfold fModel_wayAt_l29
        rw [tw hp.1 hp.2, wk', if_pos (by omega)]
      · rw [if_pos q.symm]
        refine it_end _ ?_
        dsimp only
        unfold fDesk_wayAt_l55
        rw [tw hp.1 hp.2, wk', if_pos (by omega)]
    · refine ⟨(x : Int), (k : Int), it_end _ ?_, by omega, ?_⟩
      · dsimp only
        unfold fModel_wayAt_l29
        rw [tw hp.1 hp.2, wk', if_neg (by omega), if_pos rfl]
      · rw [if_neg (fun e => q e.symm)]
        rw [it_go (s' := ((-5 : Int), (k : Int) + 1)) (n + 1) (by
          dsimp only
          unfold fDesk_wayAt_l55
          rw [tw hp.1 hp.2, wk', wx, if_neg (by omega), if_neg (by omega), ← lo_lo, next_end h hz, Option.bind_some])]
        refine it_end _ ?_
        dsimp only
        unfold fDesk_wayAt_l55
        rw [tw (x := -5) (by omega) (by omega), if_pos rfl, ite_self]
  | succ c ih =>
    intro x k n hx hf hc hk hk1 hc12 hn
    obtain ⟨n, rfl⟩ : ∃ n', n = n' + 2 := ⟨n - 2, by omega⟩
    have wk' : sm_w (k : Int) = k := tw (by omega) (by omega)
    have wx : sm_w (x : Int) = x := tw (by omega) (by omega)
    have wz : sm_w (z : Int) = z := tw (by omega) (by omega)
    by_cases q : p = (k : Int)
    · refine ⟨(x : Int), (k : Int), it_end _ ?_, by omega, ?_⟩
      · dsimp only
        unfold fModel_wayAt_l29
        rw [tw hp.1 hp.2, wk', if_pos (by omega)]
      · rw [if_pos q.symm]
        refine it_end _ ?_
        dsimp only
        unfold fDesk_wayAt_l55
        rw [tw hp.1 hp.2, wk', if_pos (by omega)]
    · by_cases xz : x = z
      · subst xz
        refine ⟨(x : Int), (k : Int), it_end _ ?_, by omega, ?_⟩
        · dsimp only
          unfold fModel_wayAt_l29
          rw [tw hp.1 hp.2, wk', if_neg (by omega), if_pos rfl]
        · rw [if_neg (fun e => q e.symm)]
          rw [it_go (s' := ((-5 : Int), (k : Int) + 1)) (n + 1) (by
            dsimp only
            unfold fDesk_wayAt_l55
            rw [tw hp.1 hp.2, wk', wx, if_neg (by omega), if_neg (by omega), ← lo_lo, next_end h hz, Option.bind_some])]
          refine it_end _ ?_
          dsimp only
          unfold fDesk_wayAt_l55
          rw [tw (x := -5) (by omega) (by omega), if_pos rfl, ite_self]
      · obtain ⟨a, a1, a2, a3, a4⟩ := next_eq h hx hz xz hf
        have hlt : d2 m a z < d2 m x z := by
          have := a4.1
          have := a4.2
          omega
        have h2 := nnr_lt (x := x) a1 hlt
        obtain ⟨A, K, e1, e2, e3⟩ := ih a (k + 1) (n + 1) a1 (by omega) (by omega) (by omega) (by omega) (by omega) (by omega)
        rw [show ((k + 1 : Nat) : Int) = (k : Int) + 1 by omega] at e1 e2 e3
        have D0 := wk_D h hx0 hz
        refine ⟨A, K, ?_, by omega, ?_⟩
        · rw [it_go (s' := ((a : Int), (k : Int) + 1)) (n + 1) (by
            dsimp only
            unfold fModel_wayAt_l29
            rw [tw hp.1 hp.2, wk', wx, wz, if_neg (by omega), if_neg (by omega), way_eq hx0 hz, Option.bind_some, tw (x := d2 m x0 z) (by omega) (by omega), if_neg (by omega), a2, Option.bind_some])]
          exact e1
        · rw [it_go (s' := ((a : Int), (k : Int) + 1)) (n + 1) (by
            dsimp only
            unfold fDesk_wayAt_l55
            rw [tw hp.1 hp.2, wk', wx, if_neg (by omega), if_neg (by omega), ← lo_lo, a3, Option.bind_some])]
          exact e3
theorem wayAt_eq {d m : MI} {ro : Nat → Nat} {x y p : Int} (h : DM d ro m) (hx : i32 x) (hy : i32 y) (hp : i32 p) : ∃ v, fDesk_wayAt x y p d = some v ∧ fModel_wayAt x y p m = some v := by
  unfold fDesk_wayAt fModel_wayAt
  rw [isArea_c hx, isArea_m hx, Option.bind_some, Option.bind_some, ix_w]
  by_cases q : 0 ≤ x ∧ x < 12
  · rw [if_neg (ix_y q), if_neg (ix_y q), isArea_c hy, isArea_m hy, Option.bind_some, Option.bind_some, ix_w]
    by_cases q' : 0 ≤ y ∧ y < 12
    · rw [if_neg (ix_y q'), if_neg (ix_y q'), tw hp.1 hp.2]
      by_cases r : 0 ≤ p
      · rw [if_pos r, if_pos r]
        obtain ⟨a, rfl⟩ : ∃ k : Nat, x = (k : Int) := ⟨x.toNat, by omega⟩
        obtain ⟨b, rfl⟩ : ∃ k : Nat, y = (k : Int) := ⟨y.toNat, by omega⟩
        have ha : a < 12 := by omega
        have hb : b < 12 := by omega
        have e3 : sm_lo 2 d 2 (12 * a + b) = sm_lo 1 d 3 (12 * a + b) := rfl
        rw [between_eq ha hb, Option.bind_some, e3]
        rcases wk_D h.2.1 ha hb with ⟨h1, h2⟩ | ⟨h1, h2, h3⟩
        · -- there is no way
          have eM : sl_it (fun (t : Int × Int) => fModel_wayAt_l29 (a : Int) (b : Int) p t.1 t.2 m) sl_fu ((a : Int), 0) = some ((a : Int), 0) := by
            refine it_end 4999 ?_
            dsimp only
            unfold fModel_wayAt_l29
            rw [way_eq ha hb, Option.bind_some, h2, tw (x := 100000) (by omega) (by omega), if_pos (show (100000 : Int) ≤ 100000 by omega), ite_self, ite_self]
          rw [eM, Option.bind_some, h1, tw (x := 1000000) (by omega) (by omega), if_neg (show ¬ (1000000 : Int) < 1000000 by omega), ite_self]
          dsimp only
          unfold fModel_wayAt_j67
          rw [way_eq ha hb, Option.bind_some, h2, tw (x := 100000) (by omega) (by omega), if_pos (show (100000 : Int) ≤ 100000 by omega)]
          exact ⟨_, rfl, rfl⟩
        · obtain ⟨A, K, eM, hK, eC⟩ := way_loops h.2.1 hb ha (by omega) hp 11 a 0 5000 ha (by omega) (nnr_le m b a ha) (by omega) (by omega) (by omega) (by omega)
          have eM' : sl_it (fun (t : Int × Int) => fModel_wayAt_l29 (a : Int) (b : Int) p t.1 t.2 m) sl_fu ((a : Int), 0) = some (A, K) := eM
          have eC' : sl_it (fun (t : Int × Int) => fDesk_wayAt_l55 (b : Int) p t.1 t.2 d) sl_fu ((a : Int), 0) = some (if K = p then A else -5) := eC
          have hK' : 0 ≤ K ∧ K ≤ 11 := by omega
          rw [eM', Option.bind_some, h1, tw (x := d2 m a b) (by omega) (by omega), if_pos (show d2 m a b < 1000000 by omega), eC', Option.bind_some]
          dsimp only
          unfold fModel_wayAt_j67
          rw [way_eq ha hb, Option.bind_some, tw (x := d2 m a b) (by omega) (by omega), if_neg (show ¬ (100000 : Int) ≤ d2 m a b by omega), tw (x := K) (by omega) (by omega), tw hp.1 hp.2]
          by_cases u : 12 ≤ p
          · rw [if_pos u, if_neg (show ¬ K = p by omega)]
            exact ⟨_, rfl, rfl⟩
          · rw [if_neg u]
            by_cases w : K = p
            · rw [if_pos w, if_pos w]
              exact ⟨_, rfl, rfl⟩
            · rw [if_neg w, if_neg w]
              exact ⟨_, rfl, rfl⟩
      · rw [if_neg r, if_neg r]
        exact ⟨_, rfl, rfl⟩
    · rw [if_pos (ix_n q'), if_pos (ix_n q')]
      exact ⟨_, rfl, rfl⟩
  · rw [if_pos (ix_n q), if_pos (ix_n q)]
    exact ⟨_, rfl, rfl⟩
