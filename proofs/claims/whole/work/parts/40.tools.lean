/-! ===== tools for the functions: loops, small numbers, writes ===== -/
/-- one loop, with an invariant and a number that falls -/
theorem it_inv {S Y : Type} {f : S → Option (S ⊕ Y)} (I : S → Prop) (Q : Y → Prop) (mu : S → Nat) (step : ∀ s, I s → (∃ s', f s = some (.inl s') ∧ I s' ∧ mu s' < mu s) ∨ ∃ y, f s = some (.inr y) ∧ Q y) :
    ∀ (n : Nat) (s : S), I s → mu s < n → ∃ y, sl_it f n s = some y ∧ Q y := by
  intro n
  induction n with
  | zero => intro s _ h; exact absurd h (Nat.not_lt_zero _)
  | succ n ih =>
    intro s hI hm
    rcases step s hI with ⟨s', h1, h2, h3⟩ | ⟨y, h1, h2⟩
    · obtain ⟨y, hy, hq⟩ := ih s' h2 (by omega)
      exact ⟨y, by show (f s).bind _ = _; rw [h1]; exact hy, hq⟩
    · exact ⟨y, by show (f s).bind _ = _; rw [h1]; rfl, h2⟩
/-- two loops side by side -/
theorem it_two {S T Y Z : Type} {f : S → Option (S ⊕ Y)} {g : T → Option (T ⊕ Z)} (R : S → T → Prop) (Q : Y → Z → Prop) (mu : S → Nat)
    (step : ∀ s t, R s t → (∃ s' t', f s = some (.inl s') ∧ g t = some (.inl t') ∧ R s' t' ∧ mu s' < mu s) ∨ ∃ y z, f s = some (.inr y) ∧ g t = some (.inr z) ∧ Q y z) :
    ∀ (n : Nat) (s : S) (t : T), R s t → mu s < n → ∃ y z, sl_it f n s = some y ∧ sl_it g n t = some z ∧ Q y z := by
  intro n
  induction n with
  | zero => intro s t _ h; exact absurd h (Nat.not_lt_zero _)
  | succ n ih =>
    intro s t hI hm
    rcases step s t hI with ⟨s', t', h1, h2, h3, h4⟩ | ⟨y, z, h1, h2, h3⟩
    · obtain ⟨y, z, hy, hz, hq⟩ := ih s' t' h3 (by omega)
      exact ⟨y, z, by show (f s).bind _ = _; rw [h1]; exact hy, by show (g t).bind _ = _; rw [h2]; exact hz, hq⟩
    · exact ⟨y, z, by show (f s).bind _ = _; rw [h1]; rfl, by show (g t).bind _ = _; rw [h2]; rfl, h3⟩
theorem tw {x : Int} (h1 : -2147483648 ≤ x) (h2 : x ≤ 2147483647) : sm_w x = x := sm_w_eq h1 (by omega)
theorem tg {e : Int} {n : Int} {α : Type} {a : Option α} (h0 : 0 ≤ e) (h1 : e < n) (h2 : n ≤ 1000000) : (if 0 ≤ sm_w e ∧ sm_w e < n then a else none) = a := by
  rw [tw (by omega) (by omega), if_pos ⟨h0, h1⟩]
theorem tn {e : Int} (h0 : 0 ≤ e) (h1 : e ≤ 2147483647) : (sm_w e).toNat = e.toNat := by rw [tw (by omega) h1]
theorem up_s (m : MI) (d j : Nat) (z : Int) : sm_up m d j z d j = z := by simp [sm_up]
theorem up_j {m : MI} {d d' j j' : Nat} {z : Int} (h : ¬ j' = j) : sm_up m d j z d' j' = m d' j' := by
  unfold sm_up
  rw [if_neg (fun q => h q.2)]
theorem up_d {m : MI} {d d' j j' : Nat} {z : Int} (h : ¬ d' = d) : sm_up m d j z d' j' = m d' j' := by
  unfold sm_up
  rw [if_neg (fun q => h q.1)]
theorem up_D {m : MI} {d d' j : Nat} {z : Int} (h : ¬ d' = d) : sm_up m d j z d' = m d' := sm_up_ne h
theorem gl_i {o n a j : Nat} {s m : MI} (h : o ≤ a) (h2 : a < o + n) : sm_gl o n s m a j = s (a - o) j := by
  unfold sm_gl
  rw [if_pos ⟨h, h2⟩]
theorem gl_o {o n a j : Nat} {s m : MI} (h : a < o ∨ o + n ≤ a) : sm_gl o n s m a j = m a j := by
  unfold sm_gl
  rw [if_neg (by omega)]
theorem lo_at (D d j : Nat) (s : MI) : sm_lo D s d j = s (D + d) j := rfl
theorem div4 {x : Int} (h0 : 0 ≤ x) (h1 : x ≤ 1000000) (d : Int) (hd0 : 0 < d) (hd1 : d ≤ 1000000) : sm_div x d = x / d := by
  unfold sm_div
  rw [Int32.toInt_div_of_ne_right]
  · show (sm_w x).tdiv (sm_w d) = _
    rw [tw (by omega) (by omega), tw (by omega) (by omega), Int.tdiv_eq_ediv_of_nonneg h0]
  · intro q
    have e : sm_w d = sm_w (-1) := congrArg Int32.toInt q
    rw [tw (by omega) (by omega), tw (by omega) (by omega)] at e
    omega
