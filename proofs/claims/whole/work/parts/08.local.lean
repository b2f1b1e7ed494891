/-! ===== a region of the memory: cells o .. o+n-1 hold s, the rest mi ===== -/
def sm_gl (o n : Nat) (s mi : MI) : MI := fun a j => if o ≤ a ∧ a < o + n then s (a - o) j else mi a j
def sm_lo (d : Nat) (s : MI) : MI := fun c j => s (d + c) j
theorem gl_at {o n a D : Nat} {s mi : MI} (ha : a = o + D) (hD : D < n) : sm_gl o n s mi a = s D := by
  subst ha
  funext j
  unfold sm_gl
  rw [if_pos ⟨Nat.le_add_right _ _, Nat.add_lt_add_left hD _⟩, Nat.add_sub_cancel_left]
theorem gl_off {o n a : Nat} {s mi : MI} (h : a < o ∨ o + n ≤ a) : sm_gl o n s mi a = mi a := by
  funext j
  unfold sm_gl
  rw [if_neg (by omega)]
theorem gl_up {o n a D j : Nat} {s mi : MI} {z : Int} (ha : a = o + D) (hD : D < n) : sm_up (sm_gl o n s mi) a j z = sm_gl o n (sm_up s D j z) mi := by
  subst ha
  funext b k
  unfold sm_up sm_gl
  by_cases hb : o ≤ b ∧ b < o + n
  · rw [if_pos hb, if_pos hb]
    by_cases e : b = o + D
    · subst e
      simp
    · rw [if_neg (fun q => e q.1)]
      show s (b - o) k = if b - o = D ∧ k = j then z else s (b - o) k
      rw [if_neg (fun q => e (by omega))]
  · rw [if_neg hb, if_neg hb, if_neg (fun q => hb (by omega))]
theorem gl_in {o n a D k : Nat} {s mi : MI} (ha : a = o + D) (hD : D + k ≤ n) : sm_gl a k (sm_lo D s) (sm_gl o n s mi) = sm_gl o n s mi := by
  subst ha
  funext b j
  unfold sm_gl sm_lo
  by_cases hb : o + D ≤ b ∧ b < o + D + k
  · rw [if_pos hb, if_pos (by omega)]
    congr 1
    omega
  · rw [if_neg hb]
theorem gl_out {o n a D k : Nat} {s s' mi : MI} (ha : a = o + D) (hD : D + k ≤ n) : sm_gl a k s' (sm_gl o n s mi) = sm_gl o n (sm_gl D k s' s) mi := by
  subst ha
  funext b j
  unfold sm_gl
  by_cases hb : o + D ≤ b ∧ b < o + D + k
  · rw [if_pos hb, if_pos (by omega), if_pos (by omega)]
    congr 1
    omega
  · rw [if_neg hb]
    by_cases hb2 : o ≤ b ∧ b < o + n
    · rw [if_pos hb2, if_pos hb2, if_neg (by omega)]
    · rw [if_neg hb2, if_neg hb2]
/-- what stands in the two static arrays -/
def sl_cost : Nat → Int := fun j => if j = 0 then 20 else if j = 1 then 10 else 0
def sl_mark : Nat → Int := fun j => if j = 0 then 109 else if j = 1 then 64 else 33
def gK (E : ET) (mi : MI) : Prop := 3 ≤ E.sz ∧ (E.sh 1 = (20, 3) ∧ ∀ j, j < 3 → mi 1 j = sl_cost j) ∧ (E.sh 2 = (21, 3) ∧ ∀ j, j < 3 → mi 2 j = sl_mark j)
theorem gK.gl {E : ET} {mi : MI} {o n : Nat} {s : MI} (h : gK E mi) (ho : 3 ≤ o) : gK E (sm_gl o n s mi) := by
  refine ⟨h.1, ⟨h.2.1.1, fun j hj => ?_⟩, ⟨h.2.2.1, fun j hj => ?_⟩⟩
  · rw [gl_off (Or.inl (by omega))]
    exact h.2.1.2 j hj
  · rw [gl_off (Or.inl (by omega))]
    exact h.2.2.2 j hj
section SML
variable {X : XT} {pc : Nat} {lv : List (Option AV)} {st : List AV} {E : ET} {s mi : MI} {r : RT} {o n : Nat}
theorem sl_getI {a D idx kd j : Nat} (lk : sm_lkF X.own idx kd j) (h8 : kd < 8 ∧ j < sm_cN kd ∧ (sm_ty kd j).isReference = false) (hk : (E.sh a).1 = kd) (ha : a = o + D) (hD : D < n) (hN : o + n ≤ E.sz) (hd : decode X.cc pc = .ok (.getfield idx, 3))
    (kk : sM X (pc + 3) lv (.inl (s D j) :: st) E (sm_gl o n s mi) r) : sM X pc lv (.inr a :: st) E (sm_gl o n s mi) r := by
  refine sm_getI lk h8 hk (by omega) hd ?_
  rw [gl_at ha hD]
  exact kk
theorem sl_putI {a D idx kd j : Nat} {z : Int} (lk : sm_lkF X.own idx kd j) (h8 : kd < 8 ∧ j < sm_cN kd ∧ (sm_cT kd j).2.2.2 = false) (hty : sm_ty kd j = .int ∨ sm_ty kd j = .boolean ∧ (z = 0 ∨ z = 1)) (hk : (E.sh a).1 = kd) (ha : a = o + D) (hD : D < n) (hN : 3 ≤ o ∧ o + n ≤ E.sz) (hd : decode X.cc pc = .ok (.putfield idx, 3))
    (kk : sM X (pc + 3) lv st E (sm_gl o n (sm_up s D j z) mi) r) : sM X pc lv (.inl z :: .inr a :: st) E (sm_gl o n s mi) r := by
  refine sm_putI lk h8 hty hk (by omega) (by omega) hd ?_
  rw [gl_up ha hD]
  exact kk
theorem sl_iald {a D m : Nat} {i : Int} (hk : E.sh a = (20, m)) (ha : a = o + D) (hD : D < n) (hN : o + n ≤ E.sz) (hi : 0 ≤ sm_w i ∧ sm_w i < m) (hd : decode X.cc pc = .ok (.iaload, 1))
    (kk : sM X (pc + 1) lv (.inl (s D (sm_w i).toNat) :: st) E (sm_gl o n s mi) r) : sM X pc lv (.inl i :: .inr a :: st) E (sm_gl o n s mi) r := by
  refine sm_iaload hk (by omega) hi.1 hi.2 hd ?_
  rw [gl_at ha hD]
  exact kk
theorem sl_cald {a D m : Nat} {i : Int} (hk : E.sh a = (21, m)) (ha : a = o + D) (hD : D < n) (hN : o + n ≤ E.sz) (hi : 0 ≤ sm_w i ∧ sm_w i < m) (hd : decode X.cc pc = .ok (.caload, 1))
    (kk : sM X (pc + 1) lv (.inl (s D (sm_w i).toNat) :: st) E (sm_gl o n s mi) r) : sM X pc lv (.inl i :: .inr a :: st) E (sm_gl o n s mi) r := by
  refine sm_caload hk (by omega) hi.1 hi.2 hd ?_
  rw [gl_at ha hD]
  exact kk
theorem sl_iast {a D m : Nat} {i z : Int} (hk : E.sh a = (20, m)) (ha : a = o + D) (hD : D < n) (hN : 3 ≤ o ∧ o + n ≤ E.sz) (hi : 0 ≤ sm_w i ∧ sm_w i < m) (hd : decode X.cc pc = .ok (.iastore, 1))
    (kk : sM X (pc + 1) lv st E (sm_gl o n (sm_up s D (sm_w i).toNat z) mi) r) : sM X pc lv (.inl z :: .inl i :: .inr a :: st) E (sm_gl o n s mi) r := by
  refine sm_iastore hk (by omega) (by omega) hi.1 hi.2 hd ?_
  rw [gl_up ha hD]
  exact kk
theorem sl_cast {a D m : Nat} {i z : Int} (hk : E.sh a = (21, m)) (ha : a = o + D) (hD : D < n) (hN : 3 ≤ o ∧ o + n ≤ E.sz) (hi : 0 ≤ sm_w i ∧ sm_w i < m) (hz : 0 ≤ z ∧ z < 65536) (hd : decode X.cc pc = .ok (.castore, 1))
    (kk : sM X (pc + 1) lv st E (sm_gl o n (sm_up s D (sm_w i).toNat z) mi) r) : sM X pc lv (.inl z :: .inl i :: .inr a :: st) E (sm_gl o n s mi) r := by
  refine sm_castore hk (by omega) (by omega) hi.1 hi.2 hz.1 hz.2 hd ?_
  rw [gl_up ha hD]
  exact kk
theorem sl_costs {i : Int} (hg : gK E mi) (ho : 3 ≤ o) (hi : 0 ≤ sm_w i ∧ sm_w i < 3) (hd : decode X.cc pc = .ok (.iaload, 1))
    (kk : sM X (pc + 1) lv (.inl (sl_cost (sm_w i).toNat) :: st) E (sm_gl o n s mi) r) : sM X pc lv (.inl i :: .inr 1 :: st) E (sm_gl o n s mi) r := by
  have h3 := hg.1
  refine sm_iaload hg.2.1.1 (by omega) hi.1 hi.2 hd ?_
  rw [gl_off (Or.inl (by omega)), hg.2.1.2 _ (by omega)]
  exact kk
theorem sl_marks {i : Int} (hg : gK E mi) (ho : 3 ≤ o) (hi : 0 ≤ sm_w i ∧ sm_w i < 3) (hd : decode X.cc pc = .ok (.caload, 1))
    (kk : sM X (pc + 1) lv (.inl (sl_mark (sm_w i).toNat) :: st) E (sm_gl o n s mi) r) : sM X pc lv (.inl i :: .inr 2 :: st) E (sm_gl o n s mi) r := by
  have h3 := hg.1
  refine sm_caload hg.2.2.1 (by omega) hi.1 hi.2 hd ?_
  rw [gl_off (Or.inl (by omega)), hg.2.2.2 _ (by omega)]
  exact kk
/-- a second region, at o2, that is read alone: it holds s2 -/
def g2 (o n o2 n2 : Nat) (s2 mi : MI) : Prop := (o + n ≤ o2 ∨ o2 + n2 ≤ o) ∧ ∀ d, d < n2 → mi (o2 + d) = s2 d
theorem g2_at {o2 n2 a D : Nat} {s2 : MI} (h : g2 o n o2 n2 s2 mi) (ha : a = o2 + D) (hD : D < n2) : sm_gl o n s mi a = s2 D := by
  subst ha
  rw [gl_off (by have := h.1; omega), h.2 D hD]
theorem sl_getI2 {a D idx kd j o2 n2 : Nat} {s2 : MI} (h2 : g2 o n o2 n2 s2 mi) (lk : sm_lkF X.own idx kd j) (h8 : kd < 8 ∧ j < sm_cN kd ∧ (sm_ty kd j).isReference = false) (hk : (E.sh a).1 = kd) (ha : a = o2 + D) (hD : D < n2) (hN : o2 + n2 ≤ E.sz) (hd : decode X.cc pc = .ok (.getfield idx, 3))
    (kk : sM X (pc + 3) lv (.inl (s2 D j) :: st) E (sm_gl o n s mi) r) : sM X pc lv (.inr a :: st) E (sm_gl o n s mi) r := by
  refine sm_getI lk h8 hk (by omega) hd ?_
  rw [g2_at h2 ha hD]
  exact kk
def sl_cp (s s2 : MI) (D2 D sp dp c : Nat) : MI := fun d j => if d = D ∧ dp ≤ j ∧ j < dp + c then s2 D2 (sp + (j - dp)) else s d j
theorem sl_copy2 {idx a a2 D D2 m m2 o2 n2 : Nat} {s2 : MI} {sp dp c : Int} (h2 : g2 o n o2 n2 s2 mi) (hw : Cond.methodLink X.own idx arraycopyName ∈ sm_tb ∧ Cond.native arraycopyName ∈ sm_tb ∧ Cond.static arraycopyName ∈ sm_tb ∧ Cond.initialized "java/lang/System" ∈ sm_tb) (hr : 1 ≤ X.fr ∧ st.length + (nativeFrameWords "java/lang/System" "arraycopy" 5 + 11) ≤ X.lo)
    (hk2 : E.sh a2 = (20, m2)) (hk : E.sh a = (20, m)) (ha2 : a2 = o2 + D2) (hD2 : D2 < n2) (hN2 : 3 ≤ o2 ∧ o2 + n2 ≤ E.sz) (ha : a = o + D) (hD : D < n) (hN : 3 ≤ o ∧ o + n ≤ E.sz) (hi : 0 ≤ sm_w sp ∧ 0 ≤ sm_w dp ∧ 0 ≤ sm_w c ∧ sm_w sp + sm_w c ≤ m2 ∧ sm_w dp + sm_w c ≤ m)
    (hd : decode X.cc pc = .ok (.invokestatic idx, 3)) (kk : sM X (pc + 3) lv st E (sm_gl o n (sl_cp s s2 D2 D (sm_w sp).toNat (sm_w dp).toNat (sm_w c).toNat) mi) r) : sM X pc lv (.inl c :: .inl dp :: .inr a :: .inl sp :: .inr a2 :: st) E (sm_gl o n s mi) r := by
  refine sm_copy hw hr hk2 (by omega) (by omega) hk (by omega) (by omega) hi.1 hi.2.1 hi.2.2.1 hi.2.2.2.1 hi.2.2.2.2 hd ?_
  have e : sm_cp (sm_gl o n s mi) a2 a (sm_w sp).toNat (sm_w dp).toNat (sm_w c).toNat = sm_gl o n (sl_cp s s2 D2 D (sm_w sp).toNat (sm_w dp).toNat (sm_w c).toNat) mi := by
    funext b k
    unfold sm_cp
    rw [g2_at h2 ha2 hD2]
    subst ha
    unfold sm_gl sl_cp
    by_cases hb : o ≤ b ∧ b < o + n
    · rw [if_pos hb, if_pos hb]
      by_cases e : b = o + D
      · subst e
        simp
      · rw [if_neg (fun q => e q.1), if_neg (fun q => e (by omega))]
    · rw [if_neg hb, if_neg hb, if_neg (fun q => hb (by omega))]
  rw [e]
  exact kk
end SML
-- readers of what a function that may stop short answers
theorem sl_guard {α : Type} {c : Prop} [Decidable c] {a : Option α} {w : α} (h : (if c then a else none) = some w) : c ∧ a = some w := by
  by_cases q : c
  · rw [if_pos q] at h
    exact ⟨q, h⟩
  · rw [if_neg q] at h
    cases h
theorem sl_bind {α β : Type} {a : Option α} {k : α → Option β} {w : β} (h : Option.bind a k = some w) : ∃ p, a = some p ∧ k p = some w := by
  cases a with
  | none => cases h
  | some p => exact ⟨p, rfl, h⟩
/-- a loop: f tells whether to go round again -/
def sl_it {S Y : Type} (f : S → Option (S ⊕ Y)) : Nat → S → Option Y
  | 0, _ => none
  | n + 1, s => (f s).bind (fun q => match q with
    | .inl s' => sl_it f n s'
    | .inr y => some y)
theorem sl_itI {S Y : Type} {f : S → Option (S ⊕ Y)} {P : S → Prop} {K : Y → Prop} (hs : ∀ s q, f s = some q → (match q with
    | .inl s' => P s'
    | .inr y => K y) → P s) : ∀ (n : Nat) (s : S) (y : Y), sl_it f n s = some y → K y → P s := by
  intro n
  induction n with
  | zero => intro s y h; cases h
  | succ n ih =>
    intro s y h hK
    obtain ⟨q, hq, h2⟩ := sl_bind h
    refine hs s q hq ?_
    cases q with
    | inl s' => exact ih s' y h2 hK
    | inr y' =>
      have : y' = y := Option.some.inj h2
      subst this
      exact hK
/-- more rounds than any loop here goes -/
def sl_fu : Nat := 5000
