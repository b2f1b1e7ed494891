/-! ===== the regions: an object and all that is laid with it ===== -/
def gO (kd : Nat) (E : ET) (a : Nat) : Prop := 3 ≤ a ∧ a + 1 ≤ E.sz ∧ (E.sh a).1 = kd
def gA (kd m : Nat) (E : ET) (a : Nat) (q : Nat) (j : Nat) : Prop := E.sh a = (kd, m) ∧ E.mr q j = some a
/-- a map of roads: 3 cells -/
def gM (E : ET) (a : Nat) : Prop := 3 ≤ a ∧ a + 3 ≤ E.sz ∧ (E.sh a).1 = 4 ∧ gA 20 144 E (a + 1) a 1 ∧ gA 20 144 E (a + 2) a 2
/-- a text: 3 cells -/
def gT (E : ET) (a : Nat) : Prop := 3 ≤ a ∧ a + 3 ≤ E.sz ∧ (E.sh a).1 = 1 ∧ gA 21 60 E (a + 1) a 0 ∧ gA 20 30 E (a + 2) a 2
/-- a state: 61 cells -/
def gS (E : ET) (a : Nat) : Prop := 3 ≤ a ∧ a + 61 ≤ E.sz ∧ (E.sh a).1 = 5 ∧ (gM E (a + 1) ∧ E.mr a 0 = some (a + 1)) ∧ gA 20 20 E (a + 4) a 1 ∧
  (gA 22 6 E (a + 5) a 3 ∧ ∀ i, i < 6 → E.mr (a + 5) i = some (a + (10 + i)) ∧ gO 3 E (a + (10 + i))) ∧
  (gA 23 5 E (a + 6) a 5 ∧ ∀ i, i < 5 → E.mr (a + 6) i = some (a + (16 + i)) ∧ gO 2 E (a + (16 + i))) ∧
  (gA 24 40 E (a + 7) a 7 ∧ ∀ i, i < 40 → E.mr (a + 7) i = some (a + (21 + i)) ∧ gO 0 E (a + (21 + i))) ∧
  gA 20 3 E (a + 8) a 9 ∧ gA 20 40 E (a + 9) a 12
/-- the model: 10 cells -/
def gL (E : ET) (a : Nat) : Prop := 3 ≤ a ∧ a + 10 ≤ E.sz ∧ (E.sh a).1 = 7 ∧ gA 20 810 E (a + 1) a 0 ∧ gA 20 3240 E (a + 2) a 1 ∧ gA 20 810 E (a + 3) a 3 ∧ gA 20 810 E (a + 4) a 5 ∧ gA 20 60 E (a + 5) a 6 ∧ gA 20 144 E (a + 6) a 8 ∧ gA 20 144 E (a + 7) a 9 ∧ gA 20 40 E (a + 8) a 10 ∧ gA 20 60 E (a + 9) a 12
/-- the desk: 432 cells; its history's references are told by ro -/
def gD (E : ET) (a : Nat) : Prop := 3 ≤ a ∧ a + 432 ≤ E.sz ∧ (E.sh a).1 = 6 ∧ (gS E (a + 1) ∧ E.mr a 0 = some (a + 1)) ∧ (gS E (a + 62) ∧ E.mr a 1 = some (a + 62)) ∧ (gS E (a + 123) ∧ E.mr a 2 = some (a + 123)) ∧
  gA 25 4 E (a + 184) a 3 ∧ (gT E (a + 185) ∧ E.mr a 6 = some (a + 185)) ∧ ∀ k, k < 4 → gS E (a + (188 + 61 * k))
def eD (E : ET) (a : Nat) (ro : Nat → Nat) : ET := (E.1, E.2.1, E.2.2.1, fun b j => if b = a + 184 then some (a + (188 + 61 * ro j)) else E.2.2.2 b j)
theorem eD_mr {E : ET} {a b : Nat} {ro : Nat → Nat} (h : ¬ b = a + 184) (j : Nat) : (eD E a ro).mr b j = E.mr b j := by
  show (if b = a + 184 then _ else _) = _
  rw [if_neg h]
theorem eD_h {E : ET} {a : Nat} {ro : Nat → Nat} (j : Nat) : (eD E a ro).mr (a + 184) j = some (a + (188 + 61 * ro j)) := by
  show (if a + 184 = a + 184 then _ else _) = _
  rw [if_pos rfl]
theorem gA.e {kd m q j a b : Nat} {E : ET} {ro : Nat → Nat} (h : gA kd m E b q j) (hq : ¬ q = a + 184) : gA kd m (eD E a ro) b q j := ⟨h.1, by rw [eD_mr hq]; exact h.2⟩
theorem gM.e {E : ET} {a b : Nat} {ro : Nat → Nat} (h : gM E b) (hq : ¬ b = a + 184) : gM (eD E a ro) b := ⟨h.1, h.2.1, h.2.2.1, h.2.2.2.1.e hq, h.2.2.2.2.e hq⟩
theorem gT.e {E : ET} {a b : Nat} {ro : Nat → Nat} (h : gT E b) (hq : ¬ b = a + 184) : gT (eD E a ro) b := ⟨h.1, h.2.1, h.2.2.1, h.2.2.2.1.e hq, h.2.2.2.2.e hq⟩
theorem gS.e {E : ET} {a b : Nat} {ro : Nat → Nat} (h : gS E b) (hq : a + 184 < b ∨ b + 61 ≤ a + 184) : gS (eD E a ro) b := by
  obtain ⟨h1, h2, h3, ⟨h4, h5⟩, h6, ⟨h7, h8⟩, ⟨h9, h10⟩, ⟨h11, h12⟩, h13, h14⟩ := h
  refine ⟨h1, h2, h3, ⟨h4.e (by omega), by rw [eD_mr (by omega)]; exact h5⟩, h6.e (by omega), ⟨h7.e (by omega), fun i hi => ⟨by rw [eD_mr (by omega)]; exact (h8 i hi).1, (h8 i hi).2⟩⟩, ⟨h9.e (by omega), fun i hi => ⟨by rw [eD_mr (by omega)]; exact (h10 i hi).1, (h10 i hi).2⟩⟩, ⟨h11.e (by omega), fun i hi => ⟨by rw [eD_mr (by omega)]; exact (h12 i hi).1, (h12 i hi).2⟩⟩, h13.e (by omega), h14.e (by omega)⟩
theorem gD.e {E : ET} {a : Nat} (h : gD E a) (ro : Nat → Nat) : gD (eD E a ro) a := by
  obtain ⟨h1, h2, h3, ⟨h4, h5⟩, ⟨h6, h7⟩, ⟨h8, h9⟩, h10, ⟨h11, h12⟩, h13⟩ := h
  exact ⟨h1, h2, h3, ⟨h4.e (by omega), by rw [eD_mr (by omega)]; exact h5⟩, ⟨h6.e (by omega), by rw [eD_mr (by omega)]; exact h7⟩, ⟨h8.e (by omega), by rw [eD_mr (by omega)]; exact h9⟩, h10.e (by omega), ⟨h11.e (by omega), by rw [eD_mr (by omega)]; exact h12⟩, fun k hk => (h13 k hk).e (by omega)⟩
theorem gK.e {E : ET} {a : Nat} {mi : MI} (h : gK E mi) (ro : Nat → Nat) : gK (eD E a ro) mi := h
def sl_upN (ro : Nat → Nat) (i k : Nat) : Nat → Nat := fun j => if j = i then k else ro j
theorem eD_up {E : ET} {a i k : Nat} {ro : Nat → Nat} : ((eD E a ro).1, (eD E a ro).2.1, (eD E a ro).2.2.1, sm_upr (eD E a ro).mr (a + 184) i (some (a + (188 + 61 * k)))) = eD E a (sl_upN ro i k) := by
  unfold eD sm_upr sl_upN ET.mr
  dsimp only
  congr 3
  funext b j
  by_cases hb : b = a + 184
  · by_cases hj : j = i
    · simp [hb, hj]
    · simp [hb, hj]
  · simp [hb]
theorem sl_ix {i : Int} {m : Nat} (q : 0 ≤ sm_w i ∧ sm_w i < m) : sm_w i = ((sm_w i).toNat : Int) ∧ (sm_w i).toNat < m := by omega
theorem sl_nx {x a b : Int} (h : a ≤ x) (q : ¬ x = a) (hb : a + 1 = b) : b ≤ x := by omega
section SLX
variable {X : XT} {pc : Nat} {lv : List (Option AV)} {st : List AV} {E : ET} {s mi : MI} {r : RT} {o n : Nat}
theorem sl_ialdk {a D m k : Nat} {i : Int} (hk : E.sh a = (20, m)) (ha : a = o + D) (hD : D < n) (hN : o + n ≤ E.sz) (hi : sm_w i = (k : Int) ∧ k < m) (hd : decode X.cc pc = .ok (.iaload, 1))
    (kk : sM X (pc + 1) lv (.inl (s D k) :: st) E (sm_gl o n s mi) r) : sM X pc lv (.inl i :: .inr a :: st) E (sm_gl o n s mi) r := by
  refine sl_iald hk ha hD hN (by omega) hd ?_
  rw [hi.1]
  exact kk
theorem sl_caldk {a D m k : Nat} {i : Int} (hk : E.sh a = (21, m)) (ha : a = o + D) (hD : D < n) (hN : o + n ≤ E.sz) (hi : sm_w i = (k : Int) ∧ k < m) (hd : decode X.cc pc = .ok (.caload, 1))
    (kk : sM X (pc + 1) lv (.inl (s D k) :: st) E (sm_gl o n s mi) r) : sM X pc lv (.inl i :: .inr a :: st) E (sm_gl o n s mi) r := by
  refine sl_cald hk ha hD hN (by omega) hd ?_
  rw [hi.1]
  exact kk
theorem sl_iastk {a D m k : Nat} {i z : Int} (hk : E.sh a = (20, m)) (ha : a = o + D) (hD : D < n) (hN : 3 ≤ o ∧ o + n ≤ E.sz) (hi : sm_w i = (k : Int) ∧ k < m) (hd : decode X.cc pc = .ok (.iastore, 1))
    (kk : sM X (pc + 1) lv st E (sm_gl o n (sm_up s D k z) mi) r) : sM X pc lv (.inl z :: .inl i :: .inr a :: st) E (sm_gl o n s mi) r := by
  refine sl_iast hk ha hD hN (by omega) hd ?_
  rw [hi.1]
  exact kk
theorem sl_castk {a D m k : Nat} {i z : Int} (hk : E.sh a = (21, m)) (ha : a = o + D) (hD : D < n) (hN : 3 ≤ o ∧ o + n ≤ E.sz) (hi : sm_w i = (k : Int) ∧ k < m) (hz : 0 ≤ z ∧ z < 65536) (hd : decode X.cc pc = .ok (.castore, 1))
    (kk : sM X (pc + 1) lv st E (sm_gl o n (sm_up s D k z) mi) r) : sM X pc lv (.inl z :: .inl i :: .inr a :: st) E (sm_gl o n s mi) r := by
  refine sl_cast hk ha hD hN (by omega) hz hd ?_
  rw [hi.1]
  exact kk
theorem sl_aald {a kd m k b : Nat} {i : Int} {mj : MI} (h22 : kd = 22 ∨ kd = 23 ∨ kd = 24 ∨ kd = 25) (hk : E.sh a = (kd, m)) (ha : a < E.sz) (hi : sm_w i = (k : Int) ∧ k < m) (hb : E.mr a k = some b) (hd : decode X.cc pc = .ok (.aaload, 1))
    (kk : sM X (pc + 1) lv (.inr b :: st) E mj r) : sM X pc lv (.inl i :: .inr a :: st) E mj r := by
  refine sm_aaload h22 hk ha (by omega) (by omega) ?_ hd kk
  rw [hi.1]
  exact hb
theorem sl_aast {a k q : Nat} {i : Int} {mj : MI} {ro : Nat → Nat} (g : gD E a) (hi : sm_w i = (k : Int) ∧ k < 4) (hq : q < 4) (hd : decode X.cc pc = .ok (.aastore, 1))
    (kk : sM X (pc + 1) lv st (eD E a (sl_upN ro k q)) mj r) : sM X pc lv (.inr (a + (188 + 61 * q)) :: .inl i :: .inr (a + 184) :: st) (eD E a ro) mj r := by
  have g' := g.e ro
  refine sm_aastore (Or.inr (Or.inr (Or.inr rfl))) g'.2.2.2.2.2.2.1.1 (by have := g.1; omega) (by have := g'.2.1; have := g'.1; omega) (by omega) (by omega) (g'.2.2.2.2.2.2.2.2 q hq).2.2.1 (by have := (g'.2.2.2.2.2.2.2.2 q hq).2.1; omega) hd ?_
  rw [hi.1, eD_up]
  exact kk
theorem sl_cmp {x : Int} {X' : Int} (h : sm_w x = X') : sm_w x = X' := h
end SLX
theorem g2_sub {o n o2 n2 D k D2 k2 : Nat} {s s2 mi : MI} (h : g2 o n o2 n2 s2 mi) (h1 : D + k ≤ n) (h2 : D2 + k2 ≤ n2) : g2 (o + D) k (o2 + D2) k2 (sm_lo D2 s2) (sm_gl o n s mi) := by
  refine ⟨by have := h.1; omega, fun d hd => ?_⟩
  rw [g2_at h (D := D2 + d) (by omega) (by omega)]
  rfl
theorem g2_in {o n D k D2 k2 : Nat} {s mi : MI} (h0 : D + k ≤ D2 ∨ D2 + k2 ≤ D) (h2 : D2 + k2 ≤ n) : g2 (o + D) k (o + D2) k2 (sm_lo D2 s) (sm_gl o n s mi) := by
  refine ⟨by omega, fun d hd => ?_⟩
  rw [gl_at (D := D2 + d) (by omega) (by omega)]
  rfl
-- what a method answers, by its kind
abbrev cvI (E : ET) (o n : Nat) (s mi : MI) (w : Int) : RT := (some (.inl w), E, sm_gl o n s mi)
abbrev cvP (E : ET) (o n : Nat) (mi : MI) (w : Int × MI) : RT := (some (.inl w.1), E, sm_gl o n w.2 mi)
abbrev cvV (E : ET) (o n : Nat) (mi : MI) (w : MI) : RT := (none, E, sm_gl o n w mi)
abbrev cvR (E : ET) (o n : Nat) (mi : MI) (w : Int × MI × (Nat → Nat)) : RT := (some (.inl w.1), eD E o w.2.2, sm_gl o n w.2.1 mi)
abbrev cvU (E : ET) (o n : Nat) (mi : MI) (w : MI × (Nat → Nat)) : RT := (none, eD E o w.2, sm_gl o n w.1 mi)
