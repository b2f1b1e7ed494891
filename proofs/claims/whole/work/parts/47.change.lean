/-! ===== one patrol and its call change: what holds afterwards ===== -/
def tI (q : Nat → Int) (g : Nat) : Int := if q 3 = 3 ∧ q 13 = (g : Int) then 1 else 0
/-- all of RS but the patrol p0's own bounds -/
def RSx (p0 : Nat) (s : MI) (N : Nat → Int) : Prop := sR s N ∧ mR s N ∧ (∀ k : Nat, (k : Int) < N 6 → s 4 k = vM N k 0) ∧ (∀ p : Nat, (p : Int) < N 7 → pR (s (10 + p)) (vP N p)) ∧
  (∀ g : Nat, (g : Int) < N 8 → s (16 + g) 0 = vG N g 0 ∧ s (16 + g) 1 = vG N g 1 ∧ s (16 + g) 2 = vG N g 2 ∧ s (16 + g) 3 = uw N g ∧ s (16 + g) 4 = vG N g 3) ∧ (∀ c : Nat, (c : Int) < N 9 → cR (s (21 + c)) (vC N c)) ∧
  nS N ∧ rOK N ∧ nM N ∧ (∀ p : Nat, (p : Int) < N 7 → ¬ p = p0 → pI (N 9) (N 8) (vP N p)) ∧ nG N ∧ nC N ∧ nL N ∧ nT N ∧ nZ N
theorem RS_x {s : MI} {N : Nat → Int} (p0 : Nat) (h : RS s N) : RSx p0 s N := by
  obtain ⟨a, b, c, d, e, f, g, r, m, p, gg, cc, l, t⟩ := h
  exact ⟨a, b, c, d, e, f, g, r, m, fun p' h _ => p p' h, gg, cc, l, t⟩
theorem RS_ofx {s : MI} {N : Nat → Int} {p0 : Nat} (h : RSx p0 s N) (hp : pI (N 9) (N 8) (vP N p0)) : RS s N := by
  obtain ⟨a, b, c, d, e, f, g, r, m, p, gg, cc, l, t⟩ := h
  refine ⟨a, b, c, d, e, f, g, r, m, fun p' h => ?_, gg, cc, l, t⟩
  by_cases q : p' = p0
  · rw [q]; exact hp
  · exact p p' h q
theorem RS_chg {s s' : MI} {N N' : Nat → Int} {p0 c0 : Nat} {q' t' : Nat → Int} {pd lt : Int} (h : RSx p0 s N) (hp0 : (p0 : Int) < N 7) (hc0 : (c0 : Int) < N 9)
    (hl : (vP N p0 5 = c0 ∧ vC N c0 6 = p0) ∨ (vP N p0 5 = -5 ∧ vC N c0 6 = -5))
    (n : ∀ i, i < 10 → N' i = N i) (n12 : N' 12 = N 12) (nr : ∀ i, 16 ≤ i → i < 106 → N' i = N i)
    (hP : ∀ p, p < 6 → vP N' p = if p = p0 then q' else vP N p) (hC : ∀ c, c < 40 → vC N' c = if c = c0 then t' else vC N c)
    (hM : ∀ k, k < 20 → vM N' k 0 = vM N k 0 ∧ vM N' k 2 = vM N k 2 ∧ vM N' k 1 = vM N k 1 + (if vC N c0 0 = (k : Int) then pd - 15 * lt else 0) ∧ vM N' k 3 = vM N k 3 + if vC N c0 0 = (k : Int) then lt else 0)
    (h10 : N' 10 = N 10 + pd) (h11 : N' 11 = N 11 + 15 * lt) (epd : paid (tierC N c0) t' = paid (tierC N c0) (vC N c0) + pd) (elt : late t' = late (vC N c0) + lt)
    (t0 : t' 0 = vC N c0 0) (t10 : t' 10 = vC N c0 10)
    (hG : ∀ g : Nat, (g : Int) < N 8 → vG N' g 0 = vG N g 0 ∧ vG N' g 1 = vG N g 1 ∧ 0 ≤ vG N' g 2 ∧ vG N' g 2 + (uw N g + tI q' g - tI (vP N p0) g) ≤ vG N g 1)
    (hc : cI (N 6) (N 7) (N 0) t') (hk : (q' 5 = c0 ∧ t' 6 = p0 ∧ lkP q' t') ∨ (q' 5 = -5 ∧ t' 6 = -5))
    (sd : ∀ d, d < 16 ∨ 21 ≤ d → ¬ d = 10 + p0 → ¬ d = 21 + c0 → s' d = s d) (sp : pR (s' (10 + p0)) q') (sc : cR (s' (21 + c0)) t')
    (sg : ∀ g : Nat, (g : Int) < N 8 → s' (16 + g) 0 = s (16 + g) 0 ∧ s' (16 + g) 1 = s (16 + g) 1 ∧ s' (16 + g) 2 = vG N' g 2 ∧ s' (16 + g) 3 = s (16 + g) 3 + tI q' g - tI (vP N p0) g ∧ s' (16 + g) 4 = vG N' g 3)
    (hGz : ∀ g : Nat, g < 5 → N 8 ≤ (g : Int) → vG N' g = vG N g) : RSx p0 s' N' := by
  obtain ⟨a1, a2, a3, a4, a5, a6, b1, b2, b3, b4, b5, b6, b7, b8, b9⟩ := h
  have S := b1
  obtain ⟨S0, S1, S2, S6, S7, S8, S9⟩ := b1
  have e0 := n 0 (by omega); have e1 := n 1 (by omega); have e2 := n 2 (by omega); have e3 := n 3 (by omega); have e4 := n 4 (by omega); have e5 := n 5 (by omega)
  have e6 := n 6 (by omega); have e7 := n 7 (by omega); have e8 := n 8 (by omega); have e9 := n 9 (by omega)
  have hp6 : p0 < 6 := by omega
  have hc40 : c0 < 40 := by omega
  have P0 : vP N' p0 = q' := by rw [hP p0 hp6, if_pos rfl]
  have C0 : vC N' c0 = t' := by rw [hC c0 hc40, if_pos rfl]
  have Pn : ∀ p : Nat, (p : Int) < N 7 → ¬ p = p0 → vP N' p = vP N p := fun p hp q => by rw [hP p (by omega), if_neg q]
  have Cn : ∀ c : Nat, (c : Int) < N 9 → ¬ c = c0 → vC N' c = vC N c := fun c hc' q => by rw [hC c (by omega), if_neg q]
  have hrd : rd N' = rd N := rd_nu e5 b2.2.1 nr
  have hu : ∀ g : Nat, uw N' g = uw N g + tI q' g - tI (vP N p0) g := fun g => by
    unfold uw
    rw [e7, sumN_up (a := p0) (N 7).toNat (f := fun p => if vP N' p 3 = 3 ∧ vP N' p 13 = (g : Int) then 1 else 0) (g := fun p => if vP N p 3 = 3 ∧ vP N p 13 = (g : Int) then 1 else 0) (by omega) (fun k hk' q => by rw [Pn k (by omega) q])]
    rw [P0]
    unfold tI
    omega
  have c0m := b6 c0 hc0
  have ht0 : ((t' 0).toNat : Int) < N 6 ∧ 0 ≤ t' 0 := by rw [t0]; have := c0m.1; omega
  have hmt : ∀ c : Nat, (c : Int) < N 9 → tierC N' c = tierC N c := fun c hc' => by
    have x0 : vC N' c 0 = vC N c 0 := by
      by_cases q : c = c0
      · rw [q, C0, t0]
      · rw [Cn c hc' q]
    have xm := b6 c hc'
    have := (hM (vC N c 0).toNat (by have := xm.1; omega)).1
    unfold tierC
    rw [x0]
    unfold vM at this
    simpa using this
  have hpd : ∀ c : Nat, (c : Int) < N 9 → ¬ c = c0 → paid (tierC N' c) (vC N' c) = paid (tierC N c) (vC N c) := fun c hc' q => by rw [hmt c hc', Cn c hc' q]
  have hpd0 : paid (tierC N' c0) (vC N' c0) = paid (tierC N c0) (vC N c0) + pd := by rw [hmt c0 hc0, C0]; exact epd
  have hlt0 : late (vC N' c0) = late (vC N c0) + lt := by rw [C0]; exact elt
  refine ⟨?_, ?_, ?_, ?_, ?_, ?_, ?_, ?_, ?_, ?_, ?_, ?_, ?_, ?_, ?_⟩
  · obtain ⟨x1, x2, x3, x4, x5, x6, x7, x8⟩ := a1
    unfold sR
    rw [sd 0 (by omega) (by omega) (by omega), sd 8 (by omega) (by omega) (by omega), sd 1 (by omega) (by omega) (by omega), e0, e1, e2, e3, e4, e5, e6, e7, e8, e9]
    exact ⟨x1, x2, x3, x4, x5, x6, x7, x8⟩
  · unfold mR
    rw [sd 2 (by omega) (by omega) (by omega), sd 3 (by omega) (by omega) (by omega), hrd]
    exact a2
  · intro k hk'
    rw [e6] at hk'
    rw [sd 4 (by omega) (by omega) (by omega), (hM k (by omega)).1]
    exact a3 k hk'
  · intro p hp
    rw [e7] at hp
    by_cases q : p = p0
    · rw [q, P0]; exact sp
    · rw [Pn p hp q, sd (10 + p) (by omega) (by omega) (by omega)]
      exact a4 p hp
  · intro g hg
    rw [e8] at hg
    obtain ⟨y0, y1, y2, y3, y4⟩ := sg g hg
    obtain ⟨z0, z1, z2, z3, z4⟩ := a5 g hg
    obtain ⟨w0, w1, w2, w3⟩ := hG g hg
    exact ⟨by rw [y0, w0, z0], by rw [y1, w1, z1], y2, by rw [y3, z3, hu g], y4⟩
  · intro c hc'
    rw [e9] at hc'
    by_cases q : c = c0
    · rw [q, C0]; exact sc
    · rw [Cn c hc' q, sd (21 + c) (by omega) (by omega) (by omega)]
      exact a6 c hc'
  · unfold nS
    rw [e0, e1, e2, e3, e4, e6, e7, e8, e9]
    exact S
  · exact rOK_nu e5 nr b2
  · intro k hk'
    rw [e6] at hk'
    rw [(hM k (by omega)).1]
    exact b3 k hk'
  · intro p hp q
    rw [e7] at hp
    rw [Pn p hp q, e9, e8]
    exact b4 p hp q
  · intro g hg
    rw [e8] at hg
    obtain ⟨w0, w1, w2, w3⟩ := hG g hg
    obtain ⟨z0, z1, z2, z3⟩ := b5 g hg
    rw [hu g, w0, w1]
    exact ⟨z0, z1, w2, w3⟩
  · intro c hc'
    rw [e9] at hc'
    rw [e6, e7, e0]
    by_cases q : c = c0
    · rw [q, C0]; exact hc
    · rw [Cn c hc' q]; exact b6 c hc'
  · obtain ⟨l1, l2⟩ := b7
    constructor
    · intro p hp h5
      rw [e7] at hp
      by_cases q : p = p0
      · subst q
        rw [P0] at h5 ⊢
        rcases hk with ⟨k1, k2, k3⟩ | ⟨k1, k2⟩
        · rw [k1, show ((c0 : Int)).toNat = c0 by omega, C0]
          exact ⟨k2, k3⟩
        · omega
      · rw [Pn p hp q] at h5 ⊢
        obtain ⟨y1, y2⟩ := l1 p hp h5
        have hx := b4 p hp q
        have hb : ((vP N p 5).toNat : Int) < N 9 := by
          obtain ⟨_, _, _, _, i5, _⟩ := hx
          rcases i5 with ⟨_, i5, _⟩ | ⟨_, i5, _⟩ <;> omega
        have hne : ¬ (vP N p 5).toNat = c0 := by
          intro z
          rw [z] at y1
          rcases hl with ⟨k1, k2⟩ | ⟨k1, k2⟩ <;> omega
        rw [Cn _ hb hne]
        exact ⟨y1, y2⟩
    · intro c hc' h6
      rw [e9] at hc'
      by_cases q : c = c0
      · subst q
        rw [C0] at h6 ⊢
        rcases hk with ⟨k1, k2, k3⟩ | ⟨k1, k2⟩
        · rw [k2, show ((p0 : Int)).toNat = p0 by omega, P0]
          exact k1
        · omega
      · rw [Cn c hc' q] at h6 ⊢
        have y := l2 c hc' h6
        have hb : ((vC N c 6).toNat : Int) < N 7 := by
          obtain ⟨_, _, _, _, _, _, i5⟩ := b6 c hc'
          rcases i5 with i | i | i | i | i | i <;> omega
        have hne : ¬ (vC N c 6).toNat = p0 := by
          intro z
          rw [z] at y
          rcases hl with ⟨k1, k2⟩ | ⟨k1, k2⟩ <;> omega
        rw [Pn _ hb hne]
        exact y
  · obtain ⟨u1, u2, u3, u4⟩ := b8
    have hn : c0 < (N 9).toNat := by omega
    refine ⟨?_, ?_, ?_, ?_⟩
    · rw [h10, u1, e9, sumN_up (a := c0) (N 9).toNat (f := fun c => paid (tierC N' c) (vC N' c)) (g := fun c => paid (tierC N c) (vC N c)) hn (fun k hk' q => hpd k (by omega) q)]
      omega
    · rw [h11, u2, e9, sumN_up (a := c0) (N 9).toNat (f := fun c => 15 * late (vC N' c)) (g := fun c => 15 * late (vC N c)) hn (fun k hk' q => by rw [Cn k (by omega) q])]
      omega
    · rw [n12, u3, e9, sumN_up (a := c0) (N 9).toNat (f := fun c => vC N' c 10) (g := fun c => vC N c 10) hn (fun k hk' q => by rw [Cn k (by omega) q])]
      rw [C0, t10]
      omega
    · intro k hk'
      rw [e6] at hk'
      obtain ⟨m0, m2, m1, m3⟩ := hM k (by omega)
      obtain ⟨v1, v2, v3⟩ := u4 k hk'
      refine ⟨?_, ?_, ?_⟩
      · rw [m1, v1, e9, sumN_up (a := c0) (N 9).toNat (f := fun c => if vC N' c 0 = (k : Int) then paid (tierC N' c) (vC N' c) - 15 * late (vC N' c) else 0) (g := fun c => if vC N c 0 = (k : Int) then paid (tierC N c) (vC N c) - 15 * late (vC N c) else 0) hn (fun j hj q => by rw [hpd j (by omega) q, Cn j (by omega) q])]
        rw [hpd0, hlt0, C0, t0]
        by_cases z : vC N c0 0 = (k : Int)
        · rw [if_pos z, if_pos z, if_pos z]; omega
        · rw [if_neg z, if_neg z, if_neg z]; omega
      · rw [m2, v2, e9, sumN_up (a := c0) (N 9).toNat (f := fun c => if vC N' c 0 = (k : Int) then vC N' c 10 else 0) (g := fun c => if vC N c 0 = (k : Int) then vC N c 10 else 0) hn (fun j hj q => by rw [Cn j (by omega) q])]
        rw [C0, t0, t10]
        omega
      · rw [m3, v3, e9, sumN_up (a := c0) (N 9).toNat (f := fun c => if vC N' c 0 = (k : Int) then late (vC N' c) else 0) (g := fun c => if vC N c 0 = (k : Int) then late (vC N c) else 0) hn (fun j hj q => by rw [Cn j (by omega) q])]
        rw [hlt0, C0, t0]
        by_cases z : vC N c0 0 = (k : Int)
        · rw [if_pos z, if_pos z, if_pos z]; omega
        · rw [if_neg z, if_neg z, if_neg z]; omega
  · refine ⟨fun k hk h6 => ?_, fun p hp h7 => ?_, fun g hg h8 => ?_⟩
    · rw [e6] at h6
      obtain ⟨m0, m2, m1, m3⟩ := hM k hk
      obtain ⟨z1, z2, z3⟩ := b9.1 k hk h6
      have := c0m.1
      rw [if_neg (by omega)] at m1 m3
      omega
    · rw [e7] at h7
      rw [hP p hp, if_neg (by omega)]
      exact b9.2.1 p hp h7
    · rw [e8] at h8
      rw [hGz g hg h8]
      exact b9.2.2 g hg h8
