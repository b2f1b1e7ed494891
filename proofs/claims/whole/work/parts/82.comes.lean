/-! ===== a call comes ===== -/
theorem cI_np {nm np mi nm' np' : Int} {q : Nat → Int} (h : cI nm np mi q) (hm : nm ≤ nm') (hp : np ≤ np') : cI nm' np' mi q := by
  obtain ⟨a, b, c, d, e, f, g⟩ := h
  refine ⟨by omega, b, c, d, e, f, ?_⟩
  unfold cS at g ⊢
  rcases g with g | g | g | g | g | g
  · exact Or.inl g
  · exact Or.inr (Or.inl ⟨g.1, by omega, g.2.2⟩)
  · exact Or.inr (Or.inr (Or.inl ⟨g.1, by omega, by omega, g.2.2.2⟩))
  · exact Or.inr (Or.inr (Or.inr (Or.inl ⟨g.1, by omega, by omega, g.2.2.2⟩)))
  · exact Or.inr (Or.inr (Or.inr (Or.inr (Or.inl ⟨g.1, g.2.1, by omega, g.2.2.2⟩))))
  · exact Or.inr (Or.inr (Or.inr (Or.inr (Or.inr g))))
theorem pI_nc {nc ng nc' ng' : Int} {q : Nat → Int} (h : pI nc ng q) (hc : nc ≤ nc') (hg : ng ≤ ng') : pI nc' ng' q := by
  unfold pI at h ⊢
  omega
theorem k_cb {nc ng : Int} {r q : Nat → Int} (hR : pR r q) (hI : pI nc ng q) : pR (nu r 11 (r 11 + 1)) (nu q 9 (q 9 + 1)) ∧ pI nc ng (nu q 9 (q 9 + 1)) ∧ nu q 9 (q 9 + 1) 3 = q 3 ∧ nu q 9 (q 9 + 1) 13 = q 13 ∧ nu q 9 (q 9 + 1) 5 = q 5 ∧ nu q 9 (q 9 + 1) 0 = q 0 ∧ nu q 9 (q 9 + 1) 2 = q 2 := by
  unfold pR at hR ⊢
  unfold pI at hI ⊢
  simp only [nu]
  simp
  omega
theorem sumN_s {f g : Nat → Int} {c : Nat} {x : Int} (h : ∀ i, i < c → f i = g i) (hx : f c = x) : sumN (c + 1) f = sumN c g + x := by
  show sumN c f + f c = _
  rw [sumN_eq c h, hx]
theorem come_fin {s s' : MI} {N N' : Nat → Int} {c f k : Nat} {cb : Int} {t u : Nat → Int} (h : RS s N) (hc : (c : Int) = N 9) (hc4 : c < 40) (hcb : cb = 0 ∨ cb = 1) (hf : cb = 1 → (f : Int) < N 7) (hk : (k : Int) < N 6)
    (n : ∀ i, i < 12 → ¬ i = 9 → N' i = N i) (n9 : N' 9 = N 9 + 1) (n12 : N' 12 = N 12 + cb) (nr : ∀ i, 16 ≤ i → i < 106 → N' i = N i)
    (hP : ∀ p, p < 6 → vP N' p = if cb = 1 ∧ p = f then nu (vP N p) 9 (vP N p 9 + 1) else vP N p) (hC : ∀ c', c' < 40 → vC N' c' = if c' = c then t else vC N c')
    (hM : ∀ j, j < 20 → vM N' j = if cb = 1 ∧ j = k then nu (vM N j) 2 (vM N j 2 + 1) else vM N j) (hG : ∀ g, g < 5 → vG N' g = vG N g)
    (t0 : t 0 = (k : Int)) (tI : cI (N 6) (N 7) (N 0) t) (t5 : t 5 = 0) (t6 : t 6 = -5) (t8 : t 8 = -5) (t10 : t 10 = cb)
    (sP : ∀ p, p < 6 → s' (10 + p) = if cb = 1 ∧ p = f then nu (s (10 + p)) 11 (s (10 + p) 11 + 1) else s (10 + p)) (sC : ∀ c', c' < 40 → s' (21 + c') = if c' = c then u else s (21 + c')) (sR' : cR u t)
    (s0 : ∀ j, ¬ j = 8 → s' 0 j = s 0 j) (s08 : s' 0 8 = N 9 + 1) (sd : ∀ a, (1 ≤ a ∧ a < 10) ∨ (16 ≤ a ∧ a < 21) → s' a = s a) : RS s' N' := by
  obtain ⟨a1, a2, a3, a4, a5, a6, b1, b2, b3, b4, b5, b6, b7, b8, b9⟩ := h
  have S := b1
  obtain ⟨S0, S1, S2, S6, S7, S8, S9⟩ := S
  have e6 := n 6 (by omega) (by omega); have e7 := n 7 (by omega) (by omega); have e8 := n 8 (by omega) (by omega)
  have hr : rd N' = rd N := rd_nu (n 5 (by omega) (by omega)) b2.2.1 nr
  have hro : rOK N' := rOK_nu (n 5 (by omega) (by omega)) nr b2
  have P3 : ∀ p : Nat, (p : Int) < N 7 → vP N' p 3 = vP N p 3 ∧ vP N' p 13 = vP N p 13 ∧ vP N' p 5 = vP N p 5 ∧ vP N' p 0 = vP N p 0 ∧ vP N' p 2 = vP N p 2 := fun p hp => by
    rw [hP p (by omega)]
    by_cases z : cb = 1 ∧ p = f
    · rw [if_pos z]
      exact (k_cb (a4 p hp) (b4 p hp)).2.2
    · rw [if_neg z]
      exact ⟨rfl, rfl, rfl, rfl, rfl⟩
  have Cn : ∀ c' : Nat, (c' : Int) < N 9 → vC N' c' = vC N c' := fun c' hc' => by
    rw [hC c' (by omega), if_neg (by omega)]
  have C0 : vC N' c = t := by rw [hC c hc4, if_pos rfl]
  have M0 : ∀ j, j < 20 → vM N' j 0 = vM N j 0 ∧ vM N' j 1 = vM N j 1 ∧ vM N' j 3 = vM N j 3 ∧ vM N' j 2 = vM N j 2 + if cb = 1 ∧ j = k then 1 else 0 := fun j hj => by
    rw [hM j hj]
    by_cases z : cb = 1 ∧ j = k
    · rw [if_pos z, if_pos z]
      simp only [nu]
      simp
    · rw [if_neg z, if_neg z]
      exact ⟨rfl, rfl, rfl, by omega⟩
  have hu : ∀ g, uw N' g = uw N g := uw_same e7 S7.2 (fun p hp => by
    by_cases z : (p : Int) < N 7
    · exact ⟨(P3 p z).1, (P3 p z).2.1⟩
    · rw [hP p hp, if_neg (fun e => by have := hf e.1; omega)]
      exact ⟨rfl, rfl⟩)
  have htc : ∀ c' : Nat, (c' : Int) < N 9 → tierC N' c' = tierC N c' := fun c' hc' => by
    have x := (b6 c' hc').1
    have y := (M0 (vC N c' 0).toNat (by omega)).1
    unfold tierC
    rw [Cn c' hc']
    unfold vM at y
    simpa using y
  have nc : (N' 9).toNat = c + 1 := by omega
  have nc0 : (N 9).toNat = c := by omega
  refine ⟨?_, ?_, ?_, ?_, ?_, ?_, ?_, hro, ?_, ?_, ?_, ?_, ?_, ?_, ?_⟩
  · obtain ⟨x1, x2, x3, x4, x5, x6, x7, x8⟩ := a1
    unfold sR
    rw [s0 2 (by omega), s0 4 (by omega), s0 6 (by omega), s0 10 (by omega), s0 11 (by omega), s08, sd 8 (by omega), sd 1 (by omega), n9, e6, e7, e8, n 0 (by omega) (by omega), n 1 (by omega) (by omega), n 2 (by omega) (by omega), n 3 (by omega) (by omega), n 4 (by omega) (by omega), n 5 (by omega) (by omega)]
    exact ⟨x1, x2, x3, rfl, x5, x6, x7, x8⟩
  · unfold mR
    rw [sd 2 (by omega), sd 3 (by omega), hr]
    exact a2
  · intro j hj
    rw [e6] at hj
    rw [sd 4 (by omega), (M0 j (by omega)).1]
    exact a3 j hj
  · intro p hp
    rw [e7] at hp
    rw [hP p (by omega), sP p (by omega)]
    by_cases z : cb = 1 ∧ p = f
    · rw [if_pos z, if_pos z]
      exact (k_cb (a4 p hp) (b4 p hp)).1
    · rw [if_neg z, if_neg z]
      exact a4 p hp
  · intro g hg
    rw [e8] at hg
    rw [hG g (by omega), hu g, sd (16 + g) (by omega)]
    exact a5 g hg
  · intro c' hc'
    rw [n9] at hc'
    rw [sC c' (by omega)]
    by_cases z : c' = c
    · rw [if_pos z, z, C0]
      exact sR'
    · rw [if_neg z, Cn c' (by omega)]
      exact a6 c' (by omega)
  · unfold nS at b1 ⊢
    rw [n9, e6, e7, e8, n 0 (by omega) (by omega), n 1 (by omega) (by omega), n 2 (by omega) (by omega), n 3 (by omega) (by omega), n 4 (by omega) (by omega)]
    exact ⟨b1.1, b1.2.1, b1.2.2.1, b1.2.2.2.1, b1.2.2.2.2.1, b1.2.2.2.2.2.1, by omega⟩
  · intro j hj
    rw [e6] at hj
    rw [(M0 j (by omega)).1]
    exact b3 j hj
  · intro p hp
    rw [e7] at hp
    rw [n9, e8, hP p (by omega)]
    by_cases z : cb = 1 ∧ p = f
    · rw [if_pos z]
      exact pI_nc (k_cb (a4 p hp) (b4 p hp)).2.1 (by omega) (by omega)
    · rw [if_neg z]
      exact pI_nc (b4 p hp) (by omega) (by omega)
  · intro g hg
    rw [e8] at hg
    rw [hG g (by omega), hu g]
    exact b5 g hg
  · intro c' hc'
    rw [n9] at hc'
    rw [e6, e7, n 0 (by omega) (by omega)]
    by_cases z : c' = c
    · rw [z, C0]
      exact tI
    · rw [Cn c' (by omega)]
      exact b6 c' (by omega)
  · constructor
    · intro p hp h5
      rw [e7] at hp
      obtain ⟨y3, _, y5, y0, y2⟩ := P3 p hp
      rw [y5] at h5 ⊢
      have hb : ((vP N p 5).toNat : Int) < N 9 := by
        obtain ⟨_, _, _, _, i5, _⟩ := b4 p hp
        rcases i5 with ⟨_, i5, _⟩ | ⟨_, i5, _⟩ <;> omega
      rw [Cn _ hb]
      obtain ⟨x, y⟩ := b7.1 p hp h5
      refine ⟨x, ?_⟩
      unfold lkP at y ⊢
      rw [y3, y2, y0]
      exact y
    · intro c' hc' h6
      rw [n9] at hc'
      by_cases z : c' = c
      · rw [z, C0, t6] at h6
        omega
      · rw [Cn c' (by omega)] at h6 ⊢
        have hb : ((vC N c' 6).toNat : Int) < N 7 := by
          obtain ⟨_, _, _, _, _, _, i5⟩ := b6 c' (by omega)
          unfold cS at i5
          omega
        rw [(P3 _ hb).2.2.1]
        exact b7.2 c' (by omega) h6
  · obtain ⟨u1, u2, u3, u4⟩ := b8
    have p0 : paid (tierC N' c) (vC N' c) = 0 := by rw [C0]; exact paid_no (by omega)
    have l0 : late (vC N' c) = 0 := by
      rw [C0]
      unfold late
      rw [if_neg (fun e => e.1 t8)]
    refine ⟨?_, ?_, ?_, fun j hj => ?_⟩
    · rw [n 10 (by omega) (by omega), u1, nc, nc0, sumN_s (g := fun c => paid (tierC N c) (vC N c)) (x := 0) (fun i hi => by rw [htc i (by omega), Cn i (by omega)]) p0]
      omega
    · rw [n 11 (by omega) (by omega), u2, nc, nc0, sumN_s (g := fun c => 15 * late (vC N c)) (x := 0) (fun i hi => by rw [Cn i (by omega)]) (by rw [l0]; rfl)]
      omega
    · rw [n12, u3, nc, nc0, sumN_s (g := fun c => vC N c 10) (x := cb) (fun i hi => by rw [Cn i (by omega)]) (by rw [C0]; exact t10)]
    · rw [e6] at hj
      obtain ⟨v1, v2, v3⟩ := u4 j hj
      obtain ⟨m0, m1, m3, m2⟩ := M0 j (by omega)
      rw [nc0] at v1 v2 v3
      rw [m1, m2, m3, nc]
      refine ⟨?_, ?_, ?_⟩
      · rw [v1, sumN_s (g := fun c => if vC N c 0 = (j : Int) then paid (tierC N c) (vC N c) - 15 * late (vC N c) else 0) (x := 0) (fun i hi => by rw [htc i (by omega), Cn i (by omega)]) (by rw [p0, l0]; split <;> omega)]
        omega
      · rw [v2, sumN_s (g := fun c => if vC N c 0 = (j : Int) then vC N c 10 else 0) (x := if cb = 1 ∧ j = k then 1 else 0) (fun i hi => by rw [Cn i (by omega)]) (by
          rw [C0, t0, t10]
          by_cases z : j = k
          · rcases hcb with e | e
            · rw [e, if_neg (show ¬ ((0 : Int) = 1 ∧ j = k) by omega)]
              split <;> omega
            · rw [e, if_pos (show ((1 : Int) = 1 ∧ j = k) from ⟨rfl, z⟩), if_pos (by omega)]
          · rw [if_neg (show ¬ (cb = 1 ∧ j = k) from fun e => z e.2), if_neg (by omega)])]
      · rw [v3, sumN_s (g := fun c => if vC N c 0 = (j : Int) then late (vC N c) else 0) (x := 0) (fun i hi => by rw [Cn i (by omega)]) (by rw [l0]; split <;> omega)]
        omega
  · refine ⟨fun j hj h6 => ?_, fun p hp h7 => ?_, fun g hg h8 => ?_⟩
    · rw [e6] at h6
      rw [hM j hj, if_neg (by omega)]
      exact b9.1 j hj h6
    · rw [e7] at h7
      rw [hP p hp, if_neg (fun e => by have := hf e.1; omega)]
      exact b9.2.1 p hp h7
    · rw [e8] at h8
      rw [hG g hg]
      exact b9.2.2 g hg h8
