/-! ===== a patrol has got to its call: the three ways on ===== -/
def MID (s m s2 m2 : MI) (p0 c0 : Nat) (q2 t2 r2 u2 : Nat → Int) (a b lt : Int) (fM : Nat → Nat → Int) : Prop :=
  (RSx p0 s (m 1) ∧ wk s m ∧ (p0 : Int) < m 1 7 ∧ (c0 : Int) < m 1 9 ∧ pI (m 1 9) (m 1 8) (nu (vP (m 1) p0) 6 1) ∧ (vP (m 1) p0 5 = c0 ∧ vC (m 1) c0 6 = p0) ∧ vP (m 1) p0 3 = 1) ∧
  VW m m2 p0 c0 q2 t2 a b fM (fun g => vG (m 1) g) ∧ CW s s2 p0 c0 r2 u2 (fun g => s (16 + g)) ∧
  ((∀ k, k < 20 → fM k 0 = vM (m 1) k 0 ∧ fM k 2 = vM (m 1) k 2 ∧ fM k 1 = vM (m 1) k 1 + (if vC (m 1) c0 0 = (k : Int) then 0 - 15 * lt else 0) ∧ fM k 3 = vM (m 1) k 3 + if vC (m 1) c0 0 = (k : Int) then lt else 0) ∧ a = m 1 10 ∧ b = m 1 11 + 15 * lt ∧ late t2 = late (vC (m 1) c0) + lt) ∧
  (pI (m 1 9) (m 1 8) (nu q2 6 1) ∧ q2 5 = c0 ∧ q2 3 = 1 ∧ q2 13 = vP (m 1) p0 13) ∧ (t2 0 = vC (m 1) c0 0 ∧ t2 10 = vC (m 1) c0 10 ∧ cI (m 1 6) (m 1 7) (m 1 0) (nu t2 5 2) ∧ t2 6 = p0 ∧ ¬ vC (m 1) c0 5 = 5) ∧ pR r2 q2 ∧ cR u2 t2
def FR (m m' : MI) (p0 c0 : Nat) : Prop := (∀ d, ¬ d = 1 → m' d = m d) ∧ (∀ i, i < 10 → m' 1 i = m 1 i) ∧ (∀ p, p < 6 → ¬ p = p0 → vP (m' 1) p = vP (m 1) p) ∧ ∀ c, c < 40 → ¬ c = c0 → vC (m' 1) c = vC (m 1) c
theorem FR_V {m m' : MI} {p c : Nat} {q t : Nat → Int} {a b : Int} {fM fG : Nat → Nat → Int} (V : VW m m' p c q t a b fM fG) : FR m m' p c :=
  ⟨V.2.1, V.2.2.1, fun k hk e => by rw [V.2.2.2.2.2.1 k hk, if_neg e], fun k hk e => by rw [V.2.2.2.2.2.2.1 k hk, if_neg e]⟩
theorem paid_no {t : Int} {q : Nat → Int} (h : ¬ q 5 = 5) : paid t q = 0 := if_neg h
theorem late_eq {q q' : Nat → Int} (h3 : q' 3 = q 3) (h7 : q' 7 = q 7) (h8 : q' 8 = q 8) : late q' = late q := by
  unfold late
  rw [h3, h7, h8]
theorem mid_uw {s : MI} {N : Nat → Int} {p0 : Nat} (h : RSx p0 s N) {g : Nat} (hg : (g : Int) < N 8) : 0 ≤ vG N g 2 ∧ vG N g 2 + uw N g ≤ vG N g 1 := by
  obtain ⟨a1, a2, a3, a4, a5, a6, b1, b2, b3, b4, b5, b6, b7, b8⟩ := h
  exact ⟨(b5 g hg).2.2.1, (b5 g hg).2.2.2⟩
theorem mid_g {s : MI} {N : Nat → Int} {p0 : Nat} (h : RSx p0 s N) {g : Nat} (hg : (g : Int) < N 8) : s (16 + g) 0 = vG N g 0 ∧ s (16 + g) 1 = vG N g 1 ∧ s (16 + g) 2 = vG N g 2 ∧ s (16 + g) 3 = uw N g ∧ s (16 + g) 4 = vG N g 3 := by
  obtain ⟨a1, a2, a3, a4, a5, a6, b1, b2, b3, b4, b5, b6, b7, b8⟩ := h
  exact a5 g hg
theorem tI_no {q : Nat → Int} (h : ¬ q 3 = 3) (g : Nat) : tI q g = 0 := if_neg (fun e => h e.1)
theorem leave_fin {s m s2 m2 s' m' : MI} {p0 c0 : Nat} {q2 t2 r2 u2 : Nat → Int} {a b lt : Int} {fM : Nat → Nat → Int} (M : MID s m s2 m2 p0 c0 q2 t2 r2 u2 a b lt fM)
    (V : VW m m' p0 c0 (frM q2) (nu (nu t2 5 3) 6 (-5)) a b fM (fun g => vG (m 1) g)) (C : CW s s' p0 c0 (frC r2) (nu u2 5 3) (fun g => s (16 + g))) : RS s' (m' 1) ∧ wk s' m' ∧ FR m m' p0 c0 ∧ vC (m' 1) c0 5 = 3 ∧ s' 9 = s 9 := by
  obtain ⟨⟨h, hw, hp0, hc0, hq, hl, h3⟩, V2, C2, ⟨hM, h10, h11, hlt⟩, ⟨i2, i5, i3, i13⟩, ⟨j0, j10, jI, j6, j5⟩, hR, hC⟩ := M
  have hx := RS_fin h hp0 hc0 (Or.inl hl) V C hM (by rw [h10, Int.add_zero]) h11 (by rw [paid_no (by rw [nu_n (by omega), nu_s]; omega), paid_no j5]; rfl) (by rw [← hlt]; exact late_eq (by simp [nu]) (by simp [nu]) (by simp [nu])) (by simp [nu, j0]) (by simp [nu, j10])
    (fun g hg => by
      rw [tI_no (by simp [frM, nu]), tI_no (by omega)]
      exact ⟨rfl, rfl, (mid_uw h hg).1, by have := (mid_uw h hg).2; omega⟩)
    (by
      unfold cI cS at jI ⊢
      simp only [nu] at jI ⊢
      simp at jI ⊢
      omega) (Or.inr ⟨by simp [frM, nu], by simp [nu]⟩)
    (by
      unfold pR at hR ⊢
      simp only [frM, frC, nu] at hR ⊢
      simp
      omega)
    (by
      unfold cR at hC ⊢
      simp only [nu]
      simp
      omega)
    (fun g hg => by
      rw [tI_no (by simp [frM, nu]), tI_no (by omega)]
      obtain ⟨x0, x1, x2, x3, x4⟩ := mid_g h hg
      exact ⟨rfl, rfl, x2, by omega, x4⟩)
  refine ⟨RS_ofx hx ?_, wk_V V C hw, FR_V V, ?_⟩
  · rw [VW_p V, VW_n V (by omega), VW_n V (by omega)]
    unfold pI at i2 ⊢
    simp only [frM, nu] at i2 ⊢
    simp at i2 ⊢
    omega
  · exact ⟨by rw [VW_c V]; simp [nu], CW_d C (by omega)⟩
theorem repair_fin {s m s2 m2 s' m' : MI} {p0 c0 : Nat} {q2 t2 r2 u2 : Nat → Int} {a b lt : Int} {fM : Nat → Nat → Int} (M : MID s m s2 m2 p0 c0 q2 t2 r2 u2 a b lt fM)
    (V : VW m m' p0 c0 (nu (nu q2 3 2) 6 (5 * t2 2)) (nu t2 5 2) a b fM (fun g => vG (m 1) g)) (C : CW s s' p0 c0 (nu (nu r2 3 2) 6 (5 * t2 2)) (nu u2 5 2) (fun g => s (16 + g))) : RS s' (m' 1) ∧ wk s' m' ∧ FR m m' p0 c0 ∧ vC (m' 1) c0 5 = 2 ∧ s' 9 = s 9 := by
  obtain ⟨⟨h, hw, hp0, hc0, hq, hl, h3⟩, V2, C2, ⟨hM, h10, h11, hlt⟩, ⟨i2, i5, i3, i13⟩, ⟨j0, j10, jI, j6, j5⟩, hR, hC⟩ := M
  have hx := RS_fin h hp0 hc0 (Or.inl hl) V C hM (by rw [h10, Int.add_zero]) h11 (by rw [paid_no (by rw [nu_s]; omega), paid_no j5]; rfl) (by rw [← hlt]; exact late_eq (by simp [nu]) (by simp [nu]) (by simp [nu])) (by simp [nu, j0]) (by simp [nu, j10])
    (fun g hg => by
      rw [tI_no (by simp [nu]), tI_no (by omega)]
      exact ⟨rfl, rfl, (mid_uw h hg).1, by have := (mid_uw h hg).2; omega⟩) jI
    (Or.inl ⟨by simp [nu, i5], by simp [nu, j6], Or.inr (Or.inl ⟨by simp [nu], by simp [nu]⟩)⟩)
    (by
      unfold pR at hR ⊢
      simp only [nu] at hR ⊢
      simp
      omega)
    (by
      unfold cR at hC ⊢
      simp only [nu]
      simp
      omega)
    (fun g hg => by
      rw [tI_no (by simp [nu]), tI_no (by omega)]
      obtain ⟨x0, x1, x2, x3, x4⟩ := mid_g h hg
      exact ⟨rfl, rfl, x2, by omega, x4⟩)
  refine ⟨RS_ofx hx ?_, wk_V V C hw, FR_V V, ?_⟩
  · rw [VW_p V, VW_n V (by omega), VW_n V (by omega)]
    have jt := jI.2.2.1
    unfold pI at i2 ⊢
    simp only [nu] at i2 jt ⊢
    simp at i2 jt ⊢
    omega
  · exact ⟨by rw [VW_c V]; simp [nu], CW_d C (by omega)⟩
theorem tow_fin {s m s2 m2 s' m' : MI} {p0 c0 g e : Nat} {q2 t2 r2 u2 : Nat → Int} {a b lt L : Int} {fM : Nat → Nat → Int} (M : MID s m s2 m2 p0 c0 q2 t2 r2 u2 a b lt fM) (hg8 : (g : Int) < m 1 8) (he : e < 12) (hL : 1 ≤ L ∧ L ≤ 2000) (hroom : vG (m 1) g 2 + uw (m 1) g < vG (m 1) g 1)
    (V : VW m m' p0 c0 (nu (nu (nu (nu q2 3 3) 6 L) 12 (e : Int)) 13 (g : Int)) (nu (nu t2 5 4) 6 (p0 : Int)) a b fM (fun g => vG (m 1) g)) (C : CW s s' p0 c0 (nu (nu (nu (nu r2 3 3) 8 (g : Int)) 7 (e : Int)) 6 L) (nu u2 5 4) (fun k => if k = g then nu (s (16 + g)) 3 (s (16 + g) 3 + 1) else s (16 + k))) : RS s' (m' 1) ∧ wk s' m' ∧ FR m m' p0 c0 ∧ vC (m' 1) c0 5 = 4 ∧ s' 9 = s 9 := by
  obtain ⟨⟨h, hw, hp0, hc0, hq, hl, h3⟩, V2, C2, ⟨hM, h10, h11, hlt⟩, ⟨i2, i5, i3, i13⟩, ⟨j0, j10, jI, j6, j5⟩, hR, hC⟩ := M
  have ht : ∀ k : Nat, tI (nu (nu (nu (nu q2 3 3) 6 L) 12 (e : Int)) 13 (g : Int)) k = if k = g then 1 else 0 := fun k => by
    unfold tI
    simp only [nu]
    simp
    by_cases z : k = g
    · simp [z]
    · rw [if_neg (by omega), if_neg z]
  have hx := RS_fin h hp0 hc0 (Or.inl hl) V C hM (by rw [h10, Int.add_zero]) h11 (by rw [paid_no (by rw [nu_n (by omega), nu_s]; omega), paid_no j5]; rfl) (by rw [← hlt]; exact late_eq (by simp [nu]) (by simp [nu]) (by simp [nu])) (by simp [nu, j0]) (by simp [nu, j10])
    (fun k hk => by
      rw [ht k, tI_no (q := vP (m 1) p0) (by omega)]
      refine ⟨rfl, rfl, (mid_uw h hk).1, ?_⟩
      have := (mid_uw h hk).2
      by_cases z : k = g
      · rw [if_pos z, z]
        omega
      · rw [if_neg z]
        omega)
    (by
      unfold cI cS at jI ⊢
      simp only [nu] at jI ⊢
      simp at jI ⊢
      omega)
    (Or.inl ⟨by simp [nu, i5], by simp [nu], Or.inr (Or.inr ⟨by simp [nu], by simp [nu]⟩)⟩)
    (by
      unfold pR at hR ⊢
      simp only [nu] at hR ⊢
      simp
      omega)
    (by
      unfold cR at hC ⊢
      simp only [nu]
      simp
      omega)
    (fun k hk => by
      rw [ht k, tI_no (q := vP (m 1) p0) (by omega)]
      obtain ⟨x0, x1, x2, x3, x4⟩ := mid_g h hk
      by_cases z : k = g
      · subst z
        simp only [if_true, nu]
        simp
        omega
      · simp only [z, if_false]
        exact ⟨trivial, trivial, x2, by omega, x4⟩)
  refine ⟨RS_ofx hx ?_, wk_V V C hw, FR_V V, ?_⟩
  · rw [VW_p V, VW_n V (by omega), VW_n V (by omega)]
    unfold pI at i2 ⊢
    simp only [nu] at i2 ⊢
    simp at i2 ⊢
    omega
  · exact ⟨by rw [VW_c V]; simp [nu], CW_d C (by omega)⟩
