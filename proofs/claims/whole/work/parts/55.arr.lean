/-! ===== a patrol gets to its call: both alike ===== -/
theorem mid_leave {s m s2 m2 : MI} {p0 c0 : Nat} {q2 t2 r2 u2 : Nat → Int} {a b lt : Int} {fM : Nat → Nat → Int} (M : MID s m s2 m2 p0 c0 q2 t2 r2 u2 a b lt fM) :
    ∃ s' m', fWork_arrive_j129 (21 + c0) (10 + p0) s2 = some s' ∧ fModel_leaves (p0 : Int) m2 = some m' ∧ RS s' (m' 1) ∧ wk s' m' ∧ FR m m' p0 c0 ∧ vC (m' 1) c0 5 = 3 ∧ s' 9 = s 9 := by
  obtain ⟨_, V, C, _, i, _⟩ := id M
  obtain ⟨P, e, C'⟩ := CW_free (CW_C C 5 3)
  obtain ⟨m', eM, V'⟩ := leaves_V V i.2.1
  obtain ⟨z1, z2, z3, z4⟩ := leave_fin M V' C'
  unfold fWork_arrive_j129
  rw [eM, Option.bind_some, e, Option.bind_some, Option.bind_some]
  exact ⟨_, _, rfl, rfl, z1, z2, z3, z4⟩
theorem k_pI {nc ng a b : Int} {q : Nat → Int} (h : pI nc ng (nu q 6 1)) (ha : 0 ≤ a ∧ a < 12) : pI nc ng (nu (nu (nu q 4 a) 10 b) 6 1) := by
  unfold pI at h ⊢
  simp only [nu] at h ⊢
  simp at h ⊢
  omega
theorem k_pI2 {nc ng a : Int} {q : Nat → Int} (h : pI nc ng (nu q 6 1)) (ha : 0 ≤ a ∧ a < 12) : pI nc ng (nu (nu q 4 a) 6 1) := by
  unfold pI at h ⊢
  simp only [nu] at h ⊢
  simp at h ⊢
  omega
theorem k_cI {nm np mi p w : Int} {t : Nat → Int} (h : cI nm np mi t) (t5 : t 5 = 1) (t6 : t 6 = p) (hp : 0 ≤ p ∧ p < np) (hw : 0 ≤ w ∧ w ≤ 2880) : cI nm np mi (nu (nu (nu t 8 p) 7 w) 5 2) := by
  unfold cI cS at h ⊢
  simp only [nu] at h ⊢
  simp at h ⊢
  omega
theorem k_cI2 {nm np mi p : Int} {t : Nat → Int} (h : cI nm np mi t) (t5 : t 5 = 3) (t6 : t 6 = p) (hp : 0 ≤ p ∧ p < np) : cI nm np mi (nu t 5 2) := by
  unfold cI cS at h ⊢
  simp only [nu] at h ⊢
  simp at h ⊢
  omega
theorem k_pR {a w x : Int} {r q : Nat → Int} (h : pR r q) (h3 : q 3 = 1) (hx : x = q 10 + w) : pR (nu (nu r 4 a) 12 (r 12 + w)) (nu (nu q 4 a) 10 x) := by
  unfold pR at h ⊢
  simp only [nu] at h ⊢
  simp
  omega
theorem k_pR2 {a : Int} {r q : Nat → Int} (h : pR r q) (h3 : q 3 = 1) : pR (nu r 4 a) (nu q 4 a) := by
  unfold pR at h ⊢
  simp only [nu] at h ⊢
  simp
  omega
theorem k_cR {p n w : Int} {u t : Nat → Int} (h : cR u t) (hp : 0 ≤ p) (hw : w = n - t 4) : cR (nu (nu u 6 p) 7 n) (nu (nu t 8 p) 7 w) := by
  unfold cR at h ⊢
  simp only [nu] at h ⊢
  simp
  omega
theorem arrive_eq {s m : MI} {p0 c0 : Nat} (h : RSx p0 s (m 1)) (hw : wk s m) (hp0 : (p0 : Int) < m 1 7) (hc0 : (c0 : Int) < m 1 9) (hq : pI (m 1 9) (m 1 8) (nu (vP (m 1) p0) 6 1)) (h5 : vP (m 1) p0 5 = c0) (h3 : vP (m 1) p0 3 = 1) :
    ∃ s' m', fWork_arrive (p0 : Int) (21 + c0) s = some s' ∧ fModel_gets (p0 : Int) m = some m' ∧ RS s' (m' 1) ∧ wk s' m' ∧ FR m m' p0 c0 ∧ (vC (m' 1) c0 5 = 2 ∨ vC (m' 1) c0 5 = 3 ∨ vC (m' 1) c0 5 = 4) ∧ (vC (m 1) c0 5 = 1 ∨ vC (m 1) c0 5 = 3) ∧ s' 9 = s 9 := by
  have HH := h
  obtain ⟨a1, a2, a3, a4, a5, a6, b1, b2, b3, b4, b5, b6, b7, b8⟩ := h
  obtain ⟨S0, S1, S2, S6, S7, S8, S9⟩ := b1
  have hp : p0 < 6 := by omega
  have hc : c0 < 40 := by omega
  obtain ⟨l1, l2⟩ := b7.1 p0 hp0 (by omega)
  rw [h5, show ((c0 : Int)).toNat = c0 by omega] at l1 l2
  have hR := a4 p0 hp0
  have hC := a6 c0 hc0
  have cI0 := b6 c0 hc0
  have n0 : s 0 11 = m 1 0 := a1.2.2.2.2.2.1
  have qb : (0 ≤ vP (m 1) p0 0 ∧ vP (m 1) p0 0 < 12) ∧ (1 ≤ vP (m 1) p0 1 ∧ vP (m 1) p0 1 ≤ 9) ∧ (vP (m 1) p0 2 = 0 ∨ vP (m 1) p0 2 = 1) := by
    obtain ⟨x, y, z, _⟩ := hq
    rw [nu_n (by omega)] at x y z
    exact ⟨x, y, z⟩
  have hst : vC (m 1) c0 5 = 1 ∨ vC (m 1) c0 5 = 3 ∧ vP (m 1) p0 2 = 1 ∧ vP (m 1) p0 0 / 4 = vC (m 1) c0 1 / 4 := by
    rcases l2 with ⟨_, x⟩ | ⟨x, _⟩ | ⟨x, _⟩
    · exact x
    · omega
    · omega
  have R0 := hR
  have K0 := hC
  unfold pR at R0
  unfold cR at K0
  obtain ⟨⟨r0, r1, r2, r3, r4, r5, r6⟩, rt, r9, r10, r11, r12, r13⟩ := R0
  obtain ⟨⟨u0, u1, u2, u3, u4, u5, u6⟩, u7, u7', u8, u9, u10⟩ := K0
  obtain ⟨i0, i1, i2, i3, i4, i10, iS⟩ := id cI0
  have hbase : RSx p0 s (m 1) ∧ wk s m ∧ (p0 : Int) < m 1 7 ∧ (c0 : Int) < m 1 9 ∧ pI (m 1 9) (m 1 8) (nu (vP (m 1) p0) 6 1) ∧ (vP (m 1) p0 5 = c0 ∧ vC (m 1) c0 6 = p0) ∧ vP (m 1) p0 3 = 1 := ⟨HH, hw, hp0, hc0, hq, ⟨h5, l1⟩, h3⟩
  rcases hst with t5 | ⟨t5, q2, hreg⟩
  · have cs : vC (m 1) c0 8 = -5 ∧ vC (m 1) c0 9 = -5 := by
      unfold cS at iS
      omega
    have hk : (vC (m 1) c0 0).toNat < 20 := by omega
    have t0e : vC (m 1) c0 0 = (((vC (m 1) c0 0).toNat : Nat) : Int) := by omega
    have lt0 : late (vC (m 1) c0) = 0 := if_neg (fun e => e.1 cs.1)
    have e4 : s 0 11 - s (21 + c0) 4 = m 1 0 - vC (m 1) c0 4 := by omega
    have eC := arrive_c1 hp hc (s := s) (by omega) (by omega) (by omega) (by omega) (by omega) (by omega) (by omega)
    have eM := gets_m1 hp hc hk h5 t5 t0e (by omega) (m 1 0 - vC (m 1) c0 4) rfl (by omega)
    rw [e4] at eC
    have C4 := aS_C hp hc (s (21 + c0) 1) (s 0 11) (s (10 + p0) 12 + (m 1 0 - vC (m 1) c0 4)) (s := s)
    have key : ∀ (m2 : MI) (b lt : Int) (fM : Nat → Nat → Int), VW m m2 p0 c0 (nu (nu (vP (m 1) p0) 4 (vC (m 1) c0 1)) 10 (vP (m 1) p0 10 + (m 1 0 - vC (m 1) c0 4))) (nu (nu (vC (m 1) c0) 8 (p0 : Int)) 7 (m 1 0 - vC (m 1) c0 4)) (m 1 10) b fM (fun g => vG (m 1) g) →
        ((∀ k, k < 20 → fM k 0 = vM (m 1) k 0 ∧ fM k 2 = vM (m 1) k 2 ∧ fM k 1 = vM (m 1) k 1 + (if vC (m 1) c0 0 = (k : Int) then 0 - 15 * lt else 0) ∧ fM k 3 = vM (m 1) k 3 + if vC (m 1) c0 0 = (k : Int) then lt else 0) ∧ b = m 1 11 + 15 * lt ∧ lt = if vC (m 1) c0 3 < m 1 0 - vC (m 1) c0 4 then 1 else 0) →
        ∃ s' m', fWork_arrive (p0 : Int) (21 + c0) s = some s' ∧ fModel_gets_j134 (p0 : Int) (c0 : Int) (vC (m 1) c0 1) m2 = some m' ∧ RS s' (m' 1) ∧ wk s' m' ∧ FR m m' p0 c0 ∧ (vC (m' 1) c0 5 = 2 ∨ vC (m' 1) c0 5 = 3 ∨ vC (m' 1) c0 5 = 4) ∧ s' 9 = s 9 := fun m2 b lt fM V ⟨hM, hb, hlt⟩ => by
      have M : MID s m (aS s p0 c0 (s (21 + c0) 1) (s 0 11) (s (10 + p0) 12 + (m 1 0 - vC (m 1) c0 4))) m2 p0 c0 (nu (nu (vP (m 1) p0) 4 (vC (m 1) c0 1)) 10 (vP (m 1) p0 10 + (m 1 0 - vC (m 1) c0 4))) (nu (nu (vC (m 1) c0) 8 (p0 : Int)) 7 (m 1 0 - vC (m 1) c0 4)) (nu (nu (s (10 + p0)) 4 (s (21 + c0) 1)) 12 (s (10 + p0) 12 + (m 1 0 - vC (m 1) c0 4))) (nu (nu (s (21 + c0)) 6 (p0 : Int)) 7 (s 0 11)) (m 1 10) b lt fM := by
        refine ⟨hbase, V, C4, ⟨hM, rfl, hb, ?_⟩, ⟨k_pI hq i1, ?_, ?_, ?_⟩, ⟨?_, ?_, k_cI cI0 t5 l1 (by omega) (by omega), ?_, by omega⟩, ?_, ?_⟩
        · rw [lt0, hlt]
          unfold late
          simp only [nu_n (by omega : ¬ (8 : Nat) = 7), nu_s, nu_n (by omega : ¬ (3 : Nat) = 7), nu_n (by omega : ¬ (3 : Nat) = 8)]
          by_cases z : vC (m 1) c0 3 < m 1 0 - vC (m 1) c0 4
          · rw [if_pos z, if_pos ⟨by omega, z⟩]
            rfl
          · rw [if_neg z, if_neg (fun e => z e.2)]
            rfl
        · rw [nu_n (by omega), nu_n (by omega)]; exact h5
        · rw [nu_n (by omega), nu_n (by omega)]; exact h3
        · rw [nu_n (by omega), nu_n (by omega)]
        · rw [nu_n (by omega), nu_n (by omega)]
        · rw [nu_n (by omega), nu_n (by omega)]
        · rw [nu_n (by omega), nu_n (by omega)]; exact l1
        · rw [u1]
          exact k_pR hR h3 rfl
        · exact k_cR hC (by omega) (by omega)
      have J := gets_j (A := vC (m 1) c0 1) V (by rw [nu_n (by omega), nu_n (by omega)]; omega) (by rw [nu_n (by omega), nu_n (by omega)]; omega) (by rw [nu_n (by omega), nu_n (by omega)]; omega) (by rw [nu_n (by omega), nu_n (by omega)]; omega) (by omega)
      rw [nu_n (by omega : ¬ (1 : Nat) = 10), nu_n (by omega : ¬ (1 : Nat) = 4), nu_n (by omega : ¬ (2 : Nat) = 10), nu_n (by omega : ¬ (2 : Nat) = 4), nu_n (by omega : ¬ (0 : Nat) = 10), nu_n (by omega : ¬ (0 : Nat) = 4), nu_n (by omega : ¬ (2 : Nat) = 7), nu_n (by omega : ¬ (2 : Nat) = 8)] at J
      rw [eC, J, r1, r2, r0, u2]
      by_cases sk : vP (m 1) p0 1 < vC (m 1) c0 2 - 3
      · rw [if_pos sk, if_pos sk]
        by_cases tq : vP (m 1) p0 2 = 0
        · rw [if_pos tq, if_neg (by omega)]
          obtain ⟨s', m', x1, x2, x3, x4, x5, x6⟩ := mid_leave M
          exact ⟨s', m', x1, x2, x3, x4, x5, Or.inr (Or.inl x6.1), x6.2⟩
        · have tq1 : vP (m 1) p0 2 = 1 := by omega
          rw [if_neg tq]
          by_cases rg : vP (m 1) p0 0 / 4 = vC (m 1) c0 1 / 4
          · rw [if_pos (show vP (m 1) p0 0 / 4 = s (21 + c0) 1 / 4 by rw [u1]; exact rg), if_pos tq1, if_pos rg]
            obtain ⟨s', m', x1, x2, x3, x4, x5, x6⟩ := mid_tow M (by rw [nu_n (by omega), nu_n (by omega), nu_n (by omega), nu_n (by omega)]; exact rg)
            exact ⟨s', m', x1, x2, x3, x4, x5, Or.inr x6.1, x6.2⟩
          · rw [if_neg (show ¬ vP (m 1) p0 0 / 4 = s (21 + c0) 1 / 4 by rw [u1]; exact rg), if_pos tq1, if_neg rg]
            obtain ⟨s', m', x1, x2, x3, x4, x5, x6⟩ := mid_leave M
            exact ⟨s', m', x1, x2, x3, x4, x5, Or.inr (Or.inl x6.1), x6.2⟩
      · rw [if_neg sk, if_neg sk]
        have te : nu (nu (vC (m 1) c0) 8 (p0 : Int)) 7 (m 1 0 - vC (m 1) c0 4) 2 = vC (m 1) c0 2 := by rw [nu_n (by omega), nu_n (by omega)]
        obtain ⟨z1, z2, z3, z4⟩ := repair_fin M (VW_C (VW_P (VW_P V 3 2 (by omega)) 6 _ (by omega)) 5 2 (by omega)) (CW_C (CW_P (CW_P C4 3 2) 6 _) 5 2)
        rw [te] at z1 z2 z3 z4
        exact ⟨_, _, rfl, rfl, z1, z2, z3, Or.inl z4.1, z4.2⟩
    rw [eM]
    by_cases hl : m 1 0 - vC (m 1) c0 4 ≤ vC (m 1) c0 3
    · rw [if_pos hl]
      obtain ⟨s', m', x1, x2, x3, x4, x5, x6⟩ := key _ _ 0 _ (gM4_V hp hc (vC (m 1) c0 1) (m 1 0 - vC (m 1) c0 4)) ⟨fun k _ => ⟨rfl, rfl, by show vM (m 1) k 1 = vM (m 1) k 1 + (if vC (m 1) c0 0 = (k : Int) then 0 - 15 * 0 else 0); split <;> omega, by show vM (m 1) k 3 = vM (m 1) k 3 + (if vC (m 1) c0 0 = (k : Int) then 0 else 0); split <;> omega⟩, by omega, by rw [if_neg (by omega)]⟩
      exact ⟨s', m', x1, x2, x3, x4, x5, x6.1, Or.inl t5, x6.2⟩
    · rw [if_neg hl]
      obtain ⟨s', m', x1, x2, x3, x4, x5, x6⟩ := key _ _ 1 _ (VW_S11 (VW_M (VW_M (gM4_V hp hc (vC (m 1) c0 1) (m 1 0 - vC (m 1) c0 4)) (vC (m 1) c0 0).toNat 1 (vM (m 1) (vC (m 1) c0 0).toNat 1 + -15) hk (by omega)) (vC (m 1) c0 0).toNat 3 (vM (m 1) (vC (m 1) c0 0).toNat 3 + 1) hk (by omega)) (m 1 11 + 15)) ⟨fun k _ => by
        by_cases z : k = (vC (m 1) c0 0).toNat
        · subst z
          rw [if_pos rfl, if_pos rfl, if_pos t0e, if_pos t0e]
          simp only [nu]
          simp
        · rw [if_neg z, if_neg z, if_neg (by omega), if_neg (by omega)]
          exact ⟨rfl, rfl, by omega, by omega⟩, by omega, by rw [if_pos (by omega)]⟩
      exact ⟨s', m', x1, x2, x3, x4, x5, x6.1, Or.inl t5, x6.2⟩
  · have eC := arrive_c3 hp hc (s := s) (by omega)
    have eM := gets_m3 hp hc h5 t5
    have V := VW_P (VW_0 m hp hc) 4 (vC (m 1) c0 1) (by omega)
    have C := CW_P (CW_0 s hp hc) 4 (s (21 + c0) 1)
    have M : MID s m (sm_up s (10 + p0) 4 (s (21 + c0) 1)) (mP m p0 4 (vC (m 1) c0 1)) p0 c0 (nu (vP (m 1) p0) 4 (vC (m 1) c0 1)) (vC (m 1) c0) (nu (s (10 + p0)) 4 (s (21 + c0) 1)) (s (21 + c0)) (m 1 10) (m 1 11) 0 (fun k => vM (m 1) k) := by
      refine ⟨hbase, V, C, ⟨fun k _ => ⟨rfl, rfl, by show vM (m 1) k 1 = vM (m 1) k 1 + (if vC (m 1) c0 0 = (k : Int) then 0 - 15 * 0 else 0); split <;> omega, by show vM (m 1) k 3 = vM (m 1) k 3 + (if vC (m 1) c0 0 = (k : Int) then 0 else 0); split <;> omega⟩, rfl, by omega, by omega⟩, ⟨k_pI2 hq i1, ?_, ?_, ?_⟩, ⟨rfl, rfl, k_cI2 cI0 t5 l1 (by omega), l1, by omega⟩, ?_, hC⟩
      · rw [nu_n (by omega)]; exact h5
      · rw [nu_n (by omega)]; exact h3
      · rw [nu_n (by omega)]
      · rw [u1]
        exact k_pR2 hR h3
    obtain ⟨s', m', x1, x2, x3, x4, x5, x6⟩ := mid_tow M (by rw [nu_n (by omega)]; exact hreg)
    exact ⟨s', m', by rw [eC]; exact x1, by rw [eM]; exact x2, x3, x4, x5, Or.inr x6.1, Or.inr t5, x6.2⟩
