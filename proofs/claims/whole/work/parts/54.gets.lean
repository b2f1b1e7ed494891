/-! ===== a patrol gets to its call ===== -/
theorem mid_tow {s m s2 m2 : MI} {p0 c0 : Nat} {q2 t2 r2 u2 : Nat → Int} {a b lt : Int} {fM : Nat → Nat → Int} (M : MID s m s2 m2 p0 c0 q2 t2 r2 u2 a b lt fM) (hr : q2 0 / 4 = t2 1 / 4) :
    ∃ s' m', fWork_startTow (10 + p0) (21 + c0) s2 = some s' ∧ fModel_tows (p0 : Int) m2 = some m' ∧ RS s' (m' 1) ∧ wk s' m' ∧ FR m m' p0 c0 ∧ (vC (m' 1) c0 5 = 3 ∨ vC (m' 1) c0 5 = 4) ∧ s' 9 = s 9 := by
  have MM := M
  obtain ⟨⟨h, hw, hp0, hc0, hq, hl, h3⟩, V, C, ⟨hM, h10, h11, hlt⟩, ⟨i2, i5, i3, i13⟩, ⟨j0, j10, jI, j6, j5⟩, hR, hC⟩ := M
  have hga := GA_V V C (GA_of h hq) (i3.trans h3.symm) i13
  have hwk := wk_V V C hw
  have jt : 0 ≤ t2 1 ∧ t2 1 < 12 := by
    have := jI.2.1
    simp only [nu] at this
    simp at this
    exact this
  have iq : 0 ≤ q2 0 ∧ q2 0 < 12 := by
    have := i2.1
    simp only [nu] at this
    simp at this
    exact this
  have tA : t2 1 = (((t2 1).toNat : Nat) : Int) := by omega
  have uA : u2 1 = (((t2 1).toNat : Nat) : Int) := by rw [← tA]; exact hC.1.2.1
  obtain ⟨z, eC, ⟨rfl, m', eM, V'⟩ | ⟨g, e, rfl, g8, gr, he, hD, hT, m', eM, V'⟩⟩ := tows_V V hga hwk (A := (t2 1).toNat) (by omega) i5 tA iq (by omega)
  · obtain ⟨s', eS, C'⟩ := startTow_no C uA eC
    obtain ⟨y1, y2, y3, y4⟩ := leave_fin MM V' C'
    exact ⟨s', m', eS, eM, y1, y2, y3, Or.inl y4.1, y4.2⟩
  · have n8 : m 1 8 ≤ 5 ∧ s 0 6 = m 1 8 := by
      have x := hga.2.2.1
      have y := hga.2.2.2.1
      rw [VW_n V (by omega)] at x y
      rw [CW_d C (by omega)] at y
      exact ⟨x.2, y⟩
    have gv := (GA_of h hq).1 g g8
    obtain ⟨s', eS, C'⟩ := startTow_yes (g := g) (e := e) C uA eC (by omega) (by omega) (fun S a b => by
      rw [gv.1]
      exact hT S a b) hD
    have eu : uw (m2 1) g = uw (m 1) g := by
      refine uw_same (VW_n V (by omega)) ?_ (fun k hk => ?_) g
      · have x := hga.2.2.2.2.1
        rw [VW_n V (by omega)] at x
        exact x.2
      · by_cases z : k = p0
        · subst z
          rw [VW_p V]
          exact ⟨i3.trans h3.symm, i13⟩
        · rw [V.2.2.2.2.2.1 k hk, if_neg z]
          exact ⟨rfl, rfl⟩
    obtain ⟨y1, y2, y3, y4⟩ := tow_fin MM g8 he (by split <;> omega) (by rw [← eu]; exact gr) V' C'
    exact ⟨s', m', eS, eM, y1, y2, y3, Or.inr y4.1, y4.2⟩
abbrev aS (s : MI) (p0 c0 : Nat) (A n w : Int) : MI := sm_up (sm_up (sm_up (sm_up s (10 + p0) 4 A) (21 + c0) 6 (p0 : Int)) (21 + c0) 7 n) (10 + p0) 12 w
theorem aS_C {s : MI} {p0 c0 : Nat} (hp : p0 < 6) (hc : c0 < 40) (A n w : Int) : CW s (aS s p0 c0 A n w) p0 c0 (nu (nu (s (10 + p0)) 4 A) 12 w) (nu (nu (s (21 + c0)) 6 (p0 : Int)) 7 n) (fun g => s (16 + g)) :=
  CW_P (CW_C (CW_C (CW_P (CW_0 s hp hc) 4 A) 6 (p0 : Int)) 7 n) 12 w
theorem arrive_c3 {s : MI} {p0 c0 : Nat} (hp : p0 < 6) (hc : c0 < 40) (h5 : s (21 + c0) 5 = 3) : fWork_arrive (p0 : Int) (21 + c0) s = fWork_startTow (10 + p0) (21 + c0) (sm_up s (10 + p0) 4 (s (21 + c0) 1)) := by
  have C1 := CW_P (CW_0 s hp hc) 4 (s (21 + c0) 1)
  unfold fWork_arrive
  rw [tg (by omega) (by omega) (by omega), tnn (by omega), Option.bind_some, CW_c C1, h5, w3, if_pos rfl]
  cases fWork_startTow (10 + p0) (21 + c0) (sm_up s (10 + p0) 4 (s (21 + c0) 1)) <;> rfl
theorem arrive_c1 {s : MI} {p0 c0 : Nat} (hp : p0 < 6) (hc : c0 < 40) (h5 : s (21 + c0) 5 = 1) (hn : 0 ≤ s 0 11 ∧ s 0 11 ≤ 2880) (h1 : 0 ≤ s (10 + p0) 1 ∧ s (10 + p0) 1 ≤ 9) (h2 : 0 ≤ s (10 + p0) 2 ∧ s (10 + p0) 2 ≤ 1) (h0 : 0 ≤ s (10 + p0) 0 ∧ s (10 + p0) 0 < 12) (ht2 : 0 ≤ s (21 + c0) 2 ∧ s (21 + c0) 2 ≤ 12) (ht1 : 0 ≤ s (21 + c0) 1 ∧ s (21 + c0) 1 < 12) :
    fWork_arrive (p0 : Int) (21 + c0) s = (if s (10 + p0) 1 < s (21 + c0) 2 - 3 then (if s (10 + p0) 2 = 0 then fWork_arrive_j129 (21 + c0) (10 + p0) (aS s p0 c0 (s (21 + c0) 1) (s 0 11) (s (10 + p0) 12 + (s 0 11 - s (21 + c0) 4))) else if s (10 + p0) 0 / 4 = s (21 + c0) 1 / 4 then fWork_startTow (10 + p0) (21 + c0) (aS s p0 c0 (s (21 + c0) 1) (s 0 11) (s (10 + p0) 12 + (s 0 11 - s (21 + c0) 4))) else fWork_arrive_j129 (21 + c0) (10 + p0) (aS s p0 c0 (s (21 + c0) 1) (s 0 11) (s (10 + p0) 12 + (s 0 11 - s (21 + c0) 4)))) else
      some (sm_up (sm_up (sm_up (aS s p0 c0 (s (21 + c0) 1) (s 0 11) (s (10 + p0) 12 + (s 0 11 - s (21 + c0) 4))) (10 + p0) 3 2) (10 + p0) 6 (5 * s (21 + c0) 2)) (21 + c0) 5 2)) := by
  have C1 := CW_P (CW_0 s hp hc) 4 (s (21 + c0) 1)
  have C2 := CW_C C1 6 (p0 : Int)
  have C3 := CW_C C2 7 (s 0 11)
  have C4 := aS_C hp hc (s (21 + c0) 1) (s 0 11) (s (10 + p0) 12 + (s 0 11 - s (21 + c0) 4)) (s := s)
  have C5 := CW_P C4 3 2
  have uw1 : fBreakdown_waited (s 0 11) (sm_lo (21 + c0) (sm_up (sm_up (sm_up s (10 + p0) 4 (s (21 + c0) 1)) (21 + c0) 6 (p0 : Int)) (21 + c0) 7 (s 0 11))) = some (s 0 11 - s (21 + c0) 4) := by
    unfold fBreakdown_waited
    rw [lo_at, lo_at, Nat.add_zero, CW_c C3, nu_s, tw (x := s 0 11) (by omega) (by omega), if_neg (by omega), lo_at, Nat.add_zero, CW_c C3, nu_n (by omega), nu_n (by omega)]
  unfold aS at C4 C5 ⊢
  unfold fWork_arrive
  rw [tg (by omega) (by omega) (by omega), tnn (by omega), Option.bind_some, CW_c C1, h5, w1, if_neg (by omega), Option.bind_some, CW_d C2 (by omega : 0 < 10), Option.bind_some, CW_d C3 (by omega : 0 < 10), uw1, Option.bind_some, CW_p C3, nu_n (by omega : ¬ (12 : Nat) = 4), Option.bind_some, CW_p C4, CW_c C4]
  rw [nu_n (by omega : ¬ (1 : Nat) = 12), nu_n (by omega : ¬ (1 : Nat) = 4), nu_n (by omega : ¬ (2 : Nat) = 12), nu_n (by omega : ¬ (2 : Nat) = 4), nu_n (by omega : ¬ (0 : Nat) = 12), nu_n (by omega : ¬ (0 : Nat) = 4), nu_n (by omega : ¬ (2 : Nat) = 7), nu_n (by omega : ¬ (2 : Nat) = 6), nu_n (by omega : ¬ (1 : Nat) = 7), nu_n (by omega : ¬ (1 : Nat) = 6)]
  rw [tw (x := s (10 + p0) 1) (by omega) (by omega), tw (x := s (10 + p0) 2) (by omega) (by omega), tw (x := s (21 + c0) 2 - 3) (by omega) (by omega)]
  by_cases sk : s (10 + p0) 1 < s (21 + c0) 2 - 3
  · rw [if_pos sk, if_pos sk]
    by_cases tq : s (10 + p0) 2 = 0
    · rw [if_pos tq, if_pos tq]
    · rw [if_neg tq, if_neg tq]
      have e0 : s (10 + p0) 0 = (((s (10 + p0) 0).toNat : Nat) : Int) := by omega
      have e1 : s (21 + c0) 1 = (((s (21 + c0) 1).toNat : Nat) : Int) := by omega
      have g0 := (region_eq (x := (s (10 + p0) 0).toNat) (by omega)).2
      have g1 := (region_eq (x := (s (21 + c0) 1).toNat) (by omega)).2
      rw [← e0] at g0
      rw [← e1] at g1
      rw [g0, Option.bind_some, g1, Option.bind_some, tw (x := (((s (10 + p0) 0).toNat / 4 : Nat) : Int)) (by omega) (by omega), tw (x := (((s (21 + c0) 1).toNat / 4 : Nat) : Int)) (by omega) (by omega)]
      by_cases rg : s (10 + p0) 0 / 4 = s (21 + c0) 1 / 4
      · rw [if_pos (by omega), if_pos rg]
        generalize fWork_startTow (10 + p0) (21 + c0) _ = y
        cases y <;> rfl
      · rw [if_neg (by omega), if_neg rg]
  · rw [if_neg sk, if_neg sk, Option.bind_some, CW_c C5, nu_n (by omega : ¬ (2 : Nat) = 7), nu_n (by omega : ¬ (2 : Nat) = 6), Option.bind_some, Option.bind_some]
theorem gets_m3 {m : MI} {p0 c0 : Nat} (hp : p0 < 6) (hc : c0 < 40) (h5 : vP (m 1) p0 5 = c0) (t5 : vC (m 1) c0 5 = 3) : fModel_gets (p0 : Int) m = fModel_tows (p0 : Int) (mP m p0 4 (vC (m 1) c0 1)) := by
  have V1 := VW_P (VW_0 m hp hc) 4 (vC (m 1) c0 1) (by omega)
  unfold fModel_gets
  rw [ofPatrol_5 hp, Option.bind_some, h5, ofCall_1 hc, Option.bind_some, laysPatrol_4 hp, Option.bind_some, ofCall_5 hc, Option.bind_some, VW_c V1, t5, w3, if_pos rfl]
  cases fModel_tows (p0 : Int) (mP m p0 4 (vC (m 1) c0 1)) <;> rfl
abbrev gM4 (m : MI) (p0 c0 : Nat) (A w : Int) : MI := mP (mC (mC (mP m p0 4 A) c0 8 (p0 : Int)) c0 7 w) p0 10 (vP (m 1) p0 10 + w)
theorem gM4_V {m : MI} {p0 c0 : Nat} (hp : p0 < 6) (hc : c0 < 40) (A w : Int) : VW m (gM4 m p0 c0 A w) p0 c0 (nu (nu (vP (m 1) p0) 4 A) 10 (vP (m 1) p0 10 + w)) (nu (nu (vC (m 1) c0) 8 (p0 : Int)) 7 w) (m 1 10) (m 1 11) (fun k => vM (m 1) k) (fun g => vG (m 1) g) :=
  VW_P (VW_C (VW_C (VW_P (VW_0 m hp hc) 4 A (by omega)) 8 (p0 : Int) (by omega)) 7 w (by omega)) 10 _ (by omega)
theorem gets_m1 {m : MI} {p0 c0 k : Nat} (hp : p0 < 6) (hc : c0 < 40) (hk : k < 20) (h5 : vP (m 1) p0 5 = c0) (t5 : vC (m 1) c0 5 = 1) (t0 : vC (m 1) c0 0 = (k : Int)) (t3 : 0 ≤ vC (m 1) c0 3 ∧ vC (m 1) c0 3 ≤ 290) (w : Int) (hw : w = m 1 0 - vC (m 1) c0 4) (hwb : 0 ≤ w ∧ w ≤ 2880) :
    fModel_gets (p0 : Int) m = if w ≤ vC (m 1) c0 3 then fModel_gets_j134 (p0 : Int) (c0 : Int) (vC (m 1) c0 1) (gM4 m p0 c0 (vC (m 1) c0 1) w) else
      fModel_gets_j134 (p0 : Int) (c0 : Int) (vC (m 1) c0 1) (mS (mM (mM (gM4 m p0 c0 (vC (m 1) c0 1) w) k 1 (vM (m 1) k 1 + -15)) k 3 (vM (m 1) k 3 + 1)) 11 (m 1 11 + 15)) := by
  have V1 := VW_P (VW_0 m hp hc) 4 (vC (m 1) c0 1) (by omega)
  have V2 := VW_C V1 8 (p0 : Int) (by omega)
  have V3 := VW_C V2 7 w (by omega)
  have V4 := gM4_V hp hc (vC (m 1) c0 1) w (m := m)
  unfold gM4 at V4 ⊢
  unfold fModel_gets
  rw [ofPatrol_5 hp, Option.bind_some, h5, ofCall_1 hc, Option.bind_some, laysPatrol_4 hp, Option.bind_some, ofCall_5 hc, Option.bind_some, VW_c V1, t5, w1, if_neg (by omega), ofCall_4 hc, Option.bind_some, VW_c V1, laysCall_8 hc, Option.bind_some, VW_n V1 (by omega : 0 < 10), ← hw, laysCall_7 hc, Option.bind_some, ofPatrol_10 hp, Option.bind_some, VW_p V3, nu_n (by omega : ¬ (10 : Nat) = 4), laysPatrol_10 hp, Option.bind_some, ofCall_3 hc, Option.bind_some, VW_c V4, nu_n (by omega : ¬ (3 : Nat) = 7), nu_n (by omega : ¬ (3 : Nat) = 8), tw (x := vC (m 1) c0 3) (by omega) (by omega), tw (x := w) (by omega) (by omega)]
  by_cases q : w ≤ vC (m 1) c0 3
  · rw [if_pos q, if_pos q]
  · have V5 := VW_M V4 k 1 (vM (m 1) k 1 + -15) hk (by omega)
    have V6 := VW_M V5 k 3 (vM (m 1) k 3 + 1) hk (by omega)
    have x4 := V4.2.2.2.2.2.2.2.2.2.1 k hk
    have x5 := V5.2.2.2.2.2.2.2.2.2.1 k hk
    simp only [if_true] at x5
    rw [if_neg q, if_neg q, ofCall_0 hc, Option.bind_some, VW_c V4, nu_n (by omega : ¬ (0 : Nat) = 7), nu_n (by omega : ¬ (0 : Nat) = 8), t0, addsMember_1 hk, Option.bind_some, x4, ofCall_0 hc, Option.bind_some, VW_c V5, nu_n (by omega : ¬ (0 : Nat) = 7), nu_n (by omega : ¬ (0 : Nat) = 8), t0, addsMember_3 hk, Option.bind_some, x5, nu_n (by omega : ¬ (3 : Nat) = 1), Option.bind_some, V6.2.2.2.2.2.2.2.2.1]
    rfl
theorem gets_j {m m2 : MI} {p c : Nat} {q t : Nat → Int} {a b A : Int} {fM fG : Nat → Nat → Int} (h : VW m m2 p c q t a b fM fG) (h1 : 0 ≤ q 1 ∧ q 1 ≤ 9) (h2 : 0 ≤ q 2 ∧ q 2 ≤ 1) (h0 : 0 ≤ q 0 ∧ q 0 < 12) (ht2 : 0 ≤ t 2 ∧ t 2 ≤ 12) (hA : 0 ≤ A ∧ A < 12) :
    fModel_gets_j134 (p : Int) (c : Int) A m2 = if q 1 < t 2 - 3 then (if q 2 = 1 then (if q 0 / 4 = A / 4 then fModel_tows (p : Int) m2 else fModel_leaves (p : Int) m2) else fModel_leaves (p : Int) m2) else some (mC (mP (mP m2 p 3 2) p 6 (5 * t 2)) c 5 2) := by
  have hp := h.1.1
  have hc := h.1.2
  have L : fModel_gets_j217 (p : Int) m2 = fModel_leaves (p : Int) m2 := by
    unfold fModel_gets_j217
    cases fModel_leaves (p : Int) m2 <;> rfl
  unfold fModel_gets_j134
  rw [ofPatrol_1 hp, Option.bind_some, VW_p h, ofCall_2 hc, Option.bind_some, VW_c h, tw (x := q 1) (by omega) (by omega), tw (x := t 2 - 3) (by omega) (by omega)]
  by_cases sk : q 1 < t 2 - 3
  · rw [if_pos sk, if_pos sk, ofPatrol_2 hp, Option.bind_some, VW_p h, tw (x := q 2) (by omega) (by omega), L]
    by_cases tq : q 2 = 1
    · rw [if_pos tq, if_pos tq, ofPatrol_0 hp, Option.bind_some, VW_p h]
      have e0 : q 0 = (((q 0).toNat : Nat) : Int) := by omega
      have e1 : A = ((A.toNat : Nat) : Int) := by omega
      have g0 := (region_eq (x := (q 0).toNat) (by omega)).1
      have g1 := (region_eq (x := A.toNat) (by omega)).1
      rw [← e0] at g0
      rw [← e1] at g1
      rw [g0, Option.bind_some, g1, Option.bind_some, tw (x := (((q 0).toNat / 4 : Nat) : Int)) (by omega) (by omega), tw (x := ((A.toNat / 4 : Nat) : Int)) (by omega) (by omega)]
      by_cases rg : q 0 / 4 = A / 4
      · rw [if_pos (by omega), if_pos rg]
        cases fModel_tows (p : Int) m2 <;> rfl
      · rw [if_neg (by omega), if_neg rg]
    · rw [if_neg tq, if_neg tq]
  · have V' := VW_P h 3 2 (by omega)
    rw [if_neg sk, if_neg sk, laysPatrol_3 hp, Option.bind_some, ofCall_2 hc, Option.bind_some, VW_c V', laysPatrol_6 hp, Option.bind_some, laysCall_5 hc, Option.bind_some]
