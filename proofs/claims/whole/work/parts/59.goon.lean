/-! ===== a minute of every busy patrol ===== -/
theorem k_minI0 {nc ng y : Int} {q : Nat → Int} (h : pI nc ng q) (hb : 1 ≤ q 3 ∧ q 3 ≤ 3) (hl : 1 < q 6) : pI nc ng (nu (nu q 6 (q 6 - 1)) 11 y) := by
  unfold pI at h ⊢
  simp only [nu] at h ⊢
  simp at h ⊢
  omega
abbrev dn (N : Nat → Int) : Int := d5 N 5 + d5 N 6
def same (m m' : MI) : Prop := (∀ d, ¬ d = 1 → m' d = m d) ∧ ∀ i, i < 10 → m' 1 i = m 1 i
theorem goOn_eq {s m : MI} {p0 : Nat} (h : RS s (m 1)) (hw : wk s m) (hp0 : (p0 : Int) < m 1 7) (hb : 1 ≤ vP (m 1) p0 3 ∧ vP (m 1) p0 3 ≤ 3) :
    ∃ s' m' k, fWork_goOn (p0 : Int) s = some (k, s') ∧ fModel_passes_l2 (p0 : Int) m = some (.inl ((p0 : Int) + 1, m')) ∧ RS s' (m' 1) ∧ wk s' m' ∧ same m m' ∧ (0 ≤ k ∧ k ≤ 1) ∧ dn (m' 1) = dn (m 1) + k := by
  have H := h
  obtain ⟨c0, hc0, h5, h6, hlk, l6, l7⟩ := busy_of h hp0 hb
  obtain ⟨a1, a2, a3, a4, a5, a6, b1, b2, b3, b4, b5, b6, b7, b8⟩ := h
  obtain ⟨S0, S1, S2, S6, S7, S8, S9⟩ := b1
  have hp : p0 < 6 := by omega
  have hc : c0 < 40 := by omega
  have hR := a4 p0 hp0
  have n0 : s 0 11 = m 1 0 := a1.2.2.2.2.2.1
  have n8 : s 0 8 = m 1 9 := a1.2.2.2.1
  have R5 : s (10 + p0) 5 = c0 := by rw [hR.1.2.2.2.2.2.1]; exact h5
  have R3 : s (10 + p0) 3 = vP (m 1) p0 3 := hR.1.2.2.2.1
  have R6 : s (10 + p0) 6 = vP (m 1) p0 6 := hR.1.2.2.2.2.2.2
  have eC := goOn_c hp hc R5 (by omega) (by omega) (by omega) (s := s)
  have eM := passes_m hp ⟨hp0, S7.2⟩ hb ⟨l6, l7⟩
  rw [R6, R3, n0] at eC
  obtain ⟨hx, hw1⟩ := min_x H hw hp0 hc0 hp hc h5 h6 hlk
  have V := VW_P (VW_P (VW_0 m hp hc) 6 (vP (m 1) p0 6 - 1) (by omega)) 11 (vP (m 1) p0 11 + 1) (by omega)
  have F := FR_V V
  have vp := VW_p V
  have vc := VW_c V
  have hpI := b4 p0 hp0
  have N7 : mnM m p0 1 7 = m 1 7 := VW_n V (by omega)
  have N8 : mnM m p0 1 8 = m 1 8 := VW_n V (by omega)
  have N9 : mnM m p0 1 9 = m 1 9 := VW_n V (by omega)
  have N0 : mnM m p0 1 0 = m 1 0 := VW_n V (by omega)
  have A : ATW (mnS s p0) (mnM m p0) p0 c0 := ⟨hx, hw1, by rw [N7]; exact hp0, by rw [N9]; exact hc0, by rw [vp, N9, N8]; exact k_minI hpI hb (by omega), by rw [vp, nu_n (by omega), nu_n (by omega)]; exact h5⟩
  have q3 : vP (mnM m p0 1) p0 3 = vP (m 1) p0 3 := by rw [vp, nu_n (by omega), nu_n (by omega)]
  by_cases q : 1 < vP (m 1) p0 6
  · rw [if_pos q] at eC eM
    refine ⟨mnS s p0, mnM m p0, 0, eC, eM, RS_ofx hx ?_, hw1, ⟨F.1, F.2.1⟩, by omega, ?_⟩
    · rw [vp, N9, N8]
      exact k_minI0 hpI hb q
    · show d5 _ 5 + d5 _ 6 = d5 _ 5 + d5 _ 6 + 0
      rw [d5_fr F hc0 S9.2, d5_fr F hc0 S9.2, vc]
      omega
  · rw [if_neg q] at eC eM
    have fin : ∀ (s' m' : MI) (k : Int), FR (mnM m p0) m' p0 c0 → (0 ≤ k ∧ k ≤ 1) → (if vC (m' 1) c0 5 = 5 then 1 else 0) + (if vC (m' 1) c0 5 = 6 then 1 else 0) = k → ¬ vC (mnM m p0 1) c0 5 = 5 → ¬ vC (mnM m p0 1) c0 5 = 6 → same m m' ∧ (0 ≤ k ∧ k ≤ 1) ∧ dn (m' 1) = dn (m 1) + k := fun s' m' k FF hk he n5 n6 => by
      refine ⟨⟨fun d e => (FF.1 d e).trans (F.1 d e), fun i e => (FF.2.1 i e).trans (F.2.1 i e)⟩, hk, ?_⟩
      show d5 _ 5 + d5 _ 6 = d5 _ 5 + d5 _ 6 + k
      have FT := FR_trans F FF
      rw [vc] at n5 n6
      rw [d5_fr FT hc0 S9.2, d5_fr FT hc0 S9.2, if_neg n5, if_neg n6]
      omega
    by_cases q1 : vP (m 1) p0 3 = 1
    · rw [if_pos q1] at eC eM
      obtain ⟨s', m', x1, x2, x3, x4, x5, x6, x7⟩ := arrive_eq A.1 A.2.1 A.2.2.1 A.2.2.2.1 A.2.2.2.2.1 A.2.2.2.2.2 (q3.trans q1)
      rw [x1, Option.bind_some] at eC
      rw [x2, Option.bind_some] at eM
      obtain ⟨y1, y2, y3⟩ := fin s' m' 0 x5 (by omega) (by rw [if_neg (by omega), if_neg (by omega)]; rfl) (by omega) (by omega)
      exact ⟨s', m', 0, eC, eM, x3, x4, y1, y2, y3⟩
    · rw [if_neg q1] at eC eM
      by_cases q3' : vP (m 1) p0 3 = 3
      · rw [if_pos q3'] at eC eM
        obtain ⟨s', m', k, x1, x2, x3, x4, x5, x6, x7⟩ := towed_eq A (q3.trans q3')
        rw [x1] at eC
        rw [x2, Option.bind_some] at eM
        obtain ⟨y1, y2, y3⟩ := fin s' m' k x5 (by omega) (by
          rcases x6 with ⟨e1, e2⟩ | ⟨e1, e2⟩
          · rw [e2, e1]; rfl
          · rw [e2, e1]; rfl) (by omega) (by omega)
        exact ⟨s', m', k, eC, eM, x3, x4, y1, y2, y3⟩
      · rw [if_neg q3'] at eC eM
        obtain ⟨s', m', x1, x2, x3, x4, x5, x6, x7⟩ := repaired_eq A (q3.trans (by omega)) (m 1 0) N0.symm
        rw [x1] at eC
        rw [x2, Option.bind_some] at eM
        obtain ⟨y1, y2, y3⟩ := fin s' m' 1 x5 (by omega) (by rw [x6]; rfl) (by omega) (by omega)
        exact ⟨s', m', 1, eC, eM, x3, x4, y1, y2, y3⟩
/-- the loops over the patrols -/
theorem same_trans {m m1 m2 : MI} (h : same m m1) (h2 : same m1 m2) : same m m2 := ⟨fun d e => (h2.1 d e).trans (h.1 d e), fun i e => (h2.2 i e).trans (h.2 i e)⟩
theorem isBusy_c {s : MI} {d : Nat} (h : 0 ≤ s d 3 ∧ s d 3 ≤ 4) : fPatrol_isBusy (sm_lo d s) = some (if 1 ≤ s d 3 ∧ s d 3 ≤ 3 then 1 else 0) := by
  unfold fPatrol_isBusy fPatrol_isBusy_j24
  rw [lo_at, Nat.add_zero, tw (x := s d 3) (by omega) (by omega)]
  by_cases a : s d 3 = 1
  · rw [if_pos a, if_pos (by omega)]
  · rw [if_neg a]
    by_cases b : s d 3 = 2
    · rw [if_pos b, if_pos (by omega)]
    · rw [if_neg b]
      by_cases c : s d 3 = 3
      · rw [if_pos c, if_pos (by omega)]
      · rw [if_neg c, if_neg (by omega)]
theorem patrols_eq {s m : MI} (h : RS s (m 1)) (hw : wk s m) : ∃ k s' m', sl_it (fun (t : Int × Int × MI) => fWork_passMinute_l4 t.1 t.2.1 t.2.2) sl_fu (0, 0, s) = some (k, s') ∧ sl_it (fun (t : Int × MI) => fModel_passes_l2 t.1 t.2) sl_fu (0, m) = some m' ∧ RS s' (m' 1) ∧ wk s' m' ∧ same m m' ∧ (0 ≤ k ∧ k ≤ 6) ∧ dn (m' 1) = dn (m 1) + k := by
  have S7 := h.2.2.2.2.2.2.1.2.2.2.2.1
  obtain ⟨⟨k, s'⟩, m', e1, e2, q1, q2, q3, q4, q5⟩ := it_two (f := fun (t : Int × Int × MI) => fWork_passMinute_l4 t.1 t.2.1 t.2.2) (g := fun (t : Int × MI) => fModel_passes_l2 t.1 t.2)
    (fun t u => ∃ i : Nat, t.2.1 = (i : Int) ∧ u.1 = (i : Int) ∧ (i : Int) ≤ m 1 7 ∧ RS t.2.2 (u.2 1) ∧ wk t.2.2 u.2 ∧ same m u.2 ∧ (0 ≤ t.1 ∧ t.1 ≤ (i : Int)) ∧ dn (u.2 1) = dn (m 1) + t.1)
    (fun y z => RS y.2 (z 1) ∧ wk y.2 z ∧ same m z ∧ (0 ≤ y.1 ∧ y.1 ≤ 6) ∧ dn (z 1) = dn (m 1) + y.1) (fun t => (6 - t.2.1).toNat) (fun t u hR => by
    obtain ⟨k, i0, s1⟩ := t
    obtain ⟨i1, m1⟩ := u
    obtain ⟨i, h1, h2, h3, h4, h5, h6, h7, h8⟩ := hR
    dsimp only at h1 h2 h4 h5 h6 h7 h8 ⊢
    subst h1
    subst h2
    have n7 : m1 1 7 = m 1 7 := h6.2 7 (by omega)
    have c4 : s1 0 4 = m 1 7 := by rw [← n7]; exact h4.1.2.1
    have wi : sm_w (i : Int) = i := tw (by omega) (by omega)
    have w7 : sm_w (m 1 7) = m 1 7 := tw (by omega) (by omega)
    by_cases z : m 1 7 ≤ (i : Int)
    · right
      refine ⟨(k, s1), m1, ?_, ?_, h4, h5, h6, ⟨h7.1, by show k ≤ 6; omega⟩, h8⟩
      · unfold fWork_passMinute_l4
        rw [wi, c4, w7, if_pos z]
      · unfold fModel_passes_l2
        rw [wi, n7, w7, if_pos z]
    · left
      have hi : (i : Int) < m1 1 7 := by omega
      have hR := h4.2.2.2.1 i hi
      have hp := h4.2.2.2.2.2.2.2.2.2.1 i hi
      have p3 : 0 ≤ vP (m1 1) i 3 ∧ vP (m1 1) i 3 ≤ 4 := by
        obtain ⟨_, _, _, _, i5, _⟩ := hp
        rcases i5 with ⟨x, _⟩ | ⟨x, _⟩ <;> omega
      have r3 : s1 (10 + i) 3 = vP (m1 1) i 3 := hR.1.2.2.2.1
      have hC : ∀ k : Int, fWork_passMinute_l4 k (i : Int) s1 = if 1 ≤ vP (m1 1) i 3 ∧ vP (m1 1) i 3 ≤ 3 then Option.bind (fWork_goOn (i : Int) s1) (fun p6 => some (.inl (k + p6.1, (i : Int) + 1, p6.2))) else some (.inl (k, (i : Int) + 1, s1)) := fun k => by
        unfold fWork_passMinute_l4 fWork_passMinute_j38_l4
        rw [wi, c4, w7, if_neg z, if_neg (by omega), if_pos (by omega), show ((i : Int)).toNat = i by omega, isBusy_c (by omega), Option.bind_some, r3]
        by_cases y : 1 ≤ vP (m1 1) i 3 ∧ vP (m1 1) i 3 ≤ 3
        · rw [if_pos y, if_pos y, w1, if_neg (by omega)]
        · rw [if_neg y, if_neg y, w0, if_pos rfl]
      rw [hC]
      by_cases y : 1 ≤ vP (m1 1) i 3 ∧ vP (m1 1) i 3 ≤ 3
      · rw [if_pos y]
        obtain ⟨s2, m2, k2, x1, x2, x3, x4, x5, x6, x7⟩ := goOn_eq h4 h5 hi y
        rw [x1, Option.bind_some, x2]
        exact ⟨_, _, rfl, rfl, ⟨i + 1, by push_cast; rfl, by push_cast; rfl, by push_cast; omega, x3, x4, same_trans h6 x5, by dsimp only; push_cast; omega, by dsimp only; omega⟩, by dsimp only; omega⟩
      · rw [if_neg y]
        have hin : fModel_in (vP (m1 1) i 3) 1 3 = some 0 := by
          unfold fModel_in
          rw [w1, w3, tw (x := vP (m1 1) i 3) (by omega) (by omega)]
          by_cases x : vP (m1 1) i 3 < 1
          · rw [if_pos x]
          · rw [if_neg x, if_pos (by omega)]
        refine ⟨_, ((i : Int) + 1, m1), rfl, ?_, ⟨i + 1, by push_cast; rfl, by push_cast; rfl, by push_cast; omega, h4, h5, h6, by dsimp only; push_cast; omega, h8⟩, by dsimp only; omega⟩
        unfold fModel_passes_l2 fModel_passes_j102_l2
        rw [wi, n7, w7, if_neg z, ofPatrol_3 (by omega), Option.bind_some, hin, Option.bind_some, w0, if_pos rfl]) sl_fu (0, 0, s) (0, m) ⟨0, rfl, rfl, by omega, h, hw, ⟨fun _ _ => rfl, fun _ _ => rfl⟩, ⟨by omega, by omega⟩, by dsimp only; omega⟩ (by show (6 - (0 : Int)).toNat < 5000; omega)
  exact ⟨k, s', m', e1, e2, q1, q2, q3, q4, q5⟩
