/-! ===== the class's state by its views; the two together ===== -/
def CW (s s' : MI) (p c : Nat) (r u : Nat → Int) (fg : Nat → Nat → Int) : Prop := (p < 6 ∧ c < 40) ∧ s' (10 + p) = r ∧ s' (21 + c) = u ∧ (∀ g, g < 5 → s' (16 + g) = fg g) ∧ ∀ d, d < 16 ∨ 21 ≤ d → ¬ d = 10 + p → ¬ d = 21 + c → s' d = s d
theorem CW_0 (s : MI) {p c : Nat} (hp : p < 6) (hc : c < 40) : CW s s p c (s (10 + p)) (s (21 + c)) (fun g => s (16 + g)) := ⟨⟨hp, hc⟩, rfl, rfl, fun _ _ => rfl, fun _ _ _ _ => rfl⟩
theorem CW_P {s s' : MI} {p c : Nat} {r u : Nat → Int} {fg : Nat → Nat → Int} (h : CW s s' p c r u fg) (w : Nat) (v : Int) : CW s (sm_up s' (10 + p) w v) p c (nu r w v) u fg := by
  obtain ⟨⟨hp, hc⟩, h1, h2, h3, h4⟩ := h
  exact ⟨⟨hp, hc⟩, by rw [up_nu, h1], by rw [up_D (by omega), h2], fun g hg => by rw [up_D (by omega)]; exact h3 g hg, fun d a b c => by rw [up_D b]; exact h4 d a b c⟩
theorem CW_C {s s' : MI} {p c : Nat} {r u : Nat → Int} {fg : Nat → Nat → Int} (h : CW s s' p c r u fg) (w : Nat) (v : Int) : CW s (sm_up s' (21 + c) w v) p c r (nu u w v) fg := by
  obtain ⟨⟨hp, hc⟩, h1, h2, h3, h4⟩ := h
  exact ⟨⟨hp, hc⟩, by rw [up_D (by omega), h1], by rw [up_nu, h2], fun g hg => by rw [up_D (by omega)]; exact h3 g hg, fun d a b c => by rw [up_D c]; exact h4 d a b c⟩
theorem CW_G {s s' : MI} {p c : Nat} {r u : Nat → Int} {fg : Nat → Nat → Int} (h : CW s s' p c r u fg) {g0 : Nat} (hg0 : g0 < 5) (w : Nat) (v : Int) : CW s (sm_up s' (16 + g0) w v) p c r u (fun g => if g = g0 then nu (fg g0) w v else fg g) := by
  obtain ⟨⟨hp, hc⟩, h1, h2, h3, h4⟩ := h
  refine ⟨⟨hp, hc⟩, by rw [up_D (by omega), h1], by rw [up_D (by omega), h2], fun g hg => ?_, fun d a b c => by rw [up_D (by omega)]; exact h4 d a b c⟩
  show sm_up s' (16 + g0) w v (16 + g) = if g = g0 then nu (fg g0) w v else fg g
  by_cases e : g = g0
  · rw [if_pos e, e, up_nu, h3 g0 hg0]
  · rw [if_neg e, up_D (by omega)]
    exact h3 g hg
theorem CW_free {s s' : MI} {p c : Nat} {r u : Nat → Int} {fg : Nat → Nat → Int} (h : CW s s' p c r u fg) : ∃ P, fPatrol_becomeFree (sm_lo (10 + p) s') = some P ∧ CW s (sm_gl (10 + p) 1 P s') p c (frC r) u fg := by
  obtain ⟨⟨hp, hc⟩, h1, h2, h3, h4⟩ := h
  obtain ⟨P, e, e2⟩ := free_c (10 + p) s'
  refine ⟨P, e, ⟨hp, hc⟩, by rw [gl_self, e2, h1], by rw [gl_oth _ _ (by omega), h2], fun g hg => by rw [gl_oth _ _ (by omega)]; exact h3 g hg, fun d a b c => by rw [gl_oth _ _ b]; exact h4 d a b c⟩
theorem CW_end {s s' : MI} {p c : Nat} {r u : Nat → Int} {fg : Nat → Nat → Int} (h : CW s s' p c r u fg) (x y : Int) : ∃ P, fBreakdown_end x y (sm_lo (21 + c) s') = some P ∧ CW s (sm_gl (21 + c) 1 P s') p c r (nu (nu u 5 x) 8 y) fg := by
  obtain ⟨⟨hp, hc⟩, h1, h2, h3, h4⟩ := h
  obtain ⟨P, e, e2⟩ := end_c (21 + c) x y s'
  refine ⟨P, e, ⟨hp, hc⟩, by rw [gl_oth _ _ (by omega), h1], by rw [gl_self, e2, h2], fun g hg => by rw [gl_oth _ _ (by omega)]; exact h3 g hg, fun d a b c => by rw [gl_oth _ _ c]; exact h4 d a b c⟩
theorem CW_p {s s' : MI} {p c : Nat} {r u : Nat → Int} {fg : Nat → Nat → Int} (h : CW s s' p c r u fg) : s' (10 + p) = r := h.2.1
theorem CW_c {s s' : MI} {p c : Nat} {r u : Nat → Int} {fg : Nat → Nat → Int} (h : CW s s' p c r u fg) : s' (21 + c) = u := h.2.2.1
theorem CW_g {s s' : MI} {p c : Nat} {r u : Nat → Int} {fg : Nat → Nat → Int} (h : CW s s' p c r u fg) {g : Nat} (hg : g < 5) : s' (16 + g) = fg g := h.2.2.2.1 g hg
theorem CW_d {s s' : MI} {p c : Nat} {r u : Nat → Int} {fg : Nat → Nat → Int} (h : CW s s' p c r u fg) {d : Nat} (hd : d < 10) : s' d = s d := h.2.2.2.2 d (by omega) (by omega) (by omega)
/-- the class's tow begins, or its call is left -/
theorem startTow_no {s s' : MI} {p c A : Nat} {r u : Nat → Int} {fg : Nat → Nat → Int} (h : CW s s' p c r u fg) (u1 : u 1 = (A : Int)) (hz : fWork_nearestGarage (A : Int) s' = some (-5)) : ∃ s2, fWork_startTow (10 + p) (21 + c) s' = some s2 ∧ CW s s2 p c (frC r) (nu u 5 3) fg := by
  obtain ⟨P, e, hv⟩ := CW_free (CW_C h 5 3)
  have i0 : fState_isGarage (-5) s' = some 0 := by
    unfold fState_isGarage
    rw [wm5, if_pos (by omega)]
  unfold fWork_startTow
  rw [CW_c h, u1, hz, Option.bind_some, i0, Option.bind_some, w0, if_pos rfl, Option.bind_some, e, Option.bind_some, Option.bind_some]
  exact ⟨_, rfl, hv⟩
theorem isGarage_1 {s : MI} {g : Nat} (h8 : (g : Int) < s 0 6) (h5 : s 0 6 ≤ 5) : fState_isGarage (g : Int) s = some 1 := by
  unfold fState_isGarage
  rw [tw (x := (g : Int)) (by omega) (by omega), tw (x := s 0 6) (by omega) (by omega), if_neg (by omega), if_neg (by omega), if_neg (by omega)]
theorem startTow_yes {s s' : MI} {p c A g e : Nat} {r u : Nat → Int} {fg : Nat → Nat → Int} {D : Int} (h : CW s s' p c r u fg) (u1 : u 1 = (A : Int)) (hz : fWork_nearestGarage (A : Int) s' = some (g : Int)) (h8 : (g : Int) < s 0 6) (h5 : s 0 6 ≤ 5)
    (hT : ∀ S : MI, S 2 = s' 2 → S 3 = s' 3 → fWork_endOfTow (A : Int) (fg g 0) (sm_lo 1 S) = some (e : Int) ∧ fMap_between (A : Int) (e : Int) (sm_lo 1 S) = some D) (hD : 0 ≤ D ∧ D ≤ 660) :
    ∃ s2, fWork_startTow (10 + p) (21 + c) s' = some s2 ∧ CW s s2 p c (nu (nu (nu (nu r 3 3) 8 (g : Int)) 7 (e : Int)) 6 (if D = 0 then 1 else 2 * D)) (nu u 5 4) (fun k => if k = g then nu (fg g) 3 (fg g 3 + 1) else fg k) := by
  have hp := h.1.1
  have hc := h.1.2
  have g5 : g < 5 := by omega
  have c0 : s' 0 = s 0 := CW_d h (by omega)
  have wg : sm_w (g : Int) = g := tw (by omega) (by omega)
  unfold fWork_startTow
  rw [CW_c h, u1, hz, Option.bind_some, isGarage_1 (by rw [c0]; exact h8) (by rw [c0]; exact h5), Option.bind_some, w1, if_neg (by omega), wg, if_pos (by omega), show ((g : Int)).toNat = g by omega, CW_g h g5]
  have V1 := CW_G h g5 3 (fg g 3 + 1)
  have V2 := CW_C V1 5 4
  have V3 := CW_P V2 3 3
  have V4 := CW_P V3 8 (g : Int)
  rw [Option.bind_some, Option.bind_some, Option.bind_some, Option.bind_some]
  obtain ⟨T1, _⟩ := hT _ ((CW_d V4 (by omega : 2 < 10)).trans (CW_d h (by omega)).symm) ((CW_d V4 (by omega : 3 < 10)).trans (CW_d h (by omega)).symm)
  rw [CW_c V4, CW_g V4 g5, nu_n (by omega : ¬ (1 : Nat) = 5), u1, if_pos rfl, nu_n (by omega : ¬ (0 : Nat) = 3), T1, Option.bind_some, Option.bind_some]
  have V5 := CW_P V4 7 (e : Int)
  obtain ⟨_, T2⟩ := hT _ ((CW_d V5 (by omega : 2 < 10)).trans (CW_d h (by omega)).symm) ((CW_d V5 (by omega : 3 < 10)).trans (CW_d h (by omega)).symm)
  rw [CW_c V5, CW_p V5, nu_n (by omega : ¬ (1 : Nat) = 5), u1, nu_s, T2, Option.bind_some, Option.bind_some]
  have V6 := CW_P V5 6 (if D = 0 then 1 else 2 * D)
  have em : sm_max 1 (2 * D) = if D = 0 then 1 else 2 * D := by
    unfold sm_max
    rw [w1, tw (x := 2 * D) (by omega) (by omega)]
    by_cases z : D = 0
    · rw [if_pos z, if_neg (by omega)]
    · rw [if_neg z, if_pos (by omega)]
  rw [em]
  exact ⟨_, rfl, V6⟩
theorem wk_V {s s' m m' : MI} {p c : Nat} {q t r u : Nat → Int} {a b : Int} {fM fG fg : Nat → Nat → Int} (V : VW m m' p c q t a b fM fG) (C : CW s s' p c r u fg) (h : wk s m) : wk s' m' := by
  obtain ⟨h1, h2, h3⟩ := h
  have hr : rd (m' 1) = rd (m 1) := rd_nu (VW_n V (by omega)) h3.2.1 V.2.2.2.2.1
  refine ⟨?_, ?_, rOK_nu (VW_n V (by omega)) V.2.2.2.2.1 h3⟩
  · unfold mR
    rw [CW_d C (by omega), CW_d C (by omega), hr]
    exact h1
  · unfold wOK
    rw [hr, V.2.1 6 (by omega), V.2.1 7 (by omega)]
    exact h2
theorem GA_V {s s' m m' : MI} {p c : Nat} {q t r u : Nat → Int} {a b : Int} {fM : Nat → Nat → Int} (V : VW m m' p c q t a b fM (fun g => vG (m 1) g)) (C : CW s s' p c r u (fun g => s (16 + g))) (h : GA s (m 1)) (e3 : q 3 = vP (m 1) p 3) (e13 : q 13 = vP (m 1) p 13) : GA s' (m' 1) := by
  refine GA_same h (VW_n V (by omega)) (VW_n V (by omega)) (fun k hk => ?_) (fun g hg => V.2.2.2.2.2.2.2.2.2.2 g hg) (by rw [CW_d C (by omega)]) (fun g hg => CW_g C hg)
  by_cases z : k = p
  · subst z
    rw [VW_p V]
    exact ⟨e3, e13⟩
  · rw [V.2.2.2.2.2.1 k hk, if_neg z]
    exact ⟨rfl, rfl⟩
theorem RS_fin {s s' m m' : MI} {p0 c0 : Nat} {q' t' r' u' : Nat → Int} {a b pd lt : Int} {fM fG fg : Nat → Nat → Int} (h : RSx p0 s (m 1)) (hp0 : (p0 : Int) < m 1 7) (hc0 : (c0 : Int) < m 1 9)
    (hl : (vP (m 1) p0 5 = c0 ∧ vC (m 1) c0 6 = p0) ∨ (vP (m 1) p0 5 = -5 ∧ vC (m 1) c0 6 = -5))
    (V : VW m m' p0 c0 q' t' a b fM fG) (C : CW s s' p0 c0 r' u' fg)
    (hM : ∀ k, k < 20 → fM k 0 = vM (m 1) k 0 ∧ fM k 2 = vM (m 1) k 2 ∧ fM k 1 = vM (m 1) k 1 + (if vC (m 1) c0 0 = (k : Int) then pd - 15 * lt else 0) ∧ fM k 3 = vM (m 1) k 3 + if vC (m 1) c0 0 = (k : Int) then lt else 0)
    (h10 : a = m 1 10 + pd) (h11 : b = m 1 11 + 15 * lt) (epd : paid (tierC (m 1) c0) t' = paid (tierC (m 1) c0) (vC (m 1) c0) + pd) (elt : late t' = late (vC (m 1) c0) + lt)
    (t0 : t' 0 = vC (m 1) c0 0) (t10 : t' 10 = vC (m 1) c0 10)
    (hG : ∀ g : Nat, (g : Int) < m 1 8 → fG g 0 = vG (m 1) g 0 ∧ fG g 1 = vG (m 1) g 1 ∧ 0 ≤ fG g 2 ∧ fG g 2 + (uw (m 1) g + tI q' g - tI (vP (m 1) p0) g) ≤ vG (m 1) g 1)
    (hc : cI (m 1 6) (m 1 7) (m 1 0) t') (hk : (q' 5 = c0 ∧ t' 6 = p0 ∧ lkP q' t') ∨ (q' 5 = -5 ∧ t' 6 = -5)) (sp : pR r' q') (sc : cR u' t')
    (sg : ∀ g : Nat, (g : Int) < m 1 8 → fg g 0 = s (16 + g) 0 ∧ fg g 1 = s (16 + g) 1 ∧ fg g 2 = fG g 2 ∧ fg g 3 = s (16 + g) 3 + tI q' g - tI (vP (m 1) p0) g ∧ fg g 4 = fG g 3)
    (hGz : ∀ g : Nat, g < 5 → m 1 8 ≤ (g : Int) → fG g = vG (m 1) g := by exact fun _ _ _ => rfl) : RSx p0 s' (m' 1) := by
  obtain ⟨⟨v1, v2⟩, vd, v10, v12, vr, vPq, vCq, va, vb, vMq, vGq⟩ := V
  obtain ⟨_, c1, c2, c3, c4⟩ := C
  have b8 : m 1 8 ≤ 5 := by
    obtain ⟨_, _, _, _, _, _, b1, _⟩ := h
    obtain ⟨S0, S1, S2, S6, S7, S8, S9⟩ := b1
    omega
  refine RS_chg h hp0 hc0 hl v10 v12 vr vPq vCq (fun k hk' => ?_) (va.trans h10) (vb.trans h11) epd elt t0 t10 (fun g hg => ?_) hc hk c4 (by rw [c1]; exact sp) (by rw [c2]; exact sc) (fun g hg => ?_) (fun g hg h8 => by rw [vGq g hg]; exact hGz g hg h8)
  · rw [vMq k hk']
    exact hM k hk'
  · rw [vGq g (by omega)]
    exact hG g hg
  · rw [c3 g (by omega), vGq g (by omega)]
    exact sg g hg
