/-! ===== the model's row by its views, kept through its writes ===== -/
def VW (m m' : MI) (p c : Nat) (q t : Nat → Int) (a b : Int) (fM fG : Nat → Nat → Int) : Prop := (p < 6 ∧ c < 40) ∧ (∀ d, ¬ d = 1 → m' d = m d) ∧ (∀ i, i < 10 → m' 1 i = m 1 i) ∧ m' 1 12 = m 1 12 ∧ (∀ i, 16 ≤ i → i < 106 → m' 1 i = m 1 i) ∧
  (∀ p', p' < 6 → vP (m' 1) p' = if p' = p then q else vP (m 1) p') ∧ (∀ c', c' < 40 → vC (m' 1) c' = if c' = c then t else vC (m 1) c') ∧ m' 1 10 = a ∧ m' 1 11 = b ∧ (∀ k, k < 20 → vM (m' 1) k = fM k) ∧ ∀ g, g < 5 → vG (m' 1) g = fG g
theorem VW_0 (m : MI) {p c : Nat} (hp : p < 6) (hc : c < 40) : VW m m p c (vP (m 1) p) (vC (m 1) c) (m 1 10) (m 1 11) (fun k => vM (m 1) k) (fun g => vG (m 1) g) := by
  refine ⟨⟨hp, hc⟩, fun _ _ => rfl, fun _ _ => rfl, rfl, fun _ _ _ => rfl, fun p' _ => ?_, fun c' _ => ?_, rfl, rfl, fun _ _ => rfl, fun _ _ => rfl⟩
  · by_cases e : p' = p
    · rw [if_pos e, e]
    · rw [if_neg e]
  · by_cases e : c' = c
    · rw [if_pos e, e]
    · rw [if_neg e]
theorem VW_P {m m' : MI} {p c : Nat} {q t : Nat → Int} {a b : Int} {fM fG : Nat → Nat → Int} (h : VW m m' p c q t a b fM fG) (w : Nat) (v : Int) (hw : w < 14) : VW m (mP m' p w v) p c (nu q w v) t a b fM fG := by
  obtain ⟨⟨hp, hc⟩, hd, h10, h12, hr, hP, hC, ha, hb, hM, hG⟩ := h
  refine ⟨⟨hp, hc⟩, fun d e => (mP_D e).trans (hd d e), fun i e => (n_mP (by omega)).trans (h10 i e), (n_mP (by omega)).trans h12, fun i e1 e2 => (n_mP (by omega)).trans (hr i e1 e2), fun p' e => ?_, fun c' e => ?_, (n_mP (by omega)).trans ha, (n_mP (by omega)).trans hb, fun k e => ?_, fun g e => ?_⟩
  · rw [vP_mP hw, hP p hp, if_pos rfl, hP p' e]
    by_cases z : p' = p
    · rw [if_pos z, if_pos z]
    · rw [if_neg z, if_neg z, if_neg z]
  · rw [vC_mP hp e hw]
    exact hC c' e
  · rw [vM_mP hp e hw]
    exact hM k e
  · rw [vG_mP hp e hw]
    exact hG g e
theorem VW_C {m m' : MI} {p c : Nat} {q t : Nat → Int} {a b : Int} {fM fG : Nat → Nat → Int} (h : VW m m' p c q t a b fM fG) (w : Nat) (v : Int) (hw : w < 13) : VW m (mC m' c w v) p c q (nu t w v) a b fM fG := by
  obtain ⟨⟨hp, hc⟩, hd, h10, h12, hr, hP, hC, ha, hb, hM, hG⟩ := h
  refine ⟨⟨hp, hc⟩, fun d e => (mC_D e).trans (hd d e), fun i e => (n_mC (by omega)).trans (h10 i e), (n_mC (by omega)).trans h12, fun i e1 e2 => (n_mC (by omega)).trans (hr i e1 e2), fun p' e => ?_, fun c' e => ?_, (n_mC (by omega)).trans ha, (n_mC (by omega)).trans hb, fun k e => ?_, fun g e => ?_⟩
  · rw [vP_mC hc e hw]
    exact hP p' e
  · rw [vC_mC hw, hC c hc, if_pos rfl, hC c' e]
    by_cases z : c' = c
    · rw [if_pos z, if_pos z]
    · rw [if_neg z, if_neg z, if_neg z]
  · rw [vM_mC hc e hw]
    exact hM k e
  · rw [vG_mC hc e hw]
    exact hG g e
theorem VW_M {m m' : MI} {p c : Nat} {q t : Nat → Int} {a b : Int} {fM fG : Nat → Nat → Int} (h : VW m m' p c q t a b fM fG) (k0 w : Nat) (v : Int) (hk : k0 < 20) (hw : w < 4) : VW m (mM m' k0 w v) p c q t a b (fun k => if k = k0 then nu (fM k0) w v else fM k) fG := by
  obtain ⟨⟨hp, hc⟩, hd, h10, h12, hr, hP, hC, ha, hb, hM, hG⟩ := h
  refine ⟨⟨hp, hc⟩, fun d e => (mM_D e).trans (hd d e), fun i e => (n_mM (by omega)).trans (h10 i e), (n_mM (by omega)).trans h12, fun i e1 e2 => (n_mM (by omega)).trans (hr i e1 e2), fun p' e => ?_, fun c' e => ?_, (n_mM (by omega)).trans ha, (n_mM (by omega)).trans hb, fun k e => ?_, fun g e => ?_⟩
  · rw [vP_mM hk e hw]
    exact hP p' e
  · rw [vC_mM hk e hw]
    exact hC c' e
  · rw [vM_mM hw, hM k0 hk, hM k e]
  · rw [vG_mM hk e hw]
    exact hG g e
theorem VW_G {m m' : MI} {p c : Nat} {q t : Nat → Int} {a b : Int} {fM fG : Nat → Nat → Int} (h : VW m m' p c q t a b fM fG) (k0 w : Nat) (v : Int) (hk : k0 < 5) (hw : w < 4) : VW m (mG m' k0 w v) p c q t a b fM (fun k => if k = k0 then nu (fG k0) w v else fG k) := by
  obtain ⟨⟨hp, hc⟩, hd, h10, h12, hr, hP, hC, ha, hb, hM, hG⟩ := h
  refine ⟨⟨hp, hc⟩, fun d e => (mG_D e).trans (hd d e), fun i e => (n_mG (by omega)).trans (h10 i e), (n_mG (by omega)).trans h12, fun i e1 e2 => (n_mG (by omega)).trans (hr i e1 e2), fun p' e => ?_, fun c' e => ?_, (n_mG (by omega)).trans ha, (n_mG (by omega)).trans hb, fun k e => ?_, fun g e => ?_⟩
  · rw [vP_mG hk e hw]
    exact hP p' e
  · rw [vC_mG hk e hw]
    exact hC c' e
  · rw [vM_mG hk e hw]
    exact hM k e
  · rw [vG_mG hw, hG k0 hk, hG g e]
theorem VW_S10 {m m' : MI} {p c : Nat} {q t : Nat → Int} {a b : Int} {fM fG : Nat → Nat → Int} (h : VW m m' p c q t a b fM fG) (v : Int) : VW m (mS m' 10 v) p c q t v b fM fG := by
  obtain ⟨⟨hp, hc⟩, hd, h10, h12, hr, hP, hC, ha, hb, hM, hG⟩ := h
  exact ⟨⟨hp, hc⟩, fun d e => (mS_D e).trans (hd d e), fun i e => (n_mS (by omega)).trans (h10 i e), (n_mS (by omega)).trans h12, fun i e1 e2 => (n_mS (by omega)).trans (hr i e1 e2), fun p' e => (vP_mS (by omega)).trans (hP p' e), fun c' e => (vC_mS (by omega)).trans (hC c' e), s_mS _ _ _, (n_mS (by omega)).trans hb, fun k e => (vM_mS (by omega)).trans (hM k e), fun g e => (vG_mS (by omega)).trans (hG g e)⟩
theorem VW_S11 {m m' : MI} {p c : Nat} {q t : Nat → Int} {a b : Int} {fM fG : Nat → Nat → Int} (h : VW m m' p c q t a b fM fG) (v : Int) : VW m (mS m' 11 v) p c q t a v fM fG := by
  obtain ⟨⟨hp, hc⟩, hd, h10, h12, hr, hP, hC, ha, hb, hM, hG⟩ := h
  exact ⟨⟨hp, hc⟩, fun d e => (mS_D e).trans (hd d e), fun i e => (n_mS (by omega)).trans (h10 i e), (n_mS (by omega)).trans h12, fun i e1 e2 => (n_mS (by omega)).trans (hr i e1 e2), fun p' e => (vP_mS (by omega)).trans (hP p' e), fun c' e => (vC_mS (by omega)).trans (hC c' e), (n_mS (by omega)).trans ha, s_mS _ _ _, fun k e => (vM_mS (by omega)).trans (hM k e), fun g e => (vG_mS (by omega)).trans (hG g e)⟩
theorem VW_p {m m' : MI} {p c : Nat} {q t : Nat → Int} {a b : Int} {fM fG : Nat → Nat → Int} (h : VW m m' p c q t a b fM fG) : vP (m' 1) p = q := by rw [h.2.2.2.2.2.1 p h.1.1, if_pos rfl]
theorem VW_c {m m' : MI} {p c : Nat} {q t : Nat → Int} {a b : Int} {fM fG : Nat → Nat → Int} (h : VW m m' p c q t a b fM fG) : vC (m' 1) c = t := by rw [h.2.2.2.2.2.2.1 c h.1.2, if_pos rfl]
theorem VW_n {m m' : MI} {p c : Nat} {q t : Nat → Int} {a b : Int} {fM fG : Nat → Nat → Int} (h : VW m m' p c q t a b fM fG) {i : Nat} (hi : i < 10) : m' 1 i = m 1 i := h.2.2.1 i hi
def frM (q : Nat → Int) : Nat → Int := nu (nu (nu q 3 0) 5 (-5)) 6 (-5)
def frC (q : Nat → Int) : Nat → Int := nu (nu (nu (nu (nu q 3 0) 5 (-5)) 6 (-5)) 7 (-5)) 8 (-5)
theorem frees_V {m m' : MI} {p c : Nat} {q t : Nat → Int} {a b : Int} {fM fG : Nat → Nat → Int} (h : VW m m' p c q t a b fM fG) : ∃ m2, fModel_frees (p : Int) m' = some m2 ∧ VW m m2 p c (frM q) t a b fM fG := by
  have hp := h.1.1
  unfold fModel_frees
  rw [laysPatrol_3 hp, Option.bind_some, laysPatrol_5 hp, Option.bind_some, laysPatrol_6 hp, Option.bind_some]
  exact ⟨_, rfl, VW_P (VW_P (VW_P h 3 0 (by omega)) 5 (-5) (by omega)) 6 (-5) (by omega)⟩
theorem leaves_V {m m' : MI} {p c : Nat} {q t : Nat → Int} {a b : Int} {fM fG : Nat → Nat → Int} (h : VW m m' p c q t a b fM fG) (h5 : q 5 = (c : Int)) : ∃ m2, fModel_leaves (p : Int) m' = some m2 ∧ VW m m2 p c (frM q) (nu (nu t 5 3) 6 (-5)) a b fM fG := by
  have hp := h.1.1
  have hc := h.1.2
  obtain ⟨m2, e, hv⟩ := frees_V (VW_C (VW_C h 5 3 (by omega)) 6 (-5) (by omega))
  unfold fModel_leaves
  rw [ofPatrol_5 hp, Option.bind_some, VW_p h, h5, laysCall_5 hc, Option.bind_some, laysCall_6 hc, Option.bind_some, e]
  exact ⟨m2, rfl, hv⟩
theorem gl_self (d : Nat) (P s : MI) : sm_gl d 1 P s d = P 0 := by
  funext j
  rw [gl_i (by omega) (by omega)]
  rw [Nat.sub_self]
theorem gl_oth {d d' : Nat} (P s : MI) (h : ¬ d' = d) : sm_gl d 1 P s d' = s d' := by
  funext j
  exact gl_o (by omega)
theorem free_c (d : Nat) (s : MI) : ∃ P, fPatrol_becomeFree (sm_lo d s) = some P ∧ P 0 = frC (s d) := by
  unfold fPatrol_becomeFree
  simp only [Option.bind_some]
  refine ⟨_, rfl, ?_⟩
  rw [up_nu, up_nu, up_nu, up_nu, up_nu]
  rfl
theorem end_c (d : Nat) (x y : Int) (s : MI) : ∃ P, fBreakdown_end x y (sm_lo d s) = some P ∧ P 0 = nu (nu (s d) 5 x) 8 y := by
  unfold fBreakdown_end
  simp only [Option.bind_some]
  refine ⟨_, rfl, ?_⟩
  rw [up_nu, up_nu]
  rfl
/-- the model's tow begins, or its call is left -/
theorem tows_V {s m m' : MI} {p c A : Nat} {q t : Nat → Int} {a b : Int} {fM fG : Nat → Nat → Int} (h : VW m m' p c q t a b fM fG) (hga : GA s (m' 1)) (hw : wk s m') (hA : A < 12) (h5 : q 5 = (c : Int)) (t1 : t 1 = (A : Int)) (q0 : 0 ≤ q 0 ∧ q 0 < 12) (hr : (q 0).toNat / 4 = A / 4) :
    ∃ z : Int, fWork_nearestGarage (A : Int) s = some z ∧ ((z = -5 ∧ ∃ m2, fModel_tows (p : Int) m' = some m2 ∧ VW m m2 p c (frM q) (nu (nu t 5 3) 6 (-5)) a b fM fG) ∨
      ∃ g e : Nat, z = (g : Int) ∧ (g : Int) < m 1 8 ∧ fG g 2 + uw (m' 1) g < fG g 1 ∧ e < 12 ∧ (0 ≤ d2 m' A e ∧ d2 m' A e ≤ 660) ∧ (∀ S : MI, S 2 = s 2 → S 3 = s 3 → fWork_endOfTow (A : Int) (fG g 0) (sm_lo 1 S) = some (e : Int) ∧ fMap_between (A : Int) (e : Int) (sm_lo 1 S) = some (d2 m' A e)) ∧
        ∃ m2, fModel_tows (p : Int) m' = some m2 ∧ VW m m2 p c (nu (nu (nu (nu q 3 3) 6 (if d2 m' A e = 0 then 1 else 2 * d2 m' A e)) 12 (e : Int)) 13 (g : Int)) (nu (nu t 5 4) 6 (p : Int)) a b fM fG) := by
  have hp := h.1.1
  have hc := h.1.2
  obtain ⟨z, eM, eC, hz⟩ := garage_eq hga hw hA
  refine ⟨z, eC, ?_⟩
  have wA : sm_w (A : Int) = A := tw (by omega) (by omega)
  rcases hz with rfl | ⟨g, rfl, g8, gd, gr⟩
  · left
    refine ⟨rfl, ?_⟩
    obtain ⟨m2, e, hv⟩ := leaves_V h h5
    unfold fModel_tows
    rw [ofPatrol_5 hp, Option.bind_some, VW_p h, h5, ofCall_1 hc, Option.bind_some, VW_c h, t1, eM, Option.bind_some, wm5, if_pos rfl, e]
    exact ⟨m2, rfl, hv⟩
  · right
    have g5 : g < 5 := by have := hga.2.2.1; omega
    obtain ⟨n0, n1, n2, n3⟩ := hga.2.1 g g8
    have eG : vG (m' 1) g = fG g := h.2.2.2.2.2.2.2.2.2.2 g g5
    have v0 : vG (m' 1) g 0 = (((vG (m' 1) g 0).toNat : Nat) : Int) := by omega
    have hB : (vG (m' 1) g 0).toNat < 12 := by omega
    have q0' : q 0 = (((q 0).toNat : Nat) : Int) := by omega
    obtain ⟨e, he, hde, hC, hM⟩ := tow_eq hw hA hB gd (p : Int) (c : Int) (g : Int)
    have De := wk_D hw hA he
    have D0 : 0 ≤ d2 m' A e ∧ d2 m' A e ≤ 660 := by omega
    have key : ∃ m2, fModel_tows (p : Int) m' = some m2 ∧ VW m m2 p c (nu (nu (nu (nu q 3 3) 6 (if d2 m' A e = 0 then 1 else 2 * d2 m' A e)) 12 (e : Int)) 13 (g : Int)) (nu (nu t 5 4) 6 (p : Int)) a b fM fG := by
      unfold fModel_tows
      rw [ofPatrol_5 hp, Option.bind_some, VW_p h, h5, ofCall_1 hc, Option.bind_some, VW_c h, t1, eM, Option.bind_some, tw (x := (g : Int)) (by omega) (by omega), if_neg (by omega), ofGarage_0 g5, Option.bind_some, ofPatrol_0 hp, Option.bind_some, VW_p h, q0', (region_eq (by omega)).1, Option.bind_some, hr, v0, wA, tw (x := (((vG (m' 1) g 0).toNat : Nat) : Int)) (by omega) (by omega)]
      have J : ∀ y0 : Int, y0 = (if A = (vG (m' 1) g 0).toNat then 0 else 1) → ∃ m2, fModel_tows_j72 (p : Int) (c : Int) (A : Int) (g : Int) (((vG (m' 1) g 0).toNat : Nat) : Int) ((A / 4 : Nat) : Int) (A : Int) 0 y0 m' = some m2 ∧ VW m m2 p c (nu (nu (nu (nu q 3 3) 6 (if d2 m' A e = 0 then 1 else 2 * d2 m' A e)) 12 (e : Int)) 13 (g : Int)) (nu (nu t 5 4) 6 (p : Int)) a b fM fG := fun y0 hy => by
        unfold fModel_tows_j72
        rw [hy, hM, Option.bind_some]
        unfold fModel_tows_j210
        rw [laysPatrol_3 hp, Option.bind_some]
        dsimp only
        rw [tw (x := d2 m' A e) (by omega) (by omega)]
        have K : ∀ v : Int, ∃ m2, fModel_tows_j234 (p : Int) (c : Int) (g : Int) (e : Int) (p : Int) 6 v (mP m' p 3 3) = some m2 ∧ VW m m2 p c (nu (nu (nu (nu q 3 3) 6 v) 12 (e : Int)) 13 (g : Int)) (nu (nu t 5 4) 6 (p : Int)) a b fM fG := fun v => by
          unfold fModel_tows_j234
          rw [laysPatrol_6 hp, Option.bind_some, laysPatrol_12 hp, Option.bind_some, laysPatrol_13 hp, Option.bind_some, laysCall_5 hc, Option.bind_some, laysCall_6 hc, Option.bind_some]
          exact ⟨_, rfl, VW_C (VW_C (VW_P (VW_P (VW_P (VW_P h 3 3 (by omega)) 6 v (by omega)) 12 (e : Int) (by omega)) 13 (g : Int) (by omega)) 5 4 (by omega)) 6 (p : Int) (by omega)⟩
        by_cases z0 : d2 m' A e = 0
        · rw [if_pos z0, if_pos z0]
          exact K 1
        · rw [if_neg z0, if_neg z0]
          exact K _
      by_cases y : (A : Int) = (((vG (m' 1) g 0).toNat : Nat) : Int)
      · rw [if_pos y]
        exact J 0 (by rw [if_pos (by omega)])
      · rw [if_neg y]
        exact J 1 (by rw [if_neg (by omega)])
    refine ⟨g, e, rfl, by rw [← VW_n h (by omega : (8 : Nat) < 10)]; exact g8, by rw [← eG]; exact gr, he, D0, fun S e2 e3 => ⟨?_, ?_⟩, key⟩
    · have hw' : wk S m' := ⟨by unfold mR; rw [e2, e3]; exact hw.1, hw.2⟩
      obtain ⟨e', he', hde', hC', hM'⟩ := tow_eq hw' hA hB gd (p : Int) (c : Int) (g : Int)
      rw [hM] at hM'
      have := congrArg Prod.fst (Option.some.inj hM')
      rw [← eG, v0, hC']
      exact congrArg some this.symm
    · rw [between_eq hA he]
      show some (S 3 (12 * A + e)) = _
      rw [e3]
      congr 1
      omega
