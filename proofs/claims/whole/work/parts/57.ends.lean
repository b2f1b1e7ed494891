/-! ===== the end of a repair, the end of a tow ===== -/
theorem k_free {r q : Nat → Int} {x y : Int} (h : pR r q) (hx : x = r 9 + 1) (hy : y = q 7 + 1) : pR (frC (nu r 9 x)) (frM (nu q 7 y)) := by
  unfold pR at h ⊢
  simp only [frC, frM, nu] at h ⊢
  simp
  omega
theorem k_free2 {r q : Nat → Int} {a x y : Int} (h : pR r q) (hx : x = r 10 + 1) (hy : y = q 8 + 1) : pR (frC (nu (nu r 4 a) 10 x)) (frM (nu (nu q 4 a) 8 y)) := by
  unfold pR at h ⊢
  simp only [frC, frM, nu] at h ⊢
  simp
  omega
theorem k_freeI {nc ng y : Int} {q : Nat → Int} (h : pI nc ng (nu q 6 1)) : pI nc ng (frM (nu q 7 y)) := by
  unfold pI at h ⊢
  simp only [frM, nu] at h ⊢
  simp at h ⊢
  omega
theorem k_freeI2 {nc ng a y : Int} {q : Nat → Int} (h : pI nc ng (nu q 6 1)) (ha : 0 ≤ a ∧ a < 12) : pI nc ng (frM (nu (nu q 4 a) 8 y)) := by
  unfold pI at h ⊢
  simp only [frM, nu] at h ⊢
  simp at h ⊢
  omega
theorem k_done {nm np mi : Int} {t : Nat → Int} (h : cI nm np mi t) (t5 : t 5 = 2) (hm : 0 ≤ mi) : cI nm np mi (nu (nu (nu t 5 5) 6 (-5)) 9 mi) := by
  unfold cI cS at h ⊢
  simp only [nu] at h ⊢
  simp at h ⊢
  omega
theorem k_towed {nm np mi a g : Int} {t : Nat → Int} (h : cI nm np mi t) (t5 : t 5 = 4) (hm : 0 ≤ mi) (ha : 0 ≤ a ∧ a < 12) : cI nm np mi (nu (nu (nu (nu (nu t 1 a) 5 6) 6 (-5)) 9 mi) 11 g) := by
  unfold cI cS at h ⊢
  simp only [nu] at h ⊢
  simp at h ⊢
  omega
theorem k_border {nm np mi a : Int} {t : Nat → Int} (h : cI nm np mi t) (t5 : t 5 = 4) (ha : 0 ≤ a ∧ a < 12) : cI nm np mi (nu (nu (nu t 1 a) 5 3) 6 (-5)) := by
  unfold cI cS at h ⊢
  simp only [nu] at h ⊢
  simp at h ⊢
  omega
theorem k_doneR {n : Int} {u t : Nat → Int} (h : cR u t) : cR (nu (nu u 5 5) 8 n) (nu (nu (nu t 5 5) 6 (-5)) 9 n) := by
  unfold cR at h ⊢
  simp only [nu] at h ⊢
  simp
  omega
theorem k_towedR {n a g : Int} {u t : Nat → Int} (h : cR u t) : cR (nu (nu (nu (nu (nu u 1 a) 5 3) 9 g) 5 6) 8 n) (nu (nu (nu (nu (nu t 1 a) 5 6) 6 (-5)) 9 n) 11 g) := by
  unfold cR at h ⊢
  simp only [nu] at h ⊢
  simp
  omega
theorem k_borderR {a : Int} {u t : Nat → Int} (h : cR u t) : cR (nu (nu u 1 a) 5 3) (nu (nu (nu t 1 a) 5 3) 6 (-5)) := by
  unfold cR at h ⊢
  simp only [nu] at h ⊢
  simp
  omega
/-- what is known where a patrol at work has no minute left -/
def ATW (s m : MI) (p0 c0 : Nat) : Prop := RSx p0 s (m 1) ∧ wk s m ∧ (p0 : Int) < m 1 7 ∧ (c0 : Int) < m 1 9 ∧ pI (m 1 9) (m 1 8) (nu (vP (m 1) p0) 6 1) ∧ vP (m 1) p0 5 = c0
theorem ATW_l {s m : MI} {p0 c0 : Nat} (h : ATW s m p0 c0) : p0 < 6 ∧ c0 < 40 ∧ vC (m 1) c0 6 = p0 ∧ lkP (vP (m 1) p0) (vC (m 1) c0) ∧ pR (s (10 + p0)) (vP (m 1) p0) ∧ cR (s (21 + c0)) (vC (m 1) c0) ∧ cI (m 1 6) (m 1 7) (m 1 0) (vC (m 1) c0) ∧ s 0 11 = m 1 0 ∧ nS (m 1) ∧ nM (m 1) ∧ s 0 6 = m 1 8 := by
  obtain ⟨⟨a1, a2, a3, a4, a5, a6, b1, b2, b3, b4, b5, b6, b7, b8⟩, hw, hp0, hc0, hq, h5⟩ := h
  have S := b1
  obtain ⟨S0, S1, S2, S6, S7, S8, S9⟩ := b1
  obtain ⟨l1, l2⟩ := b7.1 p0 hp0 (by omega)
  rw [h5, show ((c0 : Int)).toNat = c0 by omega] at l1 l2
  exact ⟨by omega, by omega, l1, l2, a4 p0 hp0, a6 c0 hc0, b6 c0 hc0, a1.2.2.2.2.2.1, S, b3, a1.2.2.1⟩
theorem tier_eq {N : Nat → Int} {c k : Nat} (h : vC N c 0 = (k : Int)) : vM N k 0 = tierC N c := by
  unfold tierC vM
  rw [h, show ((k : Int)).toNat = k by omega, if_pos (by omega), Nat.add_zero]
theorem repaired_eq {s m : MI} {p0 c0 : Nat} (A : ATW s m p0 c0) (h3 : vP (m 1) p0 3 = 2) (n : Int) (hn : n = m 1 0) :
    ∃ s' m', Option.bind (fBreakdown_end 5 n (sm_lo (21 + c0) s)) (fun p12 => Option.bind (fPatrol_becomeFree (sm_lo (10 + p0) (sm_up (sm_gl (21 + c0) 1 p12 s) (10 + p0) 9 (sm_gl (21 + c0) 1 p12 s (10 + p0) 9 + 1)))) (fun p19 => some ((1 : Int), sm_gl (10 + p0) 1 p19 (sm_up (sm_gl (21 + c0) 1 p12 s) (10 + p0) 9 (sm_gl (21 + c0) 1 p12 s (10 + p0) 9 + 1))))) = some (1, s') ∧
      fModel_repaired (p0 : Int) m = some m' ∧ RS s' (m' 1) ∧ wk s' m' ∧ FR m m' p0 c0 ∧ vC (m' 1) c0 5 = 5 ∧ vC (m 1) c0 5 = 2 := by
  obtain ⟨hp, hc, h6, hlk, hR, hC, cI0, n0, S, hM0, _⟩ := ATW_l A
  obtain ⟨h, hw, hp0, hc0, hq, h5⟩ := A
  have t5 : vC (m 1) c0 5 = 2 := by
    rcases hlk with ⟨x, _⟩ | ⟨_, x⟩ | ⟨x, _⟩
    · omega
    · exact x
    · omega
  obtain ⟨i0, i1, i2, i3, i4, i10, iS⟩ := id cI0
  have S' := S
  obtain ⟨S0, S1, S2, S6, S7, S8, S9⟩ := S'
  have hk : (vC (m 1) c0 0).toNat < 20 := by omega
  have t0e : vC (m 1) c0 0 = (((vC (m 1) c0 0).toNat : Nat) : Int) := by omega
  have T := hM0 (vC (m 1) c0 0).toNat (by omega)
  have te := tier_eq t0e
  -- the class
  obtain ⟨P, eP, C1⟩ := CW_end (CW_0 s hp hc) 5 n
  have C2 := CW_P C1 9 (s (10 + p0) 9 + 1)
  obtain ⟨P2, eP2, C3⟩ := CW_free C2
  -- the model
  have key : ∀ cost : Int, cost = paid (tierC (m 1) c0) (nu (nu (nu (vC (m 1) c0) 5 5) 6 (-5)) 9 (m 1 0)) → ∃ m', fModel_repaired_j49 (p0 : Int) (c0 : Int) cost m = some m' ∧ VW m m' p0 c0 (frM (nu (vP (m 1) p0) 7 (vP (m 1) p0 7 + 1))) (nu (nu (nu (vC (m 1) c0) 5 5) 6 (-5)) 9 (m 1 0)) (m 1 10 + cost) (m 1 11) (fun k => if k = (vC (m 1) c0 0).toNat then nu (vM (m 1) (vC (m 1) c0 0).toNat) 1 (vM (m 1) (vC (m 1) c0 0).toNat 1 + cost) else vM (m 1) k) (fun g => vG (m 1) g) := fun cost _ => by
    have V0 := VW_0 m hp hc
    have V1 := VW_M V0 (vC (m 1) c0 0).toNat 1 (vM (m 1) (vC (m 1) c0 0).toNat 1 + cost) hk (by omega)
    have V2 := VW_S10 V1 (m 1 10 + cost)
    have V3 := VW_C (VW_C V2 5 5 (by omega)) 6 (-5) (by omega)
    have V4 := VW_C V3 9 (m 1 0) (by omega)
    have V5 := VW_P V4 7 (vP (m 1) p0 7 + 1) (by omega)
    obtain ⟨m', e, V6⟩ := frees_V V5
    unfold fModel_repaired_j49
    rw [ofCall_0 hc, Option.bind_some, t0e, addsMember_1 hk, Option.bind_some, V1.2.2.2.2.2.2.2.1, Option.bind_some]
    rw [show ∀ x : MI, sm_up x 1 10 (m 1 10 + cost) = mS x 10 (m 1 10 + cost) from fun _ => rfl]
    rw [laysCall_5 hc, Option.bind_some, laysCall_6 hc, Option.bind_some, VW_n V3 (by omega : 0 < 10), laysCall_9 hc, Option.bind_some, ofPatrol_7 hp, Option.bind_some, VW_p V4, laysPatrol_7 hp, Option.bind_some, e]
    exact ⟨m', rfl, V6⟩
  have pe : paid (tierC (m 1) c0) (nu (nu (nu (vC (m 1) c0) 5 5) 6 (-5)) 9 (m 1 0)) = if 20 - 10 * tierC (m 1) c0 - 5 * vC (m 1) c0 10 < 0 then 0 else 20 - 10 * tierC (m 1) c0 - 5 * vC (m 1) c0 10 := by
    unfold paid
    rw [nu_n (by omega : ¬ (5 : Nat) = 9), nu_n (by omega : ¬ (5 : Nat) = 6), nu_s, if_pos rfl, nu_n (by omega : ¬ (10 : Nat) = 9), nu_n (by omega : ¬ (10 : Nat) = 6), nu_n (by omega : ¬ (10 : Nat) = 5)]
  have eM : ∃ m', fModel_repaired (p0 : Int) m = some m' ∧ VW m m' p0 c0 (frM (nu (vP (m 1) p0) 7 (vP (m 1) p0 7 + 1))) (nu (nu (nu (vC (m 1) c0) 5 5) 6 (-5)) 9 (m 1 0)) (m 1 10 + paid (tierC (m 1) c0) (nu (nu (nu (vC (m 1) c0) 5 5) 6 (-5)) 9 (m 1 0))) (m 1 11) (fun k => if k = (vC (m 1) c0 0).toNat then nu (vM (m 1) (vC (m 1) c0 0).toNat) 1 (vM (m 1) (vC (m 1) c0 0).toNat 1 + paid (tierC (m 1) c0) (nu (nu (nu (vC (m 1) c0) 5 5) 6 (-5)) 9 (m 1 0))) else vM (m 1) k) (fun g => vG (m 1) g) := by
    unfold fModel_repaired
    rw [ofPatrol_5 hp, Option.bind_some, h5, ofCall_0 hc, Option.bind_some, t0e, ofMember_0 hk, Option.bind_some, ofCall_10 hc, Option.bind_some, te, tw (x := 20 - 10 * tierC (m 1) c0 - 5 * vC (m 1) c0 10) (by omega) (by omega), ← t0e]
    by_cases q : 0 ≤ 20 - 10 * tierC (m 1) c0 - 5 * vC (m 1) c0 10
    · rw [if_pos q]
      rw [if_neg (by omega)] at pe
      rw [← pe]
      exact key _ rfl
    · rw [if_neg q]
      rw [if_pos (by omega)] at pe
      have := key _ rfl
      rw [pe] at this ⊢
      exact this
  obtain ⟨m', eM, V⟩ := eM
  subst hn
  have hx := RS_fin h hp0 hc0 (Or.inl ⟨h5, h6⟩) V C3 (lt := 0) (pd := paid (tierC (m 1) c0) (nu (nu (nu (vC (m 1) c0) 5 5) 6 (-5)) 9 (m 1 0))) (fun k hk' => by
      by_cases z : k = (vC (m 1) c0 0).toNat
      · rw [if_pos z, if_pos (by omega), if_pos (by omega), z, nu_n (by omega), nu_n (by omega), nu_s, nu_n (by omega)]
        exact ⟨rfl, rfl, by omega, by omega⟩
      · rw [if_neg z, if_neg (by omega), if_neg (by omega)]
        exact ⟨rfl, rfl, by omega, by omega⟩) rfl (by omega) (by rw [paid_no (q := vC (m 1) c0) (by omega)]; omega)
    (by rw [Int.add_zero]; exact late_eq (by rw [nu_n (by omega), nu_n (by omega), nu_n (by omega)]) (by rw [nu_n (by omega), nu_n (by omega), nu_n (by omega)]) (by rw [nu_n (by omega), nu_n (by omega), nu_n (by omega)]))
    (by rw [nu_n (by omega), nu_n (by omega), nu_n (by omega)]) (by rw [nu_n (by omega), nu_n (by omega), nu_n (by omega)])
    (fun g hg => by
      rw [tI_no (by simp [frM, nu]), tI_no (by omega)]
      exact ⟨rfl, rfl, (mid_uw h hg).1, by have := (mid_uw h hg).2; omega⟩) (k_done cI0 t5 S0.1) (Or.inr ⟨by simp [frM, nu], by simp [nu]⟩) (k_free hR rfl rfl) (k_doneR hC)
    (fun g hg => by
      rw [tI_no (by simp [frM, nu]), tI_no (by omega)]
      obtain ⟨x0, x1, x2, x3, x4⟩ := mid_g h hg
      exact ⟨rfl, rfl, x2, by omega, x4⟩)
  refine ⟨_, m', ?_, eM, RS_ofx hx ?_, wk_V V C3 hw, FR_V V, ?_, t5⟩
  · rw [eP, Option.bind_some]
    have e9 : sm_gl (21 + c0) 1 P s (10 + p0) 9 = s (10 + p0) 9 := congrFun (CW_p C1) 9
    rw [e9, eP2, Option.bind_some]
  · rw [VW_p V, VW_n V (by omega), VW_n V (by omega)]
    exact k_freeI hq
  · rw [VW_c V, nu_n (by omega), nu_n (by omega), nu_s]
