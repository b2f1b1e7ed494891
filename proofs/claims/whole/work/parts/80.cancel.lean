/-! ===== minutes waited; a call is cancelled ===== -/
def wtd (mi : Int) (q : Nat → Int) : Int := if q 8 = -5 ∧ ¬ q 5 = 7 then mi - q 4 else q 7
theorem k_c8 {nm np mi : Int} {q : Nat → Int} (h : cI nm np mi q) (hn : np ≤ 6) : (-5 ≤ q 8 ∧ q 8 ≤ 5) ∧ (0 ≤ q 5 ∧ q 5 ≤ 7) ∧ (-5 ≤ q 6 ∧ q 6 ≤ 5) := by
  obtain ⟨_, _, _, _, _, _, g⟩ := h
  unfold cS at g
  omega
theorem waited_m {m : MI} {c : Nat} (hc : c < 40) (h8 : -5 ≤ vC (m 1) c 8 ∧ vC (m 1) c 8 ≤ 5) (h5 : 0 ≤ vC (m 1) c 5 ∧ vC (m 1) c 5 ≤ 7) : fModel_waitedOf (c : Int) m = some (wtd (m 1 0) (vC (m 1) c)) := by
  unfold fModel_waitedOf fModel_waitedOf_j23 fModel_waitedOf_j28 wtd
  rw [ofCall_8 hc, Option.bind_some, tw (x := vC (m 1) c 8) (by omega) (by omega), w1, w0, if_neg n10, if_pos rfl, ofCall_5 hc, Option.bind_some, tw (x := vC (m 1) c 5) (by omega) (by omega), ofCall_7 hc, Option.bind_some, ofCall_4 hc, Option.bind_some]
  by_cases a : vC (m 1) c 8 = -5
  · rw [if_pos a]
    by_cases b : vC (m 1) c 5 = 7
    · rw [if_pos b, if_neg (fun e => e.2 b)]
    · rw [if_neg b, if_pos ⟨a, b⟩]
  · rw [if_neg a, if_neg (fun e => a e.1)]
theorem waited_c {s : MI} {D : Nat} {nm np mi z : Int} {q : Nat → Int} (hR : cR (s D) q) (hI : cI nm np mi q) (hm : mi ≤ 2880) (hn : np ≤ 6) : fBreakdown_waited z (sm_lo D s) = some (wtd z q) := by
  have e7 : sm_lo D s 0 7 = s D 7 := rfl
  have e8 : sm_lo D s 0 8 = s D 8 := rfl
  have e4 : sm_lo D s 0 4 = s D 4 := rfl
  obtain ⟨_, _, _, _, i4, _, g⟩ := hI
  obtain ⟨⟨_, _, _, _, r4, r5, _⟩, r7, r7', r8, _⟩ := hR
  unfold fBreakdown_waited fBreakdown_waited_j36 wtd
  rw [e7, e8, e4, r8, r4]
  unfold cS at g
  by_cases a : q 8 = -5
  · rw [r7 a, tw (x := -5) (by omega) (by omega), if_pos rfl]
    by_cases b : q 5 = 7
    · rw [tw (x := q 9) (by omega) (by omega), if_neg (show ¬ q 9 = -5 by omega), if_neg (fun e => e.2 b)]
      congr 1
      omega
    · rw [tw (x := q 9) (by omega) (by omega), if_pos (show q 9 = -5 by omega), if_pos ⟨a, b⟩]
  · have r7b := r7' a
    rw [r7b, tw (x := q 4 + q 7) (by omega) (by omega), if_neg (show ¬ q 4 + q 7 = -5 by omega), if_neg (fun e => a e.1)]
    congr 1
    omega
theorem k_cC {nm np mi : Int} {r t : Nat → Int} (hI : cI nm np mi t) (h5 : t 5 = 0 ∨ t 5 = 1) (hm : 0 ≤ mi) : cI nm np mi (nu (nu (nu (nu t 6 (-5)) 5 7) 7 (mi - t 4)) 9 mi) ∧ late (nu (nu (nu (nu t 6 (-5)) 5 7) 7 (mi - t 4)) 9 mi) = late t ∧ wtd mi t = mi - t 4 ∧ t 8 = -5 := by
  have g := hI.2.2.2.2.2.2
  have t8 : t 8 = -5 := by
    unfold cS at g
    omega
  refine ⟨?_, ?_, ?_, t8⟩
  · unfold cI at hI ⊢
    unfold cS
    simp only [nu]
    simp
    omega
  · unfold late
    rw [nu_n (by omega : ¬ (8 : Nat) = 9), nu_n (by omega : ¬ (8 : Nat) = 7), nu_n (by omega : ¬ (8 : Nat) = 5), nu_n (by omega : ¬ (8 : Nat) = 6), t8, if_neg (fun e => e.1 rfl), if_neg (fun e => e.1 rfl)]
  · unfold wtd
    rw [if_pos ⟨t8, by omega⟩]
theorem k_canR {mi : Int} {r t : Nat → Int} (hR : cR r t) (t8 : t 8 = -5) : cR (nu (nu r 5 7) 8 mi) (nu (nu (nu (nu t 6 (-5)) 5 7) 7 (mi - t 4)) 9 mi) := by
  unfold cR at hR ⊢
  simp only [nu]
  simp
  omega
theorem k_frees {nc ng : Int} {r q : Nat → Int} (hR : pR r q) (hI : pI nc ng q) (h3 : ¬ q 3 = 3) : pR (frC r) (frM q) ∧ pI nc ng (frM q) ∧ (frM q 3 = 3 ↔ q 3 = 3) ∧ frM q 13 = q 13 ∧ frM q 5 = -5 := by
  unfold pR at hR ⊢
  unfold pI at hI ⊢
  unfold frM frC
  simp only [nu]
  simp
  omega
theorem cancel_fin {s s' : MI} {N N' : Nat → Int} {c : Nat} (h : RS s N) (hc : (c : Int) < N 9) (h5 : vC N c 5 = 0 ∨ vC N c 5 = 1) (n : ∀ i, i < 186 → N' i = N i)
    (hP : ∀ p, p < 6 → vP N' p = if (p : Int) = vC N c 6 then frM (vP N p) else vP N p) (hC : ∀ c', c' < 40 → vC N' c' = if c' = c then nu (nu (nu (nu (vC N c) 6 (-5)) 5 7) 7 (N 0 - vC N c 4)) 9 (N 0) else vC N c') (hG : ∀ g, g < 5 → vG N' g = vG N g)
    (sP : ∀ p, p < 6 → s' (10 + p) = if (p : Int) = vC N c 6 then frC (s (10 + p)) else s (10 + p)) (sC : ∀ c', c' < 40 → s' (21 + c') = if c' = c then nu (nu (s (21 + c)) 5 7) 8 (N 0) else s (21 + c')) (sd : ∀ a, a < 10 ∨ (16 ≤ a ∧ a < 21) → s' a = s a) : RS s' N' := by
  have H := h
  obtain ⟨a1, a2, a3, a4, a5, a6, b1, b2, b3, b4, b5, b6, b7, b8, b9⟩ := H
  have S := b1
  obtain ⟨S0, S1, S2, S6, S7, S8, S9⟩ := S
  have hI := b6 c hc
  obtain ⟨kI, kl, _, k8⟩ := k_cC (r := s (21 + c)) hI h5 S0.1
  have g := hI.2.2.2.2.2.2
  have hB : vC N c 6 = -5 ∨ 0 ≤ vC N c 6 ∧ vC N c 6 < N 7 := by
    unfold cS at g
    omega
  have hq3 : ∀ p : Nat, (p : Int) < N 7 → (p : Int) = vC N c 6 → vP N p 5 = (c : Int) ∧ ¬ vP N p 3 = 3 := fun p hp e => by
    have y := b7.2 c hc (by omega)
    have ep : (vC N c 6).toNat = p := by omega
    rw [ep] at y
    have z := (b7.1 p hp (by omega)).2
    rw [y, show ((c : Int)).toNat = c by omega] at z
    refine ⟨y, fun e3 => ?_⟩
    unfold lkP at z
    omega
  refine RS_upd h ?_ ?_ (fun i _ hi => n i hi) (n 0 (by omega)) (sd 2 (by omega)) (sd 3 (by omega)) (sd 4 (by omega)) (fun p hp => ?_) (fun p hp h7 => ?_) (fun g hg => ?_) (fun g hg _ => hG g hg) (fun c' hc' => ?_) ?_
  · unfold sR
    rw [sd 0 (by omega), sd 8 (by omega), sd 1 (by omega), n 6 (by omega), n 7 (by omega), n 8 (by omega), n 9 (by omega), n 1 (by omega), n 0 (by omega), n 2 (by omega), n 3 (by omega), n 4 (by omega), n 5 (by omega)]
    exact a1
  · unfold nS
    rw [n 6 (by omega), n 7 (by omega), n 8 (by omega), n 9 (by omega), n 1 (by omega), n 0 (by omega), n 2 (by omega), n 3 (by omega), n 4 (by omega)]
    exact b1
  · rw [hP p (by omega), sP p (by omega)]
    by_cases e : (p : Int) = vC N c 6
    · rw [if_pos e, if_pos e]
      obtain ⟨k1, k2, k3, k4, _⟩ := k_frees (a4 p hp) (b4 p hp) (hq3 p hp e).2
      exact ⟨k1, k2, k3, k4⟩
    · rw [if_neg e, if_neg e]
      exact ⟨a4 p hp, b4 p hp, Iff.rfl, rfl⟩
  · rw [hP p hp, if_neg (by omega)]
  · rw [hG g (by omega), sd (16 + g) (by omega)]
    exact ⟨⟨rfl, rfl, (b5 g hg).2.2.1, Int.le_refl _⟩, a5 g hg⟩
  · rw [hC c' (by omega), sC c' (by omega)]
    by_cases e : c' = c
    · subst e
      rw [if_pos rfl, if_pos rfl]
      refine ⟨k_canR (a6 _ hc) k8, kI, by simp [nu], by simp [nu], kl, ?_⟩
      simp [nu]
      omega
    · rw [if_neg e, if_neg e]
      exact ⟨a6 c' hc', b6 c' hc', rfl, rfl, rfl, Iff.rfl⟩
  · constructor
    · intro p hp h5'
      rw [n 7 (by omega)] at hp
      rw [hP p (by omega)] at h5' ⊢
      by_cases e : (p : Int) = vC N c 6
      · rw [if_pos e] at h5'
        have := (k_frees (a4 p hp) (b4 p hp) (hq3 p hp e).2).2.2.2.2
        omega
      · rw [if_neg e] at h5' ⊢
        have y := b7.1 p hp h5'
        have hb : ((vP N p 5).toNat : Int) < N 9 := by
          obtain ⟨_, _, _, _, i5, _⟩ := b4 p hp
          rcases i5 with ⟨_, i5, _⟩ | ⟨_, i5, _⟩ <;> omega
        have hne : ¬ (vP N p 5).toNat = c := fun z => by
          rw [z] at y
          omega
        rw [hC _ (by omega), if_neg hne]
        exact y
    · intro c' hc' h6
      rw [n 9 (by omega)] at hc'
      rw [hC c' (by omega)] at h6 ⊢
      by_cases e : c' = c
      · rw [if_pos e] at h6
        simp [nu] at h6
      · rw [if_neg e] at h6 ⊢
        have y := b7.2 c' hc' h6
        have hb : ((vC N c' 6).toNat : Int) < N 7 := by
          obtain ⟨_, _, _, _, _, _, i5⟩ := b6 c' hc'
          unfold cS at i5
          omega
        have hne : ¬ (((vC N c' 6).toNat : Nat) : Int) = vC N c 6 := fun z => by
          have := (hq3 _ hb z).1
          omega
        rw [hP _ (by omega), if_neg hne]
        exact y
theorem isUn_c {s : MI} {D : Nat} (h : 0 ≤ s D 5 ∧ s D 5 ≤ 7) : fBreakdown_isUnattended (sm_lo D s) = some (if s D 5 ≤ 1 then 1 else 0) := by
  unfold fBreakdown_isUnattended fBreakdown_isUnattended_j15
  rw [lo_at, Nat.add_zero, tw (x := s D 5) (by omega) (by omega)]
  by_cases a : s D 5 = 0
  · rw [if_pos a, if_pos (by omega)]
  · by_cases b : s D 5 = 1
    · rw [if_neg a, if_pos b, if_pos (by omega)]
    · rw [if_neg a, if_neg b, if_neg (by omega)]
theorem cancel_eq {d m : MI} {ro : Nat → Nat} {z : Int} (h : DM d ro m) (hz : i32 z) : ∃ v d' ro' m', fDesk_cancel z d ro = some (v, d', ro') ∧ fModel_cancel z m = some (v, m') ∧ DM d' ro' m' := by
  have a1 := h.1
  have n8 : sm_lo 1 d 0 8 = m 1 9 := a1.1.2.2.2.1
  have S9 : 0 ≤ m 1 9 ∧ m 1 9 ≤ 40 := a1.2.2.2.2.2.2.1.2.2.2.2.2.2
  have S7 : 0 ≤ m 1 7 ∧ m 1 7 ≤ 6 := a1.2.2.2.2.2.2.1.2.2.2.2.1
  have S0 : 0 ≤ m 1 0 ∧ m 1 0 ≤ 2880 := a1.2.2.2.2.2.2.1.1
  unfold fDesk_cancel fModel_cancel
  rw [isCall_c hz n8 S9, isCall_m hz S9, Option.bind_some, Option.bind_some, ix_w]
  by_cases q : 0 ≤ z ∧ z < m 1 9
  · rw [if_neg (ix_y q), if_neg (ix_y q)]
    obtain ⟨c, rfl⟩ : ∃ k : Nat, z = (k : Int) := ⟨z.toNat, by omega⟩
    have c40 : c < 40 := by omega
    obtain ⟨hR, hI⟩ := RS_c a1 q.2
    obtain ⟨i8, i5, i6⟩ := k_c8 hI S7.2
    have r5 : d (1 + (21 + c)) 5 = vC (m 1) c 5 := hR.1.2.2.2.2.2.1
    rw [tw (x := (c : Int)) (by omega) (by omega), if_pos (show (0 : Int) ≤ (c : Int) ∧ (c : Int) < 40 by omega), show ((c : Int)).toNat = c by omega, isUn_c (by rw [r5]; exact i5), Option.bind_some, r5, ofCall_5 c40, Option.bind_some, tw (x := vC (m 1) c 5) (by omega) (by omega)]
    by_cases u : vC (m 1) c 5 ≤ 1
    · rw [if_pos u, if_pos u, w1, if_neg n10]
      obtain ⟨d1, ro1, m1, eD, eM, hD, kd, k0, km, km0⟩ := record_eq h
      have q1 : m1 1 = m 1 := km 1 (by omega) (by omega)
      have hR1 := hD.1
      rw [← q1] at i8 i5 i6 hI u q S7 S0
      have n4' : sm_lo 1 d1 0 4 = m1 1 7 := hR1.1.2.1
      have n11 : d1 1 11 = m1 1 0 := hR1.1.2.2.2.2.2.1
      obtain ⟨kI, kl, kw, k8⟩ := k_cC (r := d1 0) hI (by omega) S0.1
      have g := hI.2.2.2.2.2.2
      have hB : vC (m1 1) c 6 = -5 ∨ 0 ≤ vC (m1 1) c 6 ∧ vC (m1 1) c 6 < m1 1 7 := by
        unfold cS at g
        omega
      rw [eD, eM, Option.bind_some, Option.bind_some]
      dsimp only
      rw [patrolOf_eq hR1 q.2, Option.bind_some, isPatrol_c (n := m1 1 7) (by unfold i32; omega) n4' S7, Option.bind_some, ix_w, waited_m c40 i8 i5, Option.bind_some, ofCall_6 c40, Option.bind_some, tw (x := vC (m1 1) c 6) (by omega) (by omega), kw]
      -- the patrol is freed, if there is one
      have X : ∃ dX mX, ((if ix (vC (m1 1) c 6) (m1 1 7) = 0 then fDesk_cancel_j69 (21 + c) d1 ro1 else if 0 ≤ vC (m1 1) c 6 ∧ vC (m1 1) c 6 < 6 then Option.bind (fPatrol_becomeFree (sm_lo (1 + (10 + (vC (m1 1) c 6).toNat)) d1)) (fun p28 => Option.bind (some (sm_gl (1 + (10 + (vC (m1 1) c 6).toNat)) 1 p28 d1)) (fun s31 => fDesk_cancel_j69 (21 + c) s31 ro1)) else none) = fDesk_cancel_j69 (21 + c) dX ro1) ∧
          ((if vC (m1 1) c 6 = -5 then fModel_cancel_j56 (c : Int) (m1 1 0 - vC (m1 1) c 4) m1 else Option.bind (some (vC (m1 1) c 6)) (fun p28 => Option.bind (fModel_frees p28 m1) (fun p31 => fModel_cancel_j56 (c : Int) (m1 1 0 - vC (m1 1) c 4) p31))) = fModel_cancel_j56 (c : Int) (m1 1 0 - vC (m1 1) c 4) mX) ∧
          (∀ p, p < 6 → dX (1 + (10 + p)) = if (p : Int) = vC (m1 1) c 6 then frC (d1 (1 + (10 + p))) else d1 (1 + (10 + p))) ∧ (∀ a, a < 11 ∨ 17 ≤ a → dX a = d1 a) ∧
          (∀ a, ¬ a = 1 → mX a = m1 a) ∧ (∀ i, i < 186 → mX 1 i = m1 1 i) ∧ (∀ p, p < 6 → vP (mX 1) p = if (p : Int) = vC (m1 1) c 6 then frM (vP (m1 1) p) else vP (m1 1) p) ∧ (∀ c', c' < 40 → vC (mX 1) c' = vC (m1 1) c') ∧ ∀ g, g < 5 → vG (mX 1) g = vG (m1 1) g := by
        rcases hB with e | ⟨e, e'⟩
        · refine ⟨d1, m1, ?_, ?_, fun p _ => ?_, fun _ _ => rfl, fun _ _ => rfl, fun _ _ => rfl, fun p _ => ?_, fun _ _ => rfl, fun _ _ => rfl⟩
          · rw [if_pos (ix_n (by omega))]
          · rw [if_pos e]
          · rw [if_neg (by omega)]
          · rw [if_neg (by omega)]
        · obtain ⟨p0, hp0⟩ : ∃ k : Nat, vC (m1 1) c 6 = (k : Int) := ⟨(vC (m1 1) c 6).toNat, by omega⟩
          rw [hp0] at e e' ⊢
          have p6 : p0 < 6 := by omega
          obtain ⟨P, eP, hP⟩ := free_c (1 + (10 + p0)) d1
          have ef : fModel_frees (p0 : Int) m1 = some (mP (mP (mP m1 p0 3 0) p0 5 (-5)) p0 6 (-5)) := by
            unfold fModel_frees
            rw [laysPatrol_3 p6, Option.bind_some, laysPatrol_5 p6, Option.bind_some, laysPatrol_6 p6, Option.bind_some]
          refine ⟨sm_gl (1 + (10 + p0)) 1 P d1, mP (mP (mP m1 p0 3 0) p0 5 (-5)) p0 6 (-5), ?_, ?_, fun p hp => ?_, fun a ha => gl_oth _ _ (by omega), fun a ha => ?_, fun i hi => ?_, fun p hp => ?_, fun c' hc' => ?_, fun g hg => ?_⟩
          · rw [if_neg (ix_y ⟨e, e'⟩), if_pos (show (0 : Int) ≤ (p0 : Int) ∧ (p0 : Int) < 6 by omega), show ((p0 : Int)).toNat = p0 by omega, eP, Option.bind_some, Option.bind_some]
          · rw [if_neg (show ¬ (p0 : Int) = -5 by omega), Option.bind_some, ef, Option.bind_some]
          · by_cases k : p = p0
            · rw [k, gl_self, hP, if_pos rfl]
            · rw [gl_oth _ _ (by omega), if_neg (by omega)]
          · rw [mP_D ha, mP_D ha, mP_D ha]
          · rw [mP_1, nu_n (by omega), mP_1, nu_n (by omega), mP_1, nu_n (by omega)]
          · rw [vP_mP (by omega), vP_mP (by omega), vP_mP (by omega), if_pos rfl, vP_mP (by omega), if_pos rfl, vP_mP (by omega), vP_mP (by omega)]
            by_cases k : p = p0
            · rw [if_pos k, if_pos (by omega), k]
              rfl
            · rw [if_neg k, if_neg k, if_neg k, if_neg (by omega)]
          · rw [vC_mP p6 hc' (by omega), vC_mP p6 hc' (by omega), vC_mP p6 hc' (by omega)]
          · rw [vG_mP p6 hg (by omega), vG_mP p6 hg (by omega), vG_mP p6 hg (by omega)]
      obtain ⟨dX, mX, x1, x2, xP, xd, xm, xn, xVP, xVC, xVG⟩ := X
      have e11 : dX 1 11 = m1 1 0 := by rw [xd 1 (by omega)]; exact n11
      obtain ⟨P, eP, hP⟩ := end_c (1 + (21 + c)) 7 (m1 1 0) dX
      have eC : fDesk_cancel_j69 (21 + c) dX ro1 = some (m1 1 0 - vC (m1 1) c 4, sm_gl (1 + (21 + c)) 1 P dX, ro1) := by
        unfold fDesk_cancel_j69
        rw [e11, eP, Option.bind_some, Option.bind_some, gl_oth _ _ (by omega : ¬ 1 = 1 + (21 + c)), e11]
        have hc1 : cR (sm_gl (1 + (21 + c)) 1 P dX (1 + (21 + c))) (nu (nu (nu (nu (vC (m1 1) c) 6 (-5)) 5 7) 7 (m1 1 0 - vC (m1 1) c 4)) 9 (m1 1 0)) := by
          rw [gl_self, hP, xd (1 + (21 + c)) (by omega)]
          exact k_canR (RS_c hR1 q.2).1 k8
        rw [waited_c hc1 kI S0.2 S7.2, Option.bind_some]
        congr 2
        unfold wtd
        simp [nu]
      have eMo : fModel_cancel_j56 (c : Int) (m1 1 0 - vC (m1 1) c 4) mX = some (m1 1 0 - vC (m1 1) c 4, mC (mC (mC (mC mX c 6 (-5)) c 5 7) c 7 (m1 1 0 - vC (m1 1) c 4)) c 9 (m1 1 0)) := by
        unfold fModel_cancel_j56
        rw [laysCall_6 c40, Option.bind_some, laysCall_5 c40, Option.bind_some, laysCall_7 c40, Option.bind_some, n_mC (by omega), n_mC (by omega), n_mC (by omega), xn 0 (by omega), laysCall_9 c40, Option.bind_some]
      have en : ∀ i, i < 186 → mC (mC (mC (mC mX c 6 (-5)) c 5 7) c 7 (m1 1 0 - vC (m1 1) c 4)) c 9 (m1 1 0) 1 i = m1 1 i := fun i hi => by
        rw [mC_1, nu_n (by omega), mC_1, nu_n (by omega), mC_1, nu_n (by omega), mC_1, nu_n (by omega), xn i hi]
      have em : ∀ a, ¬ a = 1 → mC (mC (mC (mC mX c 6 (-5)) c 5 7) c 7 (m1 1 0 - vC (m1 1) c 4)) c 9 (m1 1 0) a = m1 a := fun a ha => by
        rw [mC_D ha, mC_D ha, mC_D ha, mC_D ha, xm a ha]
      have ed : ∀ a, a < 11 ∨ (17 ≤ a ∧ ¬ a = 1 + (21 + c)) → sm_gl (1 + (21 + c)) 1 P dX a = d1 a := fun a ha => by
        rw [gl_oth _ _ (by omega), xd a (by omega)]
      have hfin : RS (sm_lo 1 (sm_gl (1 + (21 + c)) 1 P dX)) (mC (mC (mC (mC mX c 6 (-5)) c 5 7) c 7 (m1 1 0 - vC (m1 1) c 4)) c 9 (m1 1 0) 1) := by
        refine cancel_fin hR1 q.2 (by omega) en (fun p hp => ?_) (fun c' hc' => ?_) (fun g hg => ?_) (fun p hp => ?_) (fun c' hc' => ?_) (fun a ha => ed (1 + a) (by omega))
        · rw [vP_mC c40 hp (by omega), vP_mC c40 hp (by omega), vP_mC c40 hp (by omega), vP_mC c40 hp (by omega), xVP p hp]
        · rw [vC_mC (by omega), vC_mC (by omega), if_pos rfl, vC_mC (by omega), if_pos rfl, vC_mC (by omega), if_pos rfl, xVC c c40]
          by_cases k : c' = c
          · rw [if_pos k, if_pos k]
          · rw [if_neg k, if_neg k, vC_mC (by omega), if_neg k, vC_mC (by omega), if_neg k, vC_mC (by omega), if_neg k, xVC c' hc']
        · rw [vG_mC c40 hg (by omega), vG_mC c40 hg (by omega), vG_mC c40 hg (by omega), vG_mC c40 hg (by omega), xVG g hg]
        · show sm_gl (1 + (21 + c)) 1 P dX (1 + (10 + p)) = _
          rw [gl_oth _ _ (by omega), xP p hp]
          rfl
        · show sm_gl (1 + (21 + c)) 1 P dX (1 + (21 + c')) = _
          by_cases k : c' = c
          · rw [k, gl_self, hP, if_pos rfl, xd _ (by omega)]
            rfl
          · rw [gl_oth _ _ (by omega), if_neg k, xd _ (by omega)]
            rfl
      refine ⟨m1 1 0 - vC (m1 1) c 4, _, ro1, _, x1.trans eC, x2.trans eMo, DM_now hD (fun a ha => ed a (by omega)) (em 2 (by omega)) (em 3 (by omega)) (em 5 (by omega)) (by rw [em 0 (by omega)]) (by rw [em 0 (by omega)]) (by rw [em 0 (by omega)]) hfin (wk_upd hD.2.1 (ed 3 (by omega)) (ed 4 (by omega)) (em 6 (by omega)) (em 7 (by omega)) (fun i _ hi => en i (by omega)))⟩
    · rw [if_neg u, if_neg u, w0, if_pos rfl]
      exact ⟨_, _, _, _, rfl, rfl, h⟩
  · rw [if_pos (ix_n q), if_pos (ix_n q)]
    exact ⟨_, _, _, _, rfl, rfl, h⟩
