/-! ===== members, patrols, garages, roads are added ===== -/
theorem sumN_ext {f g : Nat → Int} {n : Nat} (h : ∀ k, k < n → f k = g k) : ∀ n', n ≤ n' → (∀ k, n ≤ k → k < n' → f k = 0) → sumN n' f = sumN n g
  | 0, hn, _ => by
    have e : n = 0 := by omega
    subst e
    rfl
  | n' + 1, hn, hz => by
    by_cases q : n = n' + 1
    · rw [q]
      exact sumN_eq _ (fun k hk => h k (by omega))
    · show sumN n' f + f n' = _
      rw [sumN_ext h n' (by omega) (fun k a b => hz k a (by omega)), hz n' (by omega) (by omega), Int.add_zero]
theorem RS_grow {s s' : MI} {N N' : Nat → Int} (h : RS s N) (hS : sR s' N') (hmR : mR s' N') (hn : nS N') (hr : rOK N') (g6 : N 6 ≤ N' 6) (g7 : N 7 ≤ N' 7) (g8 : N 8 ≤ N' 8) (e9 : N' 9 = N 9) (e0 : N' 0 = N 0) (e10 : N' 10 = N 10) (e11 : N' 11 = N 11) (e12 : N' 12 = N 12)
    (oP : ∀ p : Nat, (p : Int) < N 7 → vP N' p = vP N p ∧ s' (10 + p) = s (10 + p)) (oG : ∀ g : Nat, (g : Int) < N 8 → vG N' g = vG N g ∧ s' (16 + g) = s (16 + g)) (oC : ∀ c : Nat, (c : Int) < N 9 → vC N' c = vC N c ∧ s' (21 + c) = s (21 + c)) (oM : ∀ k : Nat, (k : Int) < N 6 → vM N' k = vM N k ∧ s' 4 k = s 4 k)
    (wP : ∀ p : Nat, N 7 ≤ (p : Int) → (p : Int) < N' 7 → pR (s' (10 + p)) (vP N' p) ∧ pI (N 9) (N' 8) (vP N' p) ∧ vP N' p 5 = -5 ∧ ¬ vP N' p 3 = 3)
    (wG : ∀ g : Nat, N 8 ≤ (g : Int) → (g : Int) < N' 8 → (s' (16 + g) 0 = vG N' g 0 ∧ s' (16 + g) 1 = vG N' g 1 ∧ s' (16 + g) 2 = vG N' g 2 ∧ s' (16 + g) 3 = 0 ∧ s' (16 + g) 4 = vG N' g 3) ∧ (0 ≤ vG N' g 0 ∧ vG N' g 0 < 12) ∧ (1 ≤ vG N' g 1 ∧ vG N' g 1 ≤ 9) ∧ vG N' g 2 = 0)
    (wM : ∀ k : Nat, N 6 ≤ (k : Int) → (k : Int) < N' 6 → s' 4 k = vM N' k 0 ∧ (0 ≤ vM N' k 0 ∧ vM N' k 0 ≤ 2) ∧ vM N' k 1 = 0 ∧ vM N' k 2 = 0 ∧ vM N' k 3 = 0) (hZ : nZ N') : RS s' N' := by
  obtain ⟨a1, a2, a3, a4, a5, a6, b1, b2, b3, b4, b5, b6, b7, b8, b9⟩ := h
  have S := b1
  obtain ⟨S0, S1, S2, S6, S7, S8, S9⟩ := S
  have S' := hn
  obtain ⟨_, _, _, S6', S7', S8', _⟩ := S'
  have hu : ∀ g : Nat, (g : Int) < N 8 → uw N' g = uw N g := fun g hg => by
    unfold uw
    refine sumN_ext (fun p hp => by rw [(oP p (by omega)).1]) _ (by omega) (fun p hp hp' => ?_)
    rw [if_neg (fun e => (wP p (by omega) (by omega)).2.2.2 e.1)]
  have hu0 : ∀ g : Nat, N 8 ≤ (g : Int) → uw N' g = 0 := fun g hg => by
    unfold uw
    rw [sumN_eq (g := fun _ => 0) _ (fun p hp => ?_), sumN_0]
    by_cases z : (p : Int) < N 7
    · rw [(oP p z).1, if_neg]
      intro e
      have := (b4 p z).2.2.2.2.2 e.1
      omega
    · rw [if_neg (fun e => (wP p (by omega) (by omega)).2.2.2 e.1)]
  have htc : ∀ c : Nat, (c : Int) < N 9 → tierC N' c = tierC N c := fun c hc => by
    have x := (b6 c hc).1
    have y := congrFun (oM (vC N c 0).toNat (by omega)).1 0
    unfold tierC
    rw [(oC c hc).1]
    unfold vM at y
    simpa using y
  refine ⟨hS, hmR, ?_, ?_, ?_, ?_, hn, hr, ?_, ?_, ?_, ?_, ?_, ?_, hZ⟩
  · intro k hk
    by_cases z : (k : Int) < N 6
    · rw [(oM k z).1, (oM k z).2]
      exact a3 k z
    · exact (wM k (by omega) hk).1
  · intro p hp
    by_cases z : (p : Int) < N 7
    · rw [(oP p z).1, (oP p z).2]
      exact a4 p z
    · exact (wP p (by omega) hp).1
  · intro g hg
    by_cases z : (g : Int) < N 8
    · rw [(oG g z).1, (oG g z).2, hu g z]
      exact a5 g z
    · rw [hu0 g (by omega)]
      exact (wG g (by omega) hg).1
  · intro c hc
    rw [e9] at hc
    rw [(oC c hc).1, (oC c hc).2]
    exact a6 c hc
  · intro k hk
    by_cases z : (k : Int) < N 6
    · rw [(oM k z).1]
      exact b3 k z
    · exact (wM k (by omega) hk).2.1
  · intro p hp
    rw [e9]
    by_cases z : (p : Int) < N 7
    · rw [(oP p z).1]
      exact pI_nc (b4 p z) (Int.le_refl _) g8
    · exact (wP p (by omega) hp).2.1
  · intro g hg
    by_cases z : (g : Int) < N 8
    · rw [(oG g z).1, hu g z]
      exact b5 g z
    · rw [hu0 g (by omega)]
      obtain ⟨_, x, y, w⟩ := wG g (by omega) hg
      exact ⟨x, y, by omega, by omega⟩
  · intro c hc
    rw [e9] at hc
    rw [(oC c hc).1, e0]
    exact cI_np (b6 c hc) g6 g7
  · constructor
    · intro p hp h5
      by_cases z : (p : Int) < N 7
      · rw [(oP p z).1] at h5 ⊢
        have hb : ((vP N p 5).toNat : Int) < N 9 := by
          obtain ⟨_, _, _, _, i5, _⟩ := b4 p z
          rcases i5 with ⟨_, i5, _⟩ | ⟨_, i5, _⟩ <;> omega
        rw [(oC _ hb).1]
        exact b7.1 p z h5
      · have := (wP p (by omega) hp).2.2.1
        omega
    · intro c hc h6
      rw [e9] at hc
      rw [(oC c hc).1] at h6 ⊢
      have hb : ((vC N c 6).toNat : Int) < N 7 := by
        obtain ⟨_, _, _, _, _, _, i5⟩ := b6 c hc
        unfold cS at i5
        omega
      rw [(oP _ hb).1]
      exact b7.2 c hc h6
  · obtain ⟨u1, u2, u3, u4⟩ := b8
    refine ⟨?_, ?_, ?_, fun k hk => ?_⟩
    · rw [e10, e9, u1]
      exact (sumN_eq _ (fun c hc => by rw [htc c (by omega), (oC c (by omega)).1])).symm
    · rw [e11, e9, u2]
      exact (sumN_eq _ (fun c hc => by rw [(oC c (by omega)).1])).symm
    · rw [e12, e9, u3]
      exact (sumN_eq _ (fun c hc => by rw [(oC c (by omega)).1])).symm
    · rw [e9]
      by_cases z : (k : Int) < N 6
      · obtain ⟨v1, v2, v3⟩ := u4 k z
        rw [(oM k z).1]
        exact ⟨v1.trans (sumN_eq _ (fun c hc => by rw [htc c (by omega), (oC c (by omega)).1])).symm, v2.trans (sumN_eq _ (fun c hc => by rw [(oC c (by omega)).1])).symm, v3.trans (sumN_eq _ (fun c hc => by rw [(oC c (by omega)).1])).symm⟩
      · obtain ⟨_, _, w1', w2', w3'⟩ := wM k (by omega) hk
        have no : ∀ c : Nat, c < (N 9).toNat → ¬ vC N' c 0 = (k : Int) := fun c hc e => by
          have := (b6 c (by omega)).1
          rw [(oC c (by omega)).1] at e
          omega
        refine ⟨?_, ?_, ?_⟩
        · rw [w1', sumN_eq (g := fun _ => 0) _ (fun c hc => if_neg (no c hc)), sumN_0]
        · rw [w2', sumN_eq (g := fun _ => 0) _ (fun c hc => if_neg (no c hc)), sumN_0]
        · rw [w3', sumN_eq (g := fun _ => 0) _ (fun c hc => if_neg (no c hc)), sumN_0]
/-- a member -/
theorem addMember_eq {d m : MI} {ro : Nat → Nat} {t : Int} (h : DM d ro m) (ht : i32 t) : ∃ v d' ro' m', fDesk_addMember t d ro = some (v, d', ro') ∧ fModel_addMember t m = some (v, m') ∧ DM d' ro' m' := by
  have a1 := h.1
  have n2 : d 1 2 = m 1 6 := a1.1.1
  have S6 : 0 ≤ m 1 6 ∧ m 1 6 ≤ 20 := a1.2.2.2.2.2.2.1.2.2.2.1
  unfold fDesk_addMember fModel_addMember
  rw [isTier_c ht, show fModel_in t 0 2 = some (ix t 3) from in_ix (n := 3) ht (by omega), Option.bind_some, Option.bind_some, ix_w]
  by_cases q : 0 ≤ t ∧ t < 3
  · rw [if_neg (ix_y q), if_neg (ix_y q), n2, tw (x := m 1 6) (by omega) (by omega)]
    by_cases w : m 1 6 < 20
    · rw [if_pos w, if_neg (show ¬ m 1 6 = 20 by omega)]
      obtain ⟨d1, ro1, m1, eD, eM, hD, kd, k0, km, km0⟩ := record_eq h
      have q1 : m1 1 = m 1 := km 1 (by omega) (by omega)
      rw [eD, eM, Option.bind_some, Option.bind_some]
      dsimp only
      obtain ⟨k, hk⟩ : ∃ k : Nat, m1 1 6 = (k : Int) := ⟨(m 1 6).toNat, by rw [q1]; omega⟩
      have k20 : k < 20 := by rw [q1] at hk; omega
      have n2' : sm_lo 1 d1 0 2 = (k : Int) := hD.1.1.1.trans hk
      have eC : fState_enrol t (sm_lo 1 d1) = some ((k : Int), sm_up (sm_up (sm_lo 1 d1) 4 k t) 0 2 ((k : Int) + 1)) := by
        unfold fState_enrol
        rw [n2', tw (x := (k : Int)) (by omega) (by omega), if_pos (show (k : Int) < 20 by omega), if_pos (show (0 : Int) ≤ (k : Int) ∧ (k : Int) < 20 by omega), show ((k : Int)).toNat = k by omega, Option.bind_some, up_d (by omega : ¬ 0 = 4), n2', Option.bind_some, up_s]
        congr 2
        omega
      rw [eC, Option.bind_some, Option.bind_some, hk, tw (x := 106 + 4 * (k : Int)) (by omega) (by omega), if_pos (show (0 : Int) ≤ 106 + 4 * (k : Int) ∧ 106 + 4 * (k : Int) < 810 by omega), show (106 + 4 * (k : Int)).toNat = 106 + 4 * k by omega, Option.bind_some, up_j (by omega : ¬ 6 = 106 + 4 * k), hk, Option.bind_some, up_s]
      have ecell : ∀ a, sm_up (sm_up m1 1 (106 + 4 * k) t) 1 6 ((k : Int) + 1) a = if a = 1 then nu (nu (m1 1) (106 + 4 * k) t) 6 ((k : Int) + 1) else m1 a := fun a => by
        by_cases z : a = 1
        · rw [if_pos z, z, up_nu, up_nu]
        · rw [if_neg z, up_D z, up_D z]
      have e1 : sm_up (sm_up m1 1 (106 + 4 * k) t) 1 6 ((k : Int) + 1) 1 = nu (nu (m1 1) (106 + 4 * k) t) 6 ((k : Int) + 1) := by rw [ecell, if_pos rfl]
      have eo : ∀ a, ¬ a = 1 → sm_up (sm_up m1 1 (106 + 4 * k) t) 1 6 ((k : Int) + 1) a = m1 a := fun a ha => by rw [ecell, if_neg ha]
      have el : ∀ i, i < 61 → sm_lo 1 (sm_gl 1 61 (sm_up (sm_up (sm_lo 1 d1) 4 k t) 0 2 ((k : Int) + 1)) d1) i = sm_up (sm_up (sm_lo 1 d1) 4 k t) 0 2 ((k : Int) + 1) i := fun i hi => lo_gl _ d1 hi
      have en : ∀ i, ¬ i = 6 → ¬ i = 106 + 4 * k → nu (nu (m1 1) (106 + 4 * k) t) 6 ((k : Int) + 1) i = m1 1 i := fun i x y => by rw [nu_n x, nu_n y]
      have e6 : nu (nu (m1 1) (106 + 4 * k) t) 6 ((k : Int) + 1) 6 = (k : Int) + 1 := nu_s _ _ _
      have s0 : ∀ j, ¬ j = 2 → sm_up (sm_up (sm_lo 1 d1) 4 k t) 0 2 ((k : Int) + 1) 0 j = sm_lo 1 d1 0 j := fun j hj => by rw [up_j hj, up_d (by omega)]
      have sd : ∀ a, ¬ a = 0 → ¬ a = 4 → sm_up (sm_up (sm_lo 1 d1) 4 k t) 0 2 ((k : Int) + 1) a = sm_lo 1 d1 a := fun a x y => by rw [up_D x, up_D y]
      have s4 : ∀ j, sm_up (sm_up (sm_lo 1 d1) 4 k t) 0 2 ((k : Int) + 1) 4 j = if j = k then t else sm_lo 1 d1 4 j := fun j => by rw [up_d (by omega), up_k]
      have H := hD.1
      obtain ⟨a1', a2, a3, a4, a5, a6, b1, b2, b3, b4, b5, b6, b7, b8, b9⟩ := H
      have vp : ∀ p, vP (nu (nu (m1 1) (106 + 4 * k) t) 6 ((k : Int) + 1)) p = vP (m1 1) p := fun p => by rw [vP_o (by omega), vP_o (by omega)]
      have vc : ∀ p, vC (nu (nu (m1 1) (106 + 4 * k) t) 6 ((k : Int) + 1)) p = vC (m1 1) p := fun p => by rw [vC_o (by omega), vC_o (by omega)]
      have vg : ∀ p, vG (nu (nu (m1 1) (106 + 4 * k) t) 6 ((k : Int) + 1)) p = vG (m1 1) p := fun p => by rw [vG_o (by omega), vG_o (by omega)]
      have vm : ∀ p, vM (nu (nu (m1 1) (106 + 4 * k) t) 6 ((k : Int) + 1)) p = if p = k then nu (vM (m1 1) k) 0 t else vM (m1 1) p := fun p => by
        rw [vM_o (by omega)]
        exact vM_M (w := 0) (by omega)
      have hrd : rd (nu (nu (m1 1) (106 + 4 * k) t) 6 ((k : Int) + 1)) = rd (m1 1) := rd_nu (en 5 (by omega) (by omega)) b2.2.1 (fun i _ _ => en i (by omega) (by omega))
      have hRS : RS (sm_up (sm_up (sm_lo 1 d1) 4 k t) 0 2 ((k : Int) + 1)) (nu (nu (m1 1) (106 + 4 * k) t) 6 ((k : Int) + 1)) := by
        refine RS_grow hD.1 ?_ ?_ ?_ (rOK_nu (en 5 (by omega) (by omega)) (fun i _ _ => en i (by omega) (by omega)) b2) (by rw [e6]; omega) (Int.le_of_eq (en 7 (by omega) (by omega)).symm) (Int.le_of_eq (en 8 (by omega) (by omega)).symm) (en 9 (by omega) (by omega)) (en 0 (by omega) (by omega)) (en 10 (by omega) (by omega)) (en 11 (by omega) (by omega)) (en 12 (by omega) (by omega)) (fun p _ => ⟨vp p, sd _ (by omega) (by omega)⟩) (fun g _ => ⟨vg g, sd _ (by omega) (by omega)⟩) (fun c _ => ⟨vc c, sd _ (by omega) (by omega)⟩) (fun j hj => ?_) (fun p x y => ?_) (fun g x y => ?_) (fun j x y => ?_) ?_
        · obtain ⟨x1, x2, x3, x4, x5, x6, x7, x8⟩ := a1'
          unfold sR
          rw [e6, up_s, s0 4 (by omega), s0 6 (by omega), s0 8 (by omega), s0 10 (by omega), s0 11 (by omega), sd 8 (by omega) (by omega), sd 1 (by omega) (by omega), en 7 (by omega) (by omega), en 8 (by omega) (by omega), en 9 (by omega) (by omega), en 1 (by omega) (by omega), en 0 (by omega) (by omega), en 2 (by omega) (by omega), en 3 (by omega) (by omega), en 4 (by omega) (by omega), en 5 (by omega) (by omega)]
          exact ⟨rfl, x2, x3, x4, x5, x6, x7, x8⟩
        · unfold mR
          rw [hrd, sd 2 (by omega) (by omega), sd 3 (by omega) (by omega)]
          exact a2
        · unfold nS at b1 ⊢
          rw [e6, en 7 (by omega) (by omega), en 8 (by omega) (by omega), en 9 (by omega) (by omega), en 1 (by omega) (by omega), en 0 (by omega) (by omega), en 2 (by omega) (by omega), en 3 (by omega) (by omega), en 4 (by omega) (by omega)]
          exact ⟨b1.1, b1.2.1, b1.2.2.1, by omega, b1.2.2.2.2⟩
        · rw [vm, s4, if_neg (by omega), if_neg (by omega)]
          exact ⟨rfl, rfl⟩
        · rw [en 7 (by omega) (by omega)] at y
          omega
        · rw [en 8 (by omega) (by omega)] at y
          omega
        · rw [e6] at y
          have ejk : j = k := by omega
          subst ejk
          obtain ⟨z1, z2, z3⟩ := b9.1 j k20 x
          rw [s4, vm, if_pos rfl, if_pos rfl]
          exact ⟨rfl, by rw [nu_s]; omega, z1, z2, z3⟩
        · refine ⟨fun j x y => ?_, fun p x y => ?_, fun g x y => ?_⟩
          · rw [e6] at y
            rw [vm, if_neg (by omega)]
            exact b9.1 j x (by omega)
          · rw [en 7 (by omega) (by omega)] at y
            rw [vp]
            exact b9.2.1 p x y
          · rw [en 8 (by omega) (by omega)] at y
            rw [vg]
            exact b9.2.2 g x y
      refine ⟨(k : Int), _, ro1, _, rfl, ?_, DM_now hD (fun a ha => ?_) (eo 2 (by omega)) (eo 3 (by omega)) (eo 5 (by omega)) (by rw [eo 0 (by omega)]) (by rw [eo 0 (by omega)]) (by rw [eo 0 (by omega)]) ?_ (wk_up2 hD.2.1 ?_ ?_ (eo 6 (by omega)) (eo 7 (by omega)) (by rw [e1]; exact en 5 (by omega) (by omega)) (fun i _ _ => by rw [e1]; exact en i (by omega) (by omega)))⟩
      · congr 2
        omega
      · funext j
        exact gl_o (by omega)
      · rw [e1]
        exact RS_61 hRS el
      · rw [el 2 (by omega), sd 2 (by omega) (by omega)]
      · rw [el 3 (by omega), sd 3 (by omega) (by omega)]
    · rw [if_neg w, if_pos (show m 1 6 = 20 by omega)]
      exact ⟨_, _, _, _, rfl, rfl, h⟩
  · rw [if_pos (ix_n q), if_pos (ix_n q)]
    exact ⟨_, _, _, _, rfl, rfl, h⟩
