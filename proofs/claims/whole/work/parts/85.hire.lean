/-! ===== a patrol, a garage ===== -/
abbrev rB (r : Nat → Int) (a sk tw : Int) : Nat → Int := frC (nu (nu (nu (nu (nu (nu (nu (nu (nu r 0 a) 1 sk) 2 tw) 4 a) 9 0) 10 0) 11 0) 12 0) 13 0)
abbrev qB (q : Nat → Int) (a sk tw : Int) : Nat → Int := frM (nu (nu (nu (nu q 0 a) 1 sk) 2 tw) 4 a)
theorem k_hire {nc ng a sk tw : Int} {r q : Nat → Int} (h7 : q 7 = 0 ∧ q 8 = 0 ∧ q 9 = 0 ∧ q 10 = 0 ∧ q 11 = 0) (ha : 0 ≤ a ∧ a < 12) (hs : 1 ≤ sk ∧ sk ≤ 9) (ht : tw = 0 ∨ tw = 1) :
    pR (rB r a sk tw) (qB q a sk tw) ∧ pI nc ng (qB q a sk tw) ∧ qB q a sk tw 5 = -5 ∧ ¬ qB q a sk tw 3 = 3 := by
  unfold pR pI rB qB frC frM
  simp only [nu]
  simp
  omega
theorem beginP_c (D : Nat) (a sk tw : Int) (s : MI) (ht : tw = 0 ∨ tw = 1) : ∃ P, fPatrol_begin a sk tw (sm_lo D s) = some P ∧ P 0 = rB (s D) a sk tw := by
  unfold fPatrol_begin
  rw [Option.bind_some, Option.bind_some, if_pos ht, Option.bind_some, Option.bind_some, Option.bind_some, Option.bind_some, Option.bind_some, Option.bind_some, Option.bind_some]
  unfold fPatrol_becomeFree
  rw [Option.bind_some, Option.bind_some, Option.bind_some, Option.bind_some, Option.bind_some, Option.bind_some]
  refine ⟨_, rfl, ?_⟩
  rw [up_nu, up_nu, up_nu, up_nu, up_nu, up_nu, up_nu, up_nu, up_nu, up_nu, up_nu, up_nu, up_nu, up_nu]
  rfl
theorem addPatrol_eq {d m : MI} {ro : Nat → Nat} {x y z : Int} (h : DM d ro m) (hx : i32 x) (hy : i32 y) (hz : z = 0 ∨ z = 1) : ∃ v d' ro' m', fDesk_addPatrol x y z d ro = some (v, d', ro') ∧ fModel_addPatrol x y z m = some (v, m') ∧ DM d' ro' m' := by
  have a1 := h.1
  have n4 : d 1 4 = m 1 7 := a1.1.2.1
  have S7 : 0 ≤ m 1 7 ∧ m 1 7 ≤ 6 := a1.2.2.2.2.2.2.1.2.2.2.2.1
  unfold fDesk_addPatrol fModel_addPatrol
  rw [isArea_c hx, isArea_m hx, Option.bind_some, Option.bind_some, ix_w]
  by_cases q : 0 ≤ x ∧ x < 12
  · rw [if_neg (ix_y q), if_neg (ix_y q), in_eq hy (by unfold i32; omega) (by unfold i32; omega), Option.bind_some, tw hy.1 hy.2]
    by_cases r : 1 ≤ y ∧ y ≤ 9
    · rw [if_neg (show ¬ y < 1 by omega), if_pos r.2, if_pos r, w1, if_neg n10, n4, tw (x := m 1 7) (by omega) (by omega)]
      by_cases w : m 1 7 < 6
      · rw [if_pos w, if_neg (show ¬ m 1 7 = 6 by omega)]
        obtain ⟨d1, ro1, m1, eD, eM, hD, kd, k0, km, km0⟩ := record_eq h
        have q1 : m1 1 = m 1 := km 1 (by omega) (by omega)
        obtain ⟨p, hp⟩ : ∃ p : Nat, m1 1 7 = (p : Int) := ⟨(m 1 7).toNat, by rw [q1]; omega⟩
        have p6 : p < 6 := by rw [q1] at hp; omega
        have n4' : sm_lo 1 d1 0 4 = (p : Int) := hD.1.1.2.1.trans hp
        obtain ⟨P, eP, hP⟩ := beginP_c (10 + p) x y z (sm_lo 1 d1) hz
        have eC : fState_hire x y z (sm_lo 1 d1) = some ((p : Int), sm_up (sm_gl (10 + p) 1 P (sm_lo 1 d1)) 0 4 ((p : Int) + 1)) := by
          unfold fState_hire
          rw [n4', tw (x := (p : Int)) (by omega) (by omega), if_pos (show (p : Int) < 6 by omega), if_pos (show (0 : Int) ≤ (p : Int) ∧ (p : Int) < 6 by omega), show ((p : Int)).toNat = p by omega, eP, Option.bind_some, Option.bind_some, gl_oth _ _ (by omega : ¬ 0 = 10 + p), n4', Option.bind_some, up_s]
          congr 2
          omega
        have V2 := VW_P (VW_P (VW_0 m1 p6 (c := 0) (by omega)) 0 x (by omega)) 1 y (by omega)
        obtain ⟨m2, eF, V5⟩ := frees_V (VW_P (VW_P V2 2 z (by omega)) 4 x (by omega))
        have eJ : fModel_addPatrol_j79 x (p : Int) (p : Int) 2 z (mP (mP m1 p 0 x) p 1 y) = some ((p : Int), mS m2 7 ((p : Int) + 1)) := by
          unfold fModel_addPatrol_j79
          rw [laysPatrol_2 p6, Option.bind_some, laysPatrol_4 p6, Option.bind_some, eF, Option.bind_some, VW_n V5 (by omega : 7 < 10), hp, Option.bind_some]
          rfl
        have eMo : (if sm_w z = 0 then fModel_addPatrol_j79 x (p : Int) (p : Int) 2 0 (mP (mP m1 p 0 x) p 1 y) else fModel_addPatrol_j79 x (p : Int) (p : Int) 2 1 (mP (mP m1 p 0 x) p 1 y)) = some ((p : Int), mS m2 7 ((p : Int) + 1)) := by
          rcases hz with e | e
          · rw [e] at eJ ⊢
            rw [w0, if_pos rfl]
            exact eJ
          · rw [e] at eJ ⊢
            rw [w1, if_neg n10]
            exact eJ
        rw [eD, eM, Option.bind_some, Option.bind_some]
        dsimp only
        rw [eC, Option.bind_some, Option.bind_some, hp, laysPatrol_0 p6, Option.bind_some, laysPatrol_1 p6, Option.bind_some, eMo]
        have eo : ∀ a, ¬ a = 1 → mS m2 7 ((p : Int) + 1) a = m1 a := fun a ha => (mS_D ha).trans (V5.2.1 a ha)
        have el : ∀ i, i < 61 → sm_lo 1 (sm_gl 1 61 (sm_up (sm_gl (10 + p) 1 P (sm_lo 1 d1)) 0 4 ((p : Int) + 1)) d1) i = sm_up (sm_gl (10 + p) 1 P (sm_lo 1 d1)) 0 4 ((p : Int) + 1) i := fun i hi => lo_gl _ d1 hi
        have en : ∀ i, i < 13 → ¬ i = 7 → mS m2 7 ((p : Int) + 1) 1 i = m1 1 i := fun i hi hi' => by
          rw [n_mS hi']
          by_cases zz : i < 10
          · exact V5.2.2.1 i zz
          · obtain rfl | rfl | rfl : i = 10 ∨ i = 11 ∨ i = 12 := by omega
            · exact V5.2.2.2.2.2.2.2.1
            · exact V5.2.2.2.2.2.2.2.2.1
            · exact V5.2.2.2.1
        have er : ∀ i, 16 ≤ i → i < 106 → mS m2 7 ((p : Int) + 1) 1 i = m1 1 i := fun i hi hi' => by
          rw [n_mS (by omega)]
          exact V5.2.2.2.2.1 i hi hi'
        have e7 : mS m2 7 ((p : Int) + 1) 1 7 = (p : Int) + 1 := s_mS _ _ _
        have s0 : ∀ j, ¬ j = 4 → sm_up (sm_gl (10 + p) 1 P (sm_lo 1 d1)) 0 4 ((p : Int) + 1) 0 j = sm_lo 1 d1 0 j := fun j hj => by rw [up_j hj, gl_oth _ _ (by omega)]
        have sd : ∀ a, ¬ a = 0 → ¬ a = 10 + p → sm_up (sm_gl (10 + p) 1 P (sm_lo 1 d1)) 0 4 ((p : Int) + 1) a = sm_lo 1 d1 a := fun a u v => by rw [up_D u, gl_oth _ _ v]
        have sp : sm_up (sm_gl (10 + p) 1 P (sm_lo 1 d1)) 0 4 ((p : Int) + 1) (10 + p) = rB (sm_lo 1 d1 (10 + p)) x y z := by rw [up_D (by omega), gl_self, hP]
        have H := hD.1
        obtain ⟨a1', a2, a3, a4, a5, a6, b1, b2, b3, b4, b5, b6, b7, b8, b9⟩ := H
        have vp : ∀ p', p' < 6 → vP (mS m2 7 ((p : Int) + 1) 1) p' = if p' = p then qB (vP (m1 1) p) x y z else vP (m1 1) p' := fun p' hp' => by
          rw [vP_mS (by omega)]
          exact V5.2.2.2.2.2.1 p' hp'
        have vc : ∀ c, c < 40 → vC (mS m2 7 ((p : Int) + 1) 1) c = vC (m1 1) c := fun c hc => by
          rw [vC_mS (by omega), V5.2.2.2.2.2.2.1 c hc]
          by_cases zz : c = 0
          · rw [if_pos zz, zz]
          · rw [if_neg zz]
        have vg : ∀ g, g < 5 → vG (mS m2 7 ((p : Int) + 1) 1) g = vG (m1 1) g := fun g hg => by
          rw [vG_mS (by omega)]
          exact V5.2.2.2.2.2.2.2.2.2.2 g hg
        have vm : ∀ k, k < 20 → vM (mS m2 7 ((p : Int) + 1) 1) k = vM (m1 1) k := fun k hk => by
          rw [vM_mS (by omega)]
          exact V5.2.2.2.2.2.2.2.2.2.1 k hk
        have hrd : rd (mS m2 7 ((p : Int) + 1) 1) = rd (m1 1) := rd_nu (en 5 (by omega) (by omega)) b2.2.1 er
        have bS := b1
        obtain ⟨_, _, _, S6, _, S8, S9⟩ := bS
        have hRS : RS (sm_up (sm_gl (10 + p) 1 P (sm_lo 1 d1)) 0 4 ((p : Int) + 1)) (mS m2 7 ((p : Int) + 1) 1) := by
          refine RS_grow hD.1 ?_ ?_ ?_ (rOK_nu (en 5 (by omega) (by omega)) er b2) (Int.le_of_eq (en 6 (by omega) (by omega)).symm) (by rw [e7]; omega) (Int.le_of_eq (en 8 (by omega) (by omega)).symm) (en 9 (by omega) (by omega)) (en 0 (by omega) (by omega)) (en 10 (by omega) (by omega)) (en 11 (by omega) (by omega)) (en 12 (by omega) (by omega)) (fun p' hp' => ?_) (fun g hg => ⟨vg g (by omega), sd _ (by omega) (by omega)⟩) (fun c hc => ⟨vc c (by omega), sd _ (by omega) (by omega)⟩) (fun k hk => ⟨vm k (by omega), by rw [sd 4 (by omega) (by omega)]⟩) (fun p' u v => ?_) (fun g u v => ?_) (fun k u v => ?_) ?_
          · obtain ⟨x1, x2, x3, x4, x5, x6, x7, x8⟩ := a1'
            unfold sR
            rw [e7, up_s, s0 2 (by omega), s0 6 (by omega), s0 8 (by omega), s0 10 (by omega), s0 11 (by omega), sd 8 (by omega) (by omega), sd 1 (by omega) (by omega), en 6 (by omega) (by omega), en 8 (by omega) (by omega), en 9 (by omega) (by omega), en 1 (by omega) (by omega), en 0 (by omega) (by omega), en 2 (by omega) (by omega), en 3 (by omega) (by omega), en 4 (by omega) (by omega), en 5 (by omega) (by omega)]
            exact ⟨x1, rfl, x3, x4, x5, x6, x7, x8⟩
          · unfold mR
            rw [hrd, sd 2 (by omega) (by omega), sd 3 (by omega) (by omega)]
            exact a2
          · unfold nS at b1 ⊢
            rw [e7, en 6 (by omega) (by omega), en 8 (by omega) (by omega), en 9 (by omega) (by omega), en 1 (by omega) (by omega), en 0 (by omega) (by omega), en 2 (by omega) (by omega), en 3 (by omega) (by omega), en 4 (by omega) (by omega)]
            exact ⟨b1.1, b1.2.1, b1.2.2.1, b1.2.2.2.1, by omega, b1.2.2.2.2.2⟩
          · rw [vp p' (by omega), if_neg (by omega)]
            exact ⟨rfl, sd _ (by omega) (by omega)⟩
          · rw [e7] at v
            have ep : p' = p := by omega
            subst ep
            rw [vp p' p6, if_pos rfl, sp]
            exact k_hire (b9.2.1 p' p6 u) q r hz
          · rw [en 8 (by omega) (by omega)] at v
            omega
          · rw [en 6 (by omega) (by omega)] at v
            omega
          · refine ⟨fun j u v => ?_, fun p' u v => ?_, fun g u v => ?_⟩
            · rw [en 6 (by omega) (by omega)] at v
              rw [vm j u]
              exact b9.1 j u v
            · rw [e7] at v
              rw [vp p' u, if_neg (by omega)]
              exact b9.2.1 p' u (by omega)
            · rw [en 8 (by omega) (by omega)] at v
              rw [vg g u]
              exact b9.2.2 g u v
        refine ⟨(p : Int), _, ro1, _, rfl, rfl, DM_now hD (fun a ha => ?_) (eo 2 (by omega)) (eo 3 (by omega)) (eo 5 (by omega)) (by rw [eo 0 (by omega)]) (by rw [eo 0 (by omega)]) (by rw [eo 0 (by omega)]) (RS_61 hRS el) (wk_up2 hD.2.1 ?_ ?_ (eo 6 (by omega)) (eo 7 (by omega)) (en 5 (by omega) (by omega)) er)⟩
        · funext j
          exact gl_o (by omega)
        · rw [el 2 (by omega), sd 2 (by omega) (by omega)]
        · rw [el 3 (by omega), sd 3 (by omega) (by omega)]
      · rw [if_neg w, if_pos (show m 1 7 = 6 by omega)]
        exact ⟨_, _, _, _, rfl, rfl, h⟩
    · rw [if_neg r, w0, if_pos rfl]
      by_cases w : y < 1
      · rw [if_pos w]
        exact ⟨_, _, _, _, rfl, rfl, h⟩
      · rw [if_neg w, if_neg (show ¬ y ≤ 9 by omega)]
        exact ⟨_, _, _, _, rfl, rfl, h⟩
  · rw [if_pos (ix_n q), if_pos (ix_n q)]
    exact ⟨_, _, _, _, rfl, rfl, h⟩
theorem beginG_c (D : Nat) (a pl : Int) (s : MI) : ∃ P, fGarage_begin a pl (sm_lo D s) = some P ∧ P 0 = nu (nu (nu (nu (nu (s D) 0 a) 1 pl) 2 0) 3 0) 4 0 := by
  unfold fGarage_begin
  rw [Option.bind_some, Option.bind_some, Option.bind_some, Option.bind_some, Option.bind_some]
  refine ⟨_, rfl, ?_⟩
  rw [up_nu, up_nu, up_nu, up_nu, up_nu]
  rfl
theorem addGarage_eq {d m : MI} {ro : Nat → Nat} {x y : Int} (h : DM d ro m) (hx : i32 x) (hy : i32 y) : ∃ v d' ro' m', fDesk_addGarage x y d ro = some (v, d', ro') ∧ fModel_addGarage x y m = some (v, m') ∧ DM d' ro' m' := by
  have a1 := h.1
  have n6 : d 1 6 = m 1 8 := a1.1.2.2.1
  have S8 : 0 ≤ m 1 8 ∧ m 1 8 ≤ 5 := a1.2.2.2.2.2.2.1.2.2.2.2.2.1
  unfold fDesk_addGarage fModel_addGarage
  rw [isArea_c hx, isArea_m hx, Option.bind_some, Option.bind_some, ix_w]
  by_cases q : 0 ≤ x ∧ x < 12
  · rw [if_neg (ix_y q), if_neg (ix_y q), in_eq hy (by unfold i32; omega) (by unfold i32; omega), Option.bind_some, tw hy.1 hy.2]
    by_cases r : 1 ≤ y ∧ y ≤ 9
    · rw [if_neg (show ¬ y < 1 by omega), if_pos r.2, if_pos r, w1, if_neg n10, n6, tw (x := m 1 8) (by omega) (by omega)]
      by_cases w : m 1 8 < 5
      · rw [if_pos w, if_neg (show ¬ m 1 8 = 5 by omega)]
        obtain ⟨d1, ro1, m1, eD, eM, hD, kd, k0, km, km0⟩ := record_eq h
        have q1 : m1 1 = m 1 := km 1 (by omega) (by omega)
        obtain ⟨g, hg⟩ : ∃ p : Nat, m1 1 8 = (p : Int) := ⟨(m 1 8).toNat, by rw [q1]; omega⟩
        have g5 : g < 5 := by rw [q1] at hg; omega
        have n6' : sm_lo 1 d1 0 6 = (g : Int) := hD.1.1.2.2.1.trans hg
        obtain ⟨P, eP, hP⟩ := beginG_c (16 + g) x y (sm_lo 1 d1)
        have eC : fState_open x y (sm_lo 1 d1) = some ((g : Int), sm_up (sm_gl (16 + g) 1 P (sm_lo 1 d1)) 0 6 ((g : Int) + 1)) := by
          unfold fState_open
          rw [n6', tw (x := (g : Int)) (by omega) (by omega), if_pos (show (g : Int) < 5 by omega), if_pos (show (0 : Int) ≤ (g : Int) ∧ (g : Int) < 5 by omega), show ((g : Int)).toNat = g by omega, eP, Option.bind_some, Option.bind_some, gl_oth _ _ (by omega : ¬ 0 = 16 + g), n6', Option.bind_some, up_s]
          congr 2
          omega
        rw [eD, eM, Option.bind_some, Option.bind_some]
        dsimp only
        rw [eC, Option.bind_some, Option.bind_some, hg, tw (x := 270 + 4 * (g : Int)) (by omega) (by omega), if_pos (show (0 : Int) ≤ 270 + 4 * (g : Int) ∧ 270 + 4 * (g : Int) < 810 by omega), show (270 + 4 * (g : Int)).toNat = 270 + 4 * g by omega, Option.bind_some, tw (x := 270 + 4 * (g : Int) + 1) (by omega) (by omega), if_pos (show (0 : Int) ≤ 270 + 4 * (g : Int) + 1 ∧ 270 + 4 * (g : Int) + 1 < 810 by omega), show (270 + 4 * (g : Int) + 1).toNat = 270 + 4 * g + 1 by omega, Option.bind_some, up_j (by omega : ¬ 8 = 270 + 4 * g + 1), up_j (by omega : ¬ 8 = 270 + 4 * g), hg, Option.bind_some, up_s]
        have eo : ∀ a, ¬ a = 1 → sm_up (sm_up (sm_up m1 1 (270 + 4 * g) x) 1 (270 + 4 * g + 1) y) 1 8 ((g : Int) + 1) a = m1 a := fun a ha => by rw [up_D ha, up_D ha, up_D ha]
        have e1 : sm_up (sm_up (sm_up m1 1 (270 + 4 * g) x) 1 (270 + 4 * g + 1) y) 1 8 ((g : Int) + 1) 1 = nu (nu (nu (m1 1) (270 + 4 * g) x) (270 + 4 * g + 1) y) 8 ((g : Int) + 1) := by rw [up_nu, up_nu, up_nu]
        have el : ∀ i, i < 61 → sm_lo 1 (sm_gl 1 61 (sm_up (sm_gl (16 + g) 1 P (sm_lo 1 d1)) 0 6 ((g : Int) + 1)) d1) i = sm_up (sm_gl (16 + g) 1 P (sm_lo 1 d1)) 0 6 ((g : Int) + 1) i := fun i hi => lo_gl _ d1 hi
        have en : ∀ i, ¬ i = 8 → (i < 270 ∨ 290 ≤ i) → nu (nu (nu (m1 1) (270 + 4 * g) x) (270 + 4 * g + 1) y) 8 ((g : Int) + 1) i = m1 1 i := fun i u v => by rw [nu_n u, nu_n (by omega), nu_n (by omega)]
        have e8 : nu (nu (nu (m1 1) (270 + 4 * g) x) (270 + 4 * g + 1) y) 8 ((g : Int) + 1) 8 = (g : Int) + 1 := nu_s _ _ _
        have s0 : ∀ j, ¬ j = 6 → sm_up (sm_gl (16 + g) 1 P (sm_lo 1 d1)) 0 6 ((g : Int) + 1) 0 j = sm_lo 1 d1 0 j := fun j hj => by rw [up_j hj, gl_oth _ _ (by omega)]
        have sd : ∀ a, ¬ a = 0 → ¬ a = 16 + g → sm_up (sm_gl (16 + g) 1 P (sm_lo 1 d1)) 0 6 ((g : Int) + 1) a = sm_lo 1 d1 a := fun a u v => by rw [up_D u, gl_oth _ _ v]
        have sp : sm_up (sm_gl (16 + g) 1 P (sm_lo 1 d1)) 0 6 ((g : Int) + 1) (16 + g) = nu (nu (nu (nu (nu (sm_lo 1 d1 (16 + g)) 0 x) 1 y) 2 0) 3 0) 4 0 := by rw [up_D (by omega), gl_self, hP]
        have H := hD.1
        obtain ⟨a1', a2, a3, a4, a5, a6, b1, b2, b3, b4, b5, b6, b7, b8, b9⟩ := H
        have vp : ∀ p, p < 6 → vP (nu (nu (nu (m1 1) (270 + 4 * g) x) (270 + 4 * g + 1) y) 8 ((g : Int) + 1)) p = vP (m1 1) p := fun p hp => by rw [vP_o (by omega), vP_o (by omega), vP_o (by omega)]
        have vc : ∀ c, vC (nu (nu (nu (m1 1) (270 + 4 * g) x) (270 + 4 * g + 1) y) 8 ((g : Int) + 1)) c = vC (m1 1) c := fun c => by rw [vC_o (by omega), vC_o (by omega), vC_o (by omega)]
        have vm : ∀ k, k < 20 → vM (nu (nu (nu (m1 1) (270 + 4 * g) x) (270 + 4 * g + 1) y) 8 ((g : Int) + 1)) k = vM (m1 1) k := fun k hk => by rw [vM_o (by omega), vM_o (by omega), vM_o (by omega)]
        have vg : ∀ g', vG (nu (nu (nu (m1 1) (270 + 4 * g) x) (270 + 4 * g + 1) y) 8 ((g : Int) + 1)) g' = if g' = g then nu (nu (vG (m1 1) g) 0 x) 1 y else vG (m1 1) g' := fun g' => by
          rw [vG_o (by omega), vG_G (w := 1) (by omega)]
          by_cases zz : g' = g
          · rw [if_pos zz, if_pos zz]
            congr 1
            exact (vG_G (w := 0) (by omega)).trans (if_pos rfl)
          · rw [if_neg zz, if_neg zz]
            exact (vG_G (w := 0) (by omega)).trans (if_neg zz)
        have hrd : rd (nu (nu (nu (m1 1) (270 + 4 * g) x) (270 + 4 * g + 1) y) 8 ((g : Int) + 1)) = rd (m1 1) := rd_nu (en 5 (by omega) (by omega)) b2.2.1 (fun i _ _ => en i (by omega) (by omega))
        have bS := b1
        obtain ⟨_, _, _, S6, S7, _, S9⟩ := bS
        have hRS : RS (sm_up (sm_gl (16 + g) 1 P (sm_lo 1 d1)) 0 6 ((g : Int) + 1)) (nu (nu (nu (m1 1) (270 + 4 * g) x) (270 + 4 * g + 1) y) 8 ((g : Int) + 1)) := by
          refine RS_grow hD.1 ?_ ?_ ?_ (rOK_nu (en 5 (by omega) (by omega)) (fun i _ _ => en i (by omega) (by omega)) b2) (Int.le_of_eq (en 6 (by omega) (by omega)).symm) (Int.le_of_eq (en 7 (by omega) (by omega)).symm) (by rw [e8]; omega) (en 9 (by omega) (by omega)) (en 0 (by omega) (by omega)) (en 10 (by omega) (by omega)) (en 11 (by omega) (by omega)) (en 12 (by omega) (by omega)) (fun p hp => ⟨vp p (by omega), sd _ (by omega) (by omega)⟩) (fun g' hg' => ?_) (fun c hc => ⟨vc c, sd _ (by omega) (by omega)⟩) (fun k hk => ⟨vm k (by omega), by rw [sd 4 (by omega) (by omega)]⟩) (fun p u v => ?_) (fun g' u v => ?_) (fun k u v => ?_) ?_
          · obtain ⟨x1, x2, x3, x4, x5, x6, x7, x8⟩ := a1'
            unfold sR
            rw [e8, up_s, s0 2 (by omega), s0 4 (by omega), s0 8 (by omega), s0 10 (by omega), s0 11 (by omega), sd 8 (by omega) (by omega), sd 1 (by omega) (by omega), en 6 (by omega) (by omega), en 7 (by omega) (by omega), en 9 (by omega) (by omega), en 1 (by omega) (by omega), en 0 (by omega) (by omega), en 2 (by omega) (by omega), en 3 (by omega) (by omega), en 4 (by omega) (by omega), en 5 (by omega) (by omega)]
            exact ⟨x1, x2, rfl, x4, x5, x6, x7, x8⟩
          · unfold mR
            rw [hrd, sd 2 (by omega) (by omega), sd 3 (by omega) (by omega)]
            exact a2
          · unfold nS at b1 ⊢
            rw [e8, en 6 (by omega) (by omega), en 7 (by omega) (by omega), en 9 (by omega) (by omega), en 1 (by omega) (by omega), en 0 (by omega) (by omega), en 2 (by omega) (by omega), en 3 (by omega) (by omega), en 4 (by omega) (by omega)]
            exact ⟨b1.1, b1.2.1, b1.2.2.1, b1.2.2.2.1, b1.2.2.2.2.1, by omega, b1.2.2.2.2.2.2⟩
          · rw [vg, if_neg (by omega)]
            exact ⟨rfl, sd _ (by omega) (by omega)⟩
          · rw [en 7 (by omega) (by omega)] at v
            omega
          · rw [e8] at v
            have ep : g' = g := by omega
            subst ep
            obtain ⟨z2, z3⟩ := b9.2.2 g' g5 u
            rw [vg, if_pos rfl, sp]
            simp only [nu]
            simp
            simp at z2 z3
            omega
          · rw [en 6 (by omega) (by omega)] at v
            omega
          · refine ⟨fun j u v => ?_, fun p u v => ?_, fun g' u v => ?_⟩
            · rw [en 6 (by omega) (by omega)] at v
              rw [vm j u]
              exact b9.1 j u v
            · rw [en 7 (by omega) (by omega)] at v
              rw [vp p u]
              exact b9.2.1 p u v
            · rw [e8] at v
              rw [vg, if_neg (by omega)]
              exact b9.2.2 g' u (by omega)
        refine ⟨(g : Int), _, ro1, _, rfl, ?_, DM_now hD (fun a ha => ?_) (eo 2 (by omega)) (eo 3 (by omega)) (eo 5 (by omega)) (by rw [eo 0 (by omega)]) (by rw [eo 0 (by omega)]) (by rw [eo 0 (by omega)]) ?_ (wk_up2 hD.2.1 ?_ ?_ (eo 6 (by omega)) (eo 7 (by omega)) (by rw [e1]; exact en 5 (by omega) (by omega)) (fun i _ _ => by rw [e1]; exact en i (by omega) (by omega)))⟩
        · congr 2
          omega
        · funext j
          exact gl_o (by omega)
        · rw [e1]
          exact RS_61 hRS el
        · rw [el 2 (by omega), sd 2 (by omega) (by omega)]
        · rw [el 3 (by omega), sd 3 (by omega) (by omega)]
      · rw [if_neg w, if_pos (show m 1 8 = 5 by omega)]
        exact ⟨_, _, _, _, rfl, rfl, h⟩
    · rw [if_neg r, w0, if_pos rfl]
      by_cases w : y < 1
      · rw [if_pos w]
        exact ⟨_, _, _, _, rfl, rfl, h⟩
      · rw [if_neg w, if_neg (show ¬ y ≤ 9 by omega)]
        exact ⟨_, _, _, _, rfl, rfl, h⟩
  · rw [if_pos (ix_n q), if_pos (ix_n q)]
    exact ⟨_, _, _, _, rfl, rfl, h⟩
