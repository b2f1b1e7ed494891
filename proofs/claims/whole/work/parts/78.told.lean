/-! ===== fetch, goHome, duty ===== -/
theorem fetch_eq {d m : MI} {ro : Nat → Nat} {y z : Int} (h : DM d ro m) (hy : i32 y) (hz : i32 z) : ∃ v d' ro' m', fDesk_fetch y z d ro = some (v, d', ro') ∧ fModel_fetch y z m = some (v, m') ∧ DM d' ro' m' := by
  have a1 := h.1
  have n6 : sm_lo 1 d 0 6 = m 1 8 := a1.1.2.2.1
  have S8 : 0 ≤ m 1 8 ∧ m 1 8 ≤ 5 := a1.2.2.2.2.2.2.1.2.2.2.2.2.1
  unfold fDesk_fetch fModel_fetch
  rw [isGarage_c hy n6 S8, isGarage_m hy S8, Option.bind_some, Option.bind_some, ix_w]
  by_cases q : 0 ≤ y ∧ y < m 1 8
  · rw [if_neg (ix_y q), if_neg (ix_y q), in_eq hz (by unfold i32; omega) (by unfold i32; omega), Option.bind_some, tw hz.1 hz.2]
    obtain ⟨g, rfl⟩ : ∃ k : Nat, y = (k : Int) := ⟨y.toNat, by omega⟩
    have g5 : g < 5 := by omega
    obtain ⟨⟨_, _, e2, _, _⟩, _, G1, G2, G3⟩ := RS_g a1 q.2
    have eg : d (1 + (16 + g)) 2 = vG (m 1) g 2 := e2
    have hu := uw_nn (m 1) g
    by_cases x : 1 ≤ z ∧ z ≤ 9
    · rw [if_neg (by omega), if_pos x.2, if_pos x, w1, if_neg n10, tw (x := (g : Int)) (by omega) (by omega), if_pos (by omega), show ((g : Int)).toNat = g by omega, eg, ofGarage_2 g5, Option.bind_some, tw (x := vG (m 1) g 2) (by omega) (by omega)]
      by_cases w : z ≤ vG (m 1) g 2
      · rw [if_pos w, if_pos w]
        obtain ⟨d1, ro1, m1, eD, eM, hD, kd, k0, km, km0⟩ := record_eq h
        have q1 : m1 1 = m 1 := km 1 (by omega) (by omega)
        have ed : d1 (1 + (16 + g)) 2 = vG (m1 1) g 2 := by rw [kd _ (by omega) (by omega), q1]; exact eg
        have em : m1 1 (270 + 4 * g + 2) = vG (m1 1) g 2 := rfl
        rw [eD, eM, Option.bind_some, Option.bind_some, Option.bind_some, up_s]
        dsimp only
        rw [tw (x := 270 + 4 * (g : Int) + 2) (by omega) (by omega), if_pos (by omega), show (270 + 4 * (g : Int) + 2).toNat = 270 + 4 * g + 2 by omega, Option.bind_some, ofGarage_2 g5, Option.bind_some, ed, em]
        have V : vG (mG m1 g 2 (vG (m1 1) g 2 - z) 1) g 2 = vG (m1 1) g 2 - z := by
          rw [vG_mG (by omega), if_pos rfl, nu_s]
        have hR := hD.1
        have H := hR
        obtain ⟨a1', a2, a3, a4, a5, a6, b1, b2, b3, b4, b5, b6, b7, b8, b9⟩ := H
        have e1 : mG m1 g 2 (vG (m1 1) g 2 - z) 1 = nu (m1 1) (270 + 4 * g + 2) (vG (m1 1) g 2 - z) := mG_1 _ _ _ _
        have fr : ∀ a, ¬ a = 16 + g → sm_lo 1 (sm_up d1 (1 + (16 + g)) 2 (vG (m1 1) g 2 - z)) a = sm_lo 1 d1 a := fun a ha => by
          show sm_up d1 (1 + (16 + g)) 2 (vG (m1 1) g 2 - z) (1 + a) = d1 (1 + a)
          exact up_D (by omega)
        have sf : ∀ j, sm_lo 1 (sm_up d1 (1 + (16 + g)) 2 (vG (m1 1) g 2 - z)) (16 + g) j = if j = 2 then vG (m1 1) g 2 - z else sm_lo 1 d1 (16 + g) j := fun j => up_k
        have hR' : RS (sm_lo 1 (sm_up d1 (1 + (16 + g)) 2 (vG (m1 1) g 2 - z))) (mG m1 g 2 (vG (m1 1) g 2 - z) 1) := by
          refine RS_upd hR ?_ ?_ (fun i _ hi => by rw [e1]; exact nu_n (by omega)) (by rw [e1]; exact nu_n (by omega)) (fr 2 (by omega)) (fr 3 (by omega)) (fr 4 (by omega)) (fun p hp => ?_) (fun p hp _ => vP_mG g5 hp (by omega)) (fun g' hg' => ?_) (fun g' hg' h8 => ?_) (fun c hc => ?_) (nL_same (by rw [e1]; exact nu_n (by omega)) (by rw [e1]; exact nu_n (by omega)) (fun p hp => Or.inl (vP_mG g5 (by have := b1.2.2.2.2.1; omega) (by omega))) (fun c hc => vC_mG g5 (by have := b1.2.2.2.2.2.2; omega) (by omega)) b4 b6 b7)
          · unfold sR
            rw [fr 0 (by omega), fr 8 (by omega), fr 1 (by omega), e1, nu_n (by omega : ¬ 6 = 270 + 4 * g + 2), nu_n (by omega : ¬ 7 = 270 + 4 * g + 2), nu_n (by omega : ¬ 8 = 270 + 4 * g + 2), nu_n (by omega : ¬ 9 = 270 + 4 * g + 2), nu_n (by omega : ¬ 1 = 270 + 4 * g + 2), nu_n (by omega : ¬ 0 = 270 + 4 * g + 2), nu_n (by omega : ¬ 2 = 270 + 4 * g + 2), nu_n (by omega : ¬ 3 = 270 + 4 * g + 2), nu_n (by omega : ¬ 4 = 270 + 4 * g + 2), nu_n (by omega : ¬ 5 = 270 + 4 * g + 2)]
            exact a1'
          · unfold nS
            rw [e1, nu_n (by omega : ¬ 6 = 270 + 4 * g + 2), nu_n (by omega : ¬ 7 = 270 + 4 * g + 2), nu_n (by omega : ¬ 8 = 270 + 4 * g + 2), nu_n (by omega : ¬ 9 = 270 + 4 * g + 2), nu_n (by omega : ¬ 1 = 270 + 4 * g + 2), nu_n (by omega : ¬ 0 = 270 + 4 * g + 2), nu_n (by omega : ¬ 2 = 270 + 4 * g + 2), nu_n (by omega : ¬ 3 = 270 + 4 * g + 2), nu_n (by omega : ¬ 4 = 270 + 4 * g + 2)]
            exact b1
          · have p6 : p < 6 := by
              have := b1.2.2.2.2.1
              omega
            rw [vP_mG g5 p6 (by omega), fr (10 + p) (by omega)]
            exact ⟨a4 p hp, b4 p hp, Iff.rfl, rfl⟩
          · have y := a5 g' hg'
            have y' := b5 g' hg'
            rw [vG_mG (by omega)]
            by_cases k : g' = g
            · subst k
              rw [if_pos rfl, sf, sf, sf, sf, sf]
              simp only [nu]
              simp
              rw [q1] at y y' ⊢
              exact ⟨⟨by omega, by omega⟩, y.1, y.2.1, y.2.2.2.1, y.2.2.2.2⟩
            · rw [if_neg k, fr (16 + g') (by omega)]
              exact ⟨⟨rfl, rfl, y'.2.2.1, Int.le_refl _⟩, y⟩
          · rw [vG_mG (by omega), if_neg]
            rw [q1] at h8
            omega
          · rw [vC_mG g5 (by have := b1.2.2.2.2.2.2; omega) (by omega), fr (21 + c) (by omega)]
            exact ⟨a6 c hc, b6 c hc, rfl, rfl, rfl, Iff.rfl⟩
        refine ⟨_, _, _, _, rfl, ?_, DM_now hD (fun a ha => up_D (by omega)) (mG_D (by omega)) (mG_D (by omega)) (mG_D (by omega)) (by rw [mG_D (by omega)]) (by rw [mG_D (by omega)]) (by rw [mG_D (by omega)]) hR' (wk_upd hD.2.1 (fr 2 (by omega)) (fr 3 (by omega)) (mG_D (by omega)) (mG_D (by omega)) (fun i _ _ => by rw [e1]; exact nu_n (by omega)))⟩
        rw [show vG (sm_up m1 1 (270 + 4 * g + 2) (vG (m1 1) g 2 - z) 1) g 2 = vG (m1 1) g 2 - z from V]
        rfl
      · rw [if_neg w, if_neg w]
        exact ⟨_, _, _, _, rfl, rfl, h⟩
    · rw [if_neg x, w0, if_pos rfl]
      by_cases w : z < 1
      · rw [if_pos w]
        exact ⟨_, _, _, _, rfl, rfl, h⟩
      · rw [if_neg w, if_neg (by omega)]
        exact ⟨_, _, _, _, rfl, rfl, h⟩
  · rw [if_pos (ix_n q), if_pos (ix_n q)]
    exact ⟨_, _, _, _, rfl, rfl, h⟩
/-- one patrol with no call changes -/
theorem RS_pat {s s' m : MI} {p w : Nat} {v : Int} (h : RS s (m 1)) (hp : (p : Int) < m 1 7) (hw : w < 14) (es : ∀ a, ¬ a = 10 + p → s' a = s a) (hR : pR (s' (10 + p)) (nu (vP (m 1) p) w v)) (hI : pI (m 1 9) (m 1 8) (nu (vP (m 1) p) w v))
    (h5 : vP (m 1) p 5 = -5 ∧ nu (vP (m 1) p) w v 5 = -5) (h3 : ¬ vP (m 1) p 3 = 3 ∧ ¬ nu (vP (m 1) p) w v 3 = 3 ∧ nu (vP (m 1) p) w v 13 = vP (m 1) p 13) : RS s' (mP m p w v 1) := by
  have H := h
  obtain ⟨a1, a2, a3, a4, a5, a6, b1, b2, b3, b4, b5, b6, b7, b8, b9⟩ := H
  have p6 : p < 6 := by have := b1.2.2.2.2.1; omega
  have e1 : mP m p w v 1 = nu (m 1) (186 + 14 * p + w) v := mP_1 _ _ _ _
  have en : ∀ i, i < 186 → mP m p w v 1 i = m 1 i := fun i hi => by rw [e1]; exact nu_n (by omega)
  refine RS_upd h ?_ ?_ (fun i _ hi => en i hi) (en 0 (by omega)) (es 2 (by omega)) (es 3 (by omega)) (es 4 (by omega)) (fun p' hp' => ?_) (fun p' hp' h7 => ?_) (fun g hg => ?_) (fun g hg _ => vG_mP p6 hg hw) (fun c hc => ?_) (nL_same (en 7 (by omega)) (en 9 (by omega)) (fun p' hp' => ?_) (fun c hc => vC_mP p6 (by have := b1.2.2.2.2.2.2; omega) hw) b4 b6 b7)
  · unfold sR
    rw [es 0 (by omega), es 8 (by omega), es 1 (by omega), en 6 (by omega), en 7 (by omega), en 8 (by omega), en 9 (by omega), en 1 (by omega), en 0 (by omega), en 2 (by omega), en 3 (by omega), en 4 (by omega), en 5 (by omega)]
    exact a1
  · unfold nS
    rw [en 6 (by omega), en 7 (by omega), en 8 (by omega), en 9 (by omega), en 1 (by omega), en 0 (by omega), en 2 (by omega), en 3 (by omega), en 4 (by omega)]
    exact b1
  · rw [vP_mP hw]
    by_cases k : p' = p
    · subst k
      rw [if_pos rfl]
      exact ⟨hR, hI, ⟨fun e => absurd e h3.2.1, fun e => absurd e h3.1⟩, h3.2.2⟩
    · rw [if_neg k, es (10 + p') (by omega)]
      exact ⟨a4 p' hp', b4 p' hp', Iff.rfl, rfl⟩
  · rw [vP_mP hw, if_neg (by omega)]
  · rw [vG_mP p6 (by have := b1.2.2.2.2.2.1; omega) hw, es (16 + g) (by omega)]
    exact ⟨⟨rfl, rfl, (b5 g hg).2.2.1, Int.le_refl _⟩, a5 g hg⟩
  · rw [vC_mP p6 (by have := b1.2.2.2.2.2.2; omega) hw, es (21 + c) (by omega)]
    exact ⟨a6 c hc, b6 c hc, rfl, rfl, rfl, Iff.rfl⟩
  · rw [vP_mP hw]
    by_cases k : p' = p
    · subst k
      rw [if_pos rfl]
      exact Or.inr h5
    · rw [if_neg k]
      exact Or.inl rfl
/-- the desk and the model after a patrol's number is laid -/
theorem DM_pat {d m : MI} {ro : Nat → Nat} {p j w : Nat} {v : Int} (hD : DM d ro m) (hp : (p : Int) < m 1 7) (hw : w < 14) (hR : pR (nu (d (1 + (10 + p))) j v) (nu (vP (m 1) p) w v)) (hI : pI (m 1 9) (m 1 8) (nu (vP (m 1) p) w v))
    (h5 : vP (m 1) p 5 = -5 ∧ nu (vP (m 1) p) w v 5 = -5) (h3 : ¬ vP (m 1) p 3 = 3 ∧ ¬ nu (vP (m 1) p) w v 3 = 3 ∧ nu (vP (m 1) p) w v 13 = vP (m 1) p 13) : DM (sm_up d (1 + (10 + p)) j v) ro (mP m p w v) := by
  have fr : ∀ a, ¬ a = 10 + p → sm_lo 1 (sm_up d (1 + (10 + p)) j v) a = sm_lo 1 d a := fun a ha => by
    show sm_up d (1 + (10 + p)) j v (1 + a) = d (1 + a)
    exact up_D (by omega)
  have p6 : p < 6 := by have := hD.1.2.2.2.2.2.2.1.2.2.2.2.1; omega
  refine DM_now hD (fun a ha => up_D (by omega)) (mP_D (by omega)) (mP_D (by omega)) (mP_D (by omega)) (by rw [mP_D (by omega)]) (by rw [mP_D (by omega)]) (by rw [mP_D (by omega)]) (RS_pat hD.1 hp hw fr ?_ hI h5 h3) (wk_upd hD.2.1 (fr 2 (by omega)) (fr 3 (by omega)) (mP_D (by omega)) (mP_D (by omega)) (fun i _ hi => n_mP hi))
  show pR (sm_up d (1 + (10 + p)) j v (1 + (10 + p))) _
  rw [up_nu]
  exact hR
theorem k_home {nc ng x : Int} {r q : Nat → Int} (hR : pR r q) (hI : pI nc ng q) (h3 : q 3 = 0) (hx : 0 ≤ x ∧ x < 12) : pR (nu r 4 x) (nu q 4 x) ∧ pI nc ng (nu q 4 x) ∧ (q 5 = -5 ∧ nu q 4 x 5 = -5) ∧ ¬ q 3 = 3 ∧ ¬ nu q 4 x 3 = 3 ∧ nu q 4 x 13 = q 13 := by
  unfold pR at hR ⊢
  unfold pI at hI ⊢
  simp only [nu]
  simp
  omega
theorem k_duty {nc ng x : Int} {r q : Nat → Int} (hR : pR r q) (hI : pI nc ng q) (h3 : q 3 = 0 ∨ q 3 = 4) (hx : x = 0 ∨ x = 4) : pR (nu r 3 x) (nu q 3 x) ∧ pI nc ng (nu q 3 x) ∧ (q 5 = -5 ∧ nu q 3 x 5 = -5) ∧ ¬ q 3 = 3 ∧ ¬ nu q 3 x 3 = 3 ∧ nu q 3 x 13 = q 13 := by
  unfold pR at hR ⊢
  unfold pI at hI ⊢
  simp only [nu]
  simp
  omega
theorem goHome_eq {d m : MI} {ro : Nat → Nat} {z : Int} (h : DM d ro m) (hz : i32 z) : ∃ v d' ro' m', fDesk_goHome z d ro = some (v, d', ro') ∧ fModel_goHome z m = some (v, m') ∧ DM d' ro' m' := by
  have a1 := h.1
  have n4 : sm_lo 1 d 0 4 = m 1 7 := a1.1.2.1
  have S7 : 0 ≤ m 1 7 ∧ m 1 7 ≤ 6 := a1.2.2.2.2.2.2.1.2.2.2.2.1
  unfold fDesk_goHome fModel_goHome
  rw [isPatrol_c hz n4 S7, isPatrol_m hz S7, Option.bind_some, Option.bind_some, ix_w]
  by_cases q : 0 ≤ z ∧ z < m 1 7
  · rw [if_neg (ix_y q), if_neg (ix_y q)]
    obtain ⟨p, rfl⟩ : ∃ k : Nat, z = (k : Int) := ⟨z.toNat, by omega⟩
    have p6 : p < 6 := by omega
    obtain ⟨hR, hI⟩ := RS_p a1 q.2
    have hR' : pR (d (1 + (10 + p))) (vP (m 1) p) := hR
    have r0 := hR'.1.1; have r3 := hR'.1.2.2.2.1; have r4 := hR'.1.2.2.2.2.1
    obtain ⟨i0, _, _, i4, i5, _⟩ := id hI
    obtain ⟨x, hx⟩ : ∃ x : Nat, vP (m 1) p 4 = (x : Int) := ⟨(vP (m 1) p 4).toNat, by omega⟩
    obtain ⟨y, hy⟩ : ∃ y : Nat, vP (m 1) p 0 = (y : Int) := ⟨(vP (m 1) p 0).toNat, by omega⟩
    have x12 : x < 12 := by omega
    have y12 : y < 12 := by omega
    have b3 : 0 ≤ vP (m 1) p 3 ∧ vP (m 1) p 3 ≤ 4 := by omega
    rw [tw (x := (p : Int)) (by omega) (by omega), if_pos (by omega), show ((p : Int)).toNat = p by omega, r0, r3, r4, ofPatrol_0 p6, Option.bind_some, ofPatrol_4 p6, Option.bind_some, hx, hy, between_eq x12 y12, way_eq x12 y12, Option.bind_some, Option.bind_some, ofPatrol_3 p6, Option.bind_some, Option.bind_some, tw (x := vP (m 1) p 3) (by omega) (by omega), tw (x := (x : Int)) (by omega) (by omega), tw (x := (y : Int)) (by omega) (by omega)]
    have hw := wk_D h.2.1 x12 y12
    have e3 : sm_lo 2 d 2 (12 * x + y) = sm_lo 1 d 3 (12 * x + y) := rfl
    rw [e3]
    by_cases w : vP (m 1) p 3 = 0
    · rw [if_pos w, if_pos w]
      rcases hw with ⟨h1, h2⟩ | ⟨h1, h2, h3⟩
      · rw [h1, h2, tw (x := 1000000) (by omega) (by omega), tw (x := 100000) (by omega) (by omega), if_neg (by omega), if_neg (by omega)]
        exact ⟨_, _, _, _, rfl, rfl, h⟩
      · rw [h1, tw (x := d2 m x y) (by omega) (by omega), if_pos (show d2 m x y < 1000000 by omega), if_pos (show d2 m x y < 100000 by omega)]
        by_cases u : (x : Int) = (y : Int)
        · rw [if_pos u, if_pos u]
          exact ⟨_, _, _, _, rfl, rfl, h⟩
        · rw [if_neg u, if_neg u]
          obtain ⟨d1, ro1, m1, eD, eM, hD, kd, k0, km, km0⟩ := record_eq h
          have q1 : m1 1 = m 1 := km 1 (by omega) (by omega)
          have ed : d1 (1 + (10 + p)) = d (1 + (10 + p)) := kd _ (by omega) (by omega)
          rw [eD, eM, Option.bind_some, Option.bind_some, Option.bind_some, laysPatrol_4 p6, Option.bind_some]
          dsimp only
          rw [ed, r0, hy]
          obtain ⟨k1, k2, k3, k4⟩ := k_home (x := (y : Int)) hR' hI w (by omega)
          refine ⟨_, _, _, _, rfl, rfl, DM_pat hD (by rw [q1]; exact q.2) (by omega) ?_ ?_ ?_ ?_⟩
          · rw [ed, q1]; exact k1
          · rw [q1]; exact k2
          · rw [q1]; exact k3
          · rw [q1]; exact k4
    · rw [if_neg w, if_neg w]
      exact ⟨_, _, _, _, rfl, rfl, h⟩
  · rw [if_pos (ix_n q), if_pos (ix_n q)]
    exact ⟨_, _, _, _, rfl, rfl, h⟩
