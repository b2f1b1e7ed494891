/-! ===== the checks of numbers; weather and promises are set ===== -/
abbrev ix (z n : Int) : Int := if 0 ≤ z ∧ z < n then 1 else 0
theorem ix_01 (z n : Int) : ix z n = 0 ∨ ix z n = 1 := by
  unfold ix
  split
  · exact Or.inr rfl
  · exact Or.inl rfl
theorem ix_w (z n : Int) : sm_w (ix z n) = ix z n := by
  rcases ix_01 z n with e | e <;> rw [e]
  · exact w0
  · exact w1
theorem ix_y {z n : Int} (h : 0 ≤ z ∧ z < n) : ¬ ix z n = 0 := by
  unfold ix
  rw [if_pos h]
  omega
theorem ix_n {z n : Int} (h : ¬ (0 ≤ z ∧ z < n)) : ix z n = 0 := if_neg h
theorem in_ix {z n : Int} (hz : i32 z) (hn : 0 ≤ n ∧ n ≤ 1000) : fModel_in z 0 (n - 1) = some (ix z n) := by
  rw [in_eq hz (by unfold i32; omega) (by unfold i32; omega)]
  congr 1
  unfold ix
  by_cases q : 0 ≤ z ∧ z < n
  · rw [if_pos q, if_pos (by omega)]
  · rw [if_neg q, if_neg (by omega)]
theorem isArea_c {z : Int} (hz : i32 z) : fDesk_isArea z = some (ix z 12) := by
  unfold fDesk_isArea ix
  rw [tw hz.1 hz.2]
  by_cases a : z < 0
  · rw [if_pos a, if_neg (by omega)]
  · by_cases b : 12 ≤ z
    · rw [if_neg a, if_pos b, if_neg (by omega)]
    · rw [if_neg a, if_neg b, if_pos (by omega)]
theorem isTier_c {z : Int} (hz : i32 z) : fDesk_isTier z = some (ix z 3) := by
  unfold fDesk_isTier ix
  rw [tw hz.1 hz.2]
  by_cases a : z < 0
  · rw [if_pos a, if_neg (by omega)]
  · by_cases b : 3 ≤ z
    · rw [if_neg a, if_pos b, if_neg (by omega)]
    · rw [if_neg a, if_neg b, if_pos (by omega)]
theorem isArea_m {z : Int} (hz : i32 z) : fModel_isArea z = some (ix z 12) := by
  unfold fModel_isArea
  rw [show fModel_in z 0 11 = some (ix z 12) from in_ix (n := 12) hz (by omega), Option.bind_some, if_pos (ix_01 _ _)]
theorem isPatrol_m {z : Int} {m : MI} (hz : i32 z) (h : 0 ≤ m 1 7 ∧ m 1 7 ≤ 6) : fModel_isPatrol z m = some (ix z (m 1 7)) := by
  unfold fModel_isPatrol
  rw [in_ix hz (by omega), Option.bind_some, if_pos (ix_01 _ _)]
theorem isGarage_m {z : Int} {m : MI} (hz : i32 z) (h : 0 ≤ m 1 8 ∧ m 1 8 ≤ 5) : fModel_isGarage z m = some (ix z (m 1 8)) := by
  unfold fModel_isGarage
  rw [in_ix hz (by omega), Option.bind_some, if_pos (ix_01 _ _)]
theorem isCall_m {z : Int} {m : MI} (hz : i32 z) (h : 0 ≤ m 1 9 ∧ m 1 9 ≤ 40) : fModel_isCall z m = some (ix z (m 1 9)) := by
  unfold fModel_isCall
  rw [in_ix hz (by omega), Option.bind_some, if_pos (ix_01 _ _)]
theorem isMember_m {z : Int} {m : MI} (hz : i32 z) (h : 0 ≤ m 1 6 ∧ m 1 6 ≤ 20) : fModel_isMember z m = some (ix z (m 1 6)) := by
  unfold fModel_isMember
  rw [in_ix hz (by omega), Option.bind_some, if_pos (ix_01 _ _)]
theorem isPatrol_c {z n : Int} {s : MI} (hz : i32 z) (e : s 0 4 = n) (h : 0 ≤ n ∧ n ≤ 6) : fState_isPatrol z s = some (ix z n) := by
  unfold fState_isPatrol ix
  rw [tw hz.1 hz.2, e, tw (x := n) (by omega) (by omega)]
  by_cases a : z < 0
  · rw [if_pos a, if_neg (by omega)]
  · by_cases b : n ≤ z
    · rw [if_neg a, if_pos b, if_neg (by omega)]
    · rw [if_neg a, if_neg b, if_neg (by omega), if_pos (by omega)]
theorem isGarage_c {z n : Int} {s : MI} (hz : i32 z) (e : s 0 6 = n) (h : 0 ≤ n ∧ n ≤ 5) : fState_isGarage z s = some (ix z n) := by
  unfold fState_isGarage ix
  rw [tw hz.1 hz.2, e, tw (x := n) (by omega) (by omega)]
  by_cases a : z < 0
  · rw [if_pos a, if_neg (by omega)]
  · by_cases b : n ≤ z
    · rw [if_neg a, if_pos b, if_neg (by omega)]
    · rw [if_neg a, if_neg b, if_neg (by omega), if_pos (by omega)]
theorem isCall_c {z n : Int} {s : MI} (hz : i32 z) (e : s 0 8 = n) (h : 0 ≤ n ∧ n ≤ 40) : fState_isCall z s = some (ix z n) := by
  unfold fState_isCall ix
  rw [tw hz.1 hz.2, e, tw (x := n) (by omega) (by omega)]
  by_cases a : z < 0
  · rw [if_pos a, if_neg (by omega)]
  · by_cases b : n ≤ z
    · rw [if_neg a, if_pos b, if_neg (by omega)]
    · rw [if_neg a, if_neg b, if_neg (by omega), if_pos (by omega)]
theorem isMember_c {z n : Int} {s : MI} (hz : i32 z) (e : s 0 2 = n) (h : 0 ≤ n ∧ n ≤ 20) : fState_isMember z s = some (ix z n) := by
  unfold fState_isMember ix
  rw [tw hz.1 hz.2, e, tw (x := n) (by omega) (by omega)]
  by_cases a : z < 0
  · rw [if_pos a, if_neg (by omega)]
  · by_cases b : n ≤ z
    · rw [if_neg a, if_pos b, if_neg (by omega)]
    · rw [if_neg a, if_neg b, if_neg (by omega), if_pos (by omega)]
/-- what `now` holds as it has been recorded -/
theorem setWeather_eq {d m : MI} {ro : Nat → Nat} {z : Int} (h : DM d ro m) (hz : i32 z) : ∃ v d' ro' m', fDesk_setWeather z d ro = some (v, d', ro') ∧ fModel_setWeather z m = some (v, m') ∧ DM d' ro' m' := by
  have a1 := h.1
  have e10 : d 1 10 = m 1 1 := a1.1.2.2.2.2.1
  have S1 : 0 ≤ m 1 1 ∧ m 1 1 ≤ 5 := a1.2.2.2.2.2.2.1.2.1
  unfold fDesk_setWeather fModel_setWeather
  rw [in_eq hz (by unfold i32; omega) (by unfold i32; omega), Option.bind_some, tw hz.1 hz.2]
  by_cases x : 0 ≤ z ∧ z ≤ 5
  · rw [if_neg (by omega), if_pos x.2, if_pos x, w1, if_neg n10, e10, tw (x := m 1 1) (by omega) (by omega)]
    by_cases y : m 1 1 = z
    · rw [if_pos y, if_pos y]
      exact ⟨_, _, _, _, rfl, rfl, h⟩
    · rw [if_neg y, if_neg y]
      obtain ⟨d1, ro1, m1, eD, eM, hD, kd, k0, km, km0⟩ := record_eq h
      rw [eD, eM, Option.bind_some, Option.bind_some, Option.bind_some, Option.bind_some]
      have hR := hD.1
      have hR' : RS (sm_lo 1 (sm_up d1 1 10 z)) (sm_up m1 1 1 z 1) := by
        rw [up_nu]
        obtain ⟨⟨x1, x2, x3, x4, x5, x6, x7, x8⟩, _⟩ := id hR
        have hn : nS (m1 1) := hR.2.2.2.2.2.2.1
        refine RS_set hR ⟨x1, x2, x3, x4, up_s _ _ _ _, x6, x7, x8⟩ ?_ (fun i hi => nu_n (by omega)) (nu_n (by omega)) (fun a e0 e8 => ?_)
        · unfold nS at hn ⊢
          exact ⟨hn.1, by rw [nu_s]; exact x, hn.2.2⟩
        · show sm_up d1 1 10 z (1 + a) = d1 (1 + a)
          exact up_D (by omega)
      refine ⟨_, _, _, _, rfl, rfl, DM_now hD (fun a ha => up_D (by omega)) (up_D (by omega)) (up_D (by omega)) (up_D (by omega)) (up_d (by omega)) (up_d (by omega)) (up_d (by omega)) hR' (wk_upd hD.2.1 ?_ ?_ (up_D (by omega)) (up_D (by omega)) (fun i _ _ => up_j (by omega)))⟩
      · show sm_up d1 1 10 z 3 = d1 3
        exact up_D (by omega)
      · show sm_up d1 1 10 z 4 = d1 4
        exact up_D (by omega)
  · rw [if_neg x, w0, if_pos rfl]
    by_cases y : z < 0
    · rw [if_pos y]
      exact ⟨_, _, _, _, rfl, rfl, h⟩
    · rw [if_neg y, if_neg (by omega)]
      exact ⟨_, _, _, _, rfl, rfl, h⟩
theorem setPromise_eq {d m : MI} {ro : Nat → Nat} {t z : Int} (h : DM d ro m) (ht : i32 t) (hz : i32 z) : ∃ v d' ro' m', fDesk_setPromise t z d ro = some (v, d', ro') ∧ fModel_setPromise t z m = some (v, m') ∧ DM d' ro' m' := by
  have a1 := h.1
  have S2 : (10 ≤ m 1 2 ∧ m 1 2 ≤ 240) ∧ (10 ≤ m 1 3 ∧ m 1 3 ≤ 240) ∧ (10 ≤ m 1 4 ∧ m 1 4 ≤ 240) := a1.2.2.2.2.2.2.1.2.2.1
  have E2 : d 9 0 = m 1 2 ∧ d 9 1 = m 1 3 ∧ d 9 2 = m 1 4 := a1.1.2.2.2.2.2.2.1
  unfold fDesk_setPromise fModel_setPromise
  rw [isTier_c ht, show fModel_in t 0 2 = some (ix t 3) from in_ix (n := 3) ht (by omega), Option.bind_some, Option.bind_some, ix_w]
  by_cases q : 0 ≤ t ∧ t < 3
  · rw [if_neg (ix_y q), if_neg (ix_y q), in_eq hz (by unfold i32; omega) (by unfold i32; omega), Option.bind_some, tw hz.1 hz.2]
    obtain ⟨k, rfl⟩ : ∃ k : Nat, t = (k : Int) := ⟨t.toNat, by omega⟩
    have k3 : k < 3 := by omega
    have ek : d 9 k = m 1 (2 + k) ∧ 10 ≤ m 1 (2 + k) ∧ m 1 (2 + k) ≤ 240 := by
      obtain rfl | rfl | rfl : k = 0 ∨ k = 1 ∨ k = 2 := by omega
      · exact ⟨E2.1, S2.1⟩
      · exact ⟨E2.2.1, S2.2.1⟩
      · exact ⟨E2.2.2, S2.2.2⟩
    by_cases x : 10 ≤ z ∧ z ≤ 240
    · rw [if_neg (by omega), if_pos x.2, if_pos x, w1, if_neg n10, tw (x := (k : Int)) (by omega) (by omega), tw (x := 2 + (k : Int)) (by omega) (by omega), show ((k : Int)).toNat = k by omega, show (2 + (k : Int)).toNat = 2 + k by omega, ek.1, tw (x := m 1 (2 + k)) (by omega) (by omega), if_pos (show (0 : Int) ≤ (k : Int) ∧ (k : Int) < 3 by omega), if_pos (show (0 : Int) ≤ 2 + (k : Int) ∧ 2 + (k : Int) < 810 by omega)]
      by_cases y : m 1 (2 + k) = z
      · rw [if_pos y, if_pos y]
        exact ⟨_, _, _, _, rfl, rfl, h⟩
      · rw [if_neg y, if_neg y]
        obtain ⟨d1, ro1, m1, eD, eM, hD, kd, k0, km, km0⟩ := record_eq h
        rw [eD, eM, Option.bind_some, Option.bind_some, Option.bind_some, Option.bind_some]
        have hR := hD.1
        have hR' : RS (sm_lo 1 (sm_up d1 9 k z)) (sm_up m1 1 (2 + k) z 1) := by
          rw [up_nu]
          obtain ⟨⟨x1, x2, x3, x4, x5, x6, x7, x8⟩, _⟩ := id hR
          have hn : nS (m1 1) := hR.2.2.2.2.2.2.1
          have fr : ∀ a j, ¬ a = 8 → sm_lo 1 (sm_up d1 9 k z) a j = sm_lo 1 d1 a j := fun a j ha => by
            show sm_up d1 9 k z (1 + a) j = d1 (1 + a) j
            exact up_d (by omega)
          have g8 : ∀ j, sm_lo 1 (sm_up d1 9 k z) 8 j = if j = k then z else sm_lo 1 d1 8 j := fun j => up_k
          refine RS_set hR ?_ ?_ (fun i hi => nu_n (by omega)) (nu_n (by omega)) (fun a e0 e8 => ?_)
          · unfold sR
            rw [fr 0 _ (by omega), fr 0 _ (by omega), fr 0 _ (by omega), fr 0 _ (by omega), fr 0 _ (by omega), fr 0 _ (by omega), fr 1 _ (by omega), g8, g8, g8]
            refine ⟨x1.trans (nu_n (by omega)).symm, x2.trans (nu_n (by omega)).symm, x3.trans (nu_n (by omega)).symm, x4.trans (nu_n (by omega)).symm, x5.trans (nu_n (by omega)).symm, x6.trans (nu_n (by omega)).symm, ?_, x8.trans (nu_n (by omega)).symm⟩
            simp only [nu]
            obtain rfl | rfl | rfl : k = 0 ∨ k = 1 ∨ k = 2 := by omega
            · simp
              exact x7.2
            · simp
              exact ⟨x7.1, x7.2.2⟩
            · simp
              exact ⟨x7.1, x7.2.1⟩
          · unfold nS at hn ⊢
            rw [nu_n (by omega : ¬ 0 = 2 + k), nu_n (by omega : ¬ 1 = 2 + k), nu_n (by omega : ¬ 6 = 2 + k), nu_n (by omega : ¬ 7 = 2 + k), nu_n (by omega : ¬ 8 = 2 + k), nu_n (by omega : ¬ 9 = 2 + k)]
            refine ⟨hn.1, hn.2.1, ?_, hn.2.2.2⟩
            have := hn.2.2.1
            simp only [nu]
            obtain rfl | rfl | rfl : k = 0 ∨ k = 1 ∨ k = 2 := by omega
            · simp
              omega
            · simp
              omega
            · simp
              omega
          · funext j
            exact fr a j e8
        refine ⟨_, _, _, _, rfl, rfl, DM_now hD (fun a ha => up_D (by omega)) (up_D (by omega)) (up_D (by omega)) (up_D (by omega)) (up_d (by omega)) (up_d (by omega)) (up_d (by omega)) hR' (wk_upd hD.2.1 ?_ ?_ (up_D (by omega)) (up_D (by omega)) (fun i _ _ => up_j (by omega)))⟩
        · show sm_up d1 9 k z 3 = d1 3
          exact up_D (by omega)
        · show sm_up d1 9 k z 4 = d1 4
          exact up_D (by omega)
    · rw [if_neg x, w0, if_pos rfl]
      by_cases y : z < 10
      · rw [if_pos y]
        exact ⟨_, _, _, _, rfl, rfl, h⟩
      · rw [if_neg y, if_neg (by omega)]
        exact ⟨_, _, _, _, rfl, rfl, h⟩
  · rw [if_pos (ix_n q), if_pos (ix_n q)]
    exact ⟨_, _, _, _, rfl, rfl, h⟩
