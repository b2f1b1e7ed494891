/-! ===== duty ===== -/
def od (N : Nat → Int) : Int := sumN (N 7).toNat (fun p => if vP N p 3 = 4 then 0 else 1)
theorem onDuty_eq {s m : MI} (h : RS s (m 1)) : fState_patrolsOnDuty s = some (od (m 1)) ∧ fModel_onDuty m = some (od (m 1)) := by
  obtain ⟨a1, a2, a3, a4, a5, a6, b1, b2, b3, b4, b5, b6, b7, b8⟩ := h
  obtain ⟨S0, S1, S2, S6, S7, S8, S9⟩ := b1
  have n4 : s 0 4 = m 1 7 := a1.2.1
  have v3 : ∀ i : Nat, (i : Int) < m 1 7 → 0 ≤ vP (m 1) i 3 ∧ vP (m 1) i 3 ≤ 4 := fun i hi => by
    obtain ⟨_, _, _, _, i5, _⟩ := b4 i hi
    omega
  constructor
  · unfold fState_patrolsOnDuty od
    rw [it_sum (n := (m 1 7).toNat) (g := fun p => if vP (m 1) p 3 = 4 then 0 else 1) (by omega) (fun i acc hi => by
      have i3 := v3 i (by omega)
      have e3 : s (10 + i) 3 = vP (m 1) i 3 := (a4 i (by omega)).1.2.2.2.1
      dsimp only
      unfold fState_patrolsOnDuty_l4 fState_patrolsOnDuty_j34_l4
      rw [tw (x := (i : Int)) (by omega) (by omega), n4, tw (x := m 1 7) (by omega) (by omega), if_neg (by omega), if_neg (by omega), if_pos (by omega), show ((i : Int)).toNat = i by omega, e3, tw (x := vP (m 1) i 3) (by omega) (by omega)]
      by_cases z : vP (m 1) i 3 = 4
      · rw [if_pos z, if_pos z, Int.add_zero]
      · rw [if_neg z, if_neg z]) (fun acc => by
      dsimp only
      unfold fState_patrolsOnDuty_l4
      rw [tw (x := (((m 1 7).toNat : Nat) : Int)) (by omega) (by omega), n4, tw (x := m 1 7) (by omega) (by omega), if_pos (by omega)])]
    rfl
  · unfold fModel_onDuty od
    rw [it_sum (n := (m 1 7).toNat) (g := fun p => if vP (m 1) p 3 = 4 then 0 else 1) (by omega) (fun i acc hi => by
      have i3 := v3 i (by omega)
      dsimp only
      unfold fModel_onDuty_l4 fModel_onDuty_j31_l4
      rw [tw (x := (i : Int)) (by omega) (by omega), tw (x := m 1 7) (by omega) (by omega), if_neg (by omega), ofPatrol_3 (by omega), Option.bind_some, tw (x := vP (m 1) i 3) (by omega) (by omega)]
      by_cases z : vP (m 1) i 3 = 4
      · rw [if_pos z, if_pos z]
      · rw [if_neg z, if_neg z]) (fun acc => by
      dsimp only
      unfold fModel_onDuty_l4
      rw [tw (x := (((m 1 7).toNat : Nat) : Int)) (by omega) (by omega), tw (x := m 1 7) (by omega) (by omega), if_pos (by omega)])]
    rfl
theorem duty_fin {d m : MI} {ro : Nat → Nat} {p : Nat} {x : Int} (h : DM d ro m) (hp : (p : Int) < m 1 7) (h3 : vP (m 1) p 3 = 0 ∨ vP (m 1) p 3 = 4) (hx : x = 0 ∨ x = 4) :
    ∃ v d' m', fDesk_duty_j71 (10 + p) x d ro = some (v, d', ro) ∧ fModel_duty_j66 (p : Int) 3 x m = some (v, m') ∧ DM d' ro m' := by
  have S7 : 0 ≤ m 1 7 ∧ m 1 7 ≤ 6 := h.1.2.2.2.2.2.2.1.2.2.2.2.1
  have p6 : p < 6 := by omega
  obtain ⟨hR, hI⟩ := RS_p h.1 hp
  have hR' : pR (d (1 + (10 + p))) (vP (m 1) p) := hR
  obtain ⟨k1, k2, k3, k4⟩ := k_duty hR' hI h3 hx
  have hD := DM_pat (j := 3) (w := 3) (v := x) h hp (by omega) k1 k2 k3 k4
  obtain ⟨o1, o2⟩ := onDuty_eq hD.1
  refine ⟨od (mP m p 3 x 1), _, _, ?_, ?_, hD⟩
  · unfold fDesk_duty_j71
    rw [Option.bind_some, o1, Option.bind_some]
  · unfold fModel_duty_j66
    rw [laysPatrol_3 p6, Option.bind_some, o2, Option.bind_some]
theorem duty_mid {d m : MI} {ro : Nat → Nat} {p : Nat} {y : Int} (h : DM d ro m) (hp : (p : Int) < m 1 7) (hy : y = 0 ∨ y = 1) (h3 : y = 1 ∨ vP (m 1) p 3 = 0 ∨ vP (m 1) p 3 = 4) :
    ∃ v d' ro' m', fDesk_duty_j37 y (10 + p) d ro = some (v, d', ro') ∧ fModel_duty_j33 (p : Int) y (vP (m 1) p 3) m = some (v, m') ∧ DM d' ro' m' := by
  obtain ⟨hR, hI⟩ := RS_p h.1 hp
  have r3 : d (1 + (10 + p)) 3 = vP (m 1) p 3 := hR.1.2.2.2.1
  have v3 : 0 ≤ vP (m 1) p 3 ∧ vP (m 1) p 3 ≤ 4 := by
    obtain ⟨_, _, _, _, i5, _⟩ := hI
    omega
  have step : ∀ y1 : Int, (y1 = 0 ∨ y1 = 1) → (y1 = 0 → vP (m 1) p 3 = 4) → (y1 = 1 → ¬ vP (m 1) p 3 = 4) → ∃ v d' ro' m', fDesk_duty_j51 y (10 + p) y y1 d ro = some (v, d', ro') ∧ fModel_duty_j44 (p : Int) y y y1 m = some (v, m') ∧ DM d' ro' m' := fun y1 hy1 u0 u1 => by
    unfold fDesk_duty_j51 fModel_duty_j44
    rw [tw (x := y) (by omega) (by omega), tw (x := y1) (by omega) (by omega)]
    by_cases e : y = y1
    · rw [if_pos e, if_pos e]
      exact ⟨_, _, _, _, rfl, rfl, h⟩
    · rw [if_neg e, if_neg e]
      obtain ⟨d1, ro1, m1, eD, eM, hD, kd, k0, km, km0⟩ := record_eq h
      have q1 : m1 1 = m 1 := km 1 (by omega) (by omega)
      rw [eD, eM, Option.bind_some, Option.bind_some]
      dsimp only
      have h04 : vP (m1 1) p 3 = 0 ∨ vP (m1 1) p 3 = 4 := by rw [q1]; omega
      by_cases z : y = 0
      · rw [if_pos z, if_pos z]
        obtain ⟨v, d', m', x1, x2, x3⟩ := duty_fin (x := 4) hD (by rw [q1]; exact hp) h04 (Or.inr rfl)
        exact ⟨v, d', ro1, m', x1, x2, x3⟩
      · rw [if_neg z, if_neg z]
        obtain ⟨v, d', m', x1, x2, x3⟩ := duty_fin (x := 0) hD (by rw [q1]; exact hp) h04 (Or.inl rfl)
        exact ⟨v, d', ro1, m', x1, x2, x3⟩
  unfold fDesk_duty_j37 fModel_duty_j33
  rw [r3, tw (x := vP (m 1) p 3) (by omega) (by omega)]
  by_cases z : vP (m 1) p 3 = 4
  · rw [if_pos z, if_pos z]
    exact step 0 (Or.inl rfl) (fun _ => z) (fun e => absurd e (by omega))
  · rw [if_neg z, if_neg z]
    exact step 1 (Or.inr rfl) (fun e => absurd e (by omega)) (fun _ => z)
theorem duty_eq {d m : MI} {ro : Nat → Nat} {z y : Int} (h : DM d ro m) (hz : i32 z) (hy : y = 0 ∨ y = 1) : ∃ v d' ro' m', fDesk_duty z y d ro = some (v, d', ro') ∧ fModel_duty z y m = some (v, m') ∧ DM d' ro' m' := by
  have a1 := h.1
  have n4 : sm_lo 1 d 0 4 = m 1 7 := a1.1.2.1
  have S7 : 0 ≤ m 1 7 ∧ m 1 7 ≤ 6 := a1.2.2.2.2.2.2.1.2.2.2.2.1
  unfold fDesk_duty fModel_duty
  rw [isPatrol_c hz n4 S7, isPatrol_m hz S7, Option.bind_some, Option.bind_some, ix_w]
  by_cases q : 0 ≤ z ∧ z < m 1 7
  · rw [if_neg (ix_y q), if_neg (ix_y q)]
    obtain ⟨p, rfl⟩ : ∃ k : Nat, z = (k : Int) := ⟨z.toNat, by omega⟩
    have p6 : p < 6 := by omega
    obtain ⟨hR, hI⟩ := RS_p a1 q.2
    have r3 : d (1 + (10 + p)) 3 = vP (m 1) p 3 := hR.1.2.2.2.1
    have v3 : 0 ≤ vP (m 1) p 3 ∧ vP (m 1) p 3 ≤ 4 := by
      obtain ⟨_, _, _, _, i5, _⟩ := hI
      omega
    rw [tw (x := (p : Int)) (by omega) (by omega), if_pos (show (0 : Int) ≤ (p : Int) ∧ (p : Int) < 6 by omega), show ((p : Int)).toNat = p by omega, ofPatrol_3 p6, Option.bind_some, tw (x := y) (by omega) (by omega), isBusy_c (by rw [r3]; exact v3), Option.bind_some, r3, tw (x := vP (m 1) p 3) (by omega) (by omega)]
    by_cases y0 : y = 0
    · rw [if_pos y0, if_pos y0]
      by_cases b : 1 ≤ vP (m 1) p 3 ∧ vP (m 1) p 3 ≤ 3
      · rw [if_pos b, w1, if_neg n10, if_neg (show ¬ vP (m 1) p 3 = 0 by omega), if_neg (show ¬ vP (m 1) p 3 = 4 by omega)]
        exact ⟨_, _, _, _, rfl, rfl, h⟩
      · rw [if_neg b, w0, if_pos rfl]
        obtain ⟨v, d', ro', m', x1, x2, x3⟩ := duty_mid h q.2 hy (Or.inr (by omega))
        refine ⟨v, d', ro', m', x1, ?_, x3⟩
        by_cases c : vP (m 1) p 3 = 0
        · rw [if_pos c]; exact x2
        · rw [if_neg c, if_pos (show vP (m 1) p 3 = 4 by omega)]; exact x2
    · rw [if_neg y0, if_neg y0]
      exact duty_mid h q.2 hy (Or.inl (by omega))
  · rw [if_pos (ix_n q), if_pos (ix_n q)]
    exact ⟨_, _, _, _, rfl, rfl, h⟩
