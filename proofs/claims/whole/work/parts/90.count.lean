/-! ===== count ===== -/
theorem callsIn_eq {s : MI} {N : Nat → Int} (h : RS s N) {x : Int} (hx : 0 ≤ x ∧ x ≤ 7) : fState_callsIn x s = some (d5 N x) := by
  have S9 : 0 ≤ N 9 ∧ N 9 ≤ 40 := h.2.2.2.2.2.2.1.2.2.2.2.2.2
  have S7 : 0 ≤ N 7 ∧ N 7 ≤ 6 := h.2.2.2.2.2.2.1.2.2.2.2.1
  have n8 : s 0 8 = N 9 := h.1.2.2.2.1
  unfold fState_callsIn d5
  rw [it_sum (n := (N 9).toNat) (g := fun c => if vC N c 5 = x then 1 else 0) (by omega) (fun i acc hi => by
    have r5 : s (21 + i) 5 = vC N i 5 := (RS_c h (c := i) (by omega)).1.1.2.2.2.2.2.1
    have i5 := (k_c8 (RS_c h (c := i) (by omega)).2 S7.2).2.1
    dsimp only
    unfold fState_callsIn_l4 fState_callsIn_j34_l4
    rw [tw (x := (i : Int)) (by omega) (by omega), n8, tw (x := N 9) (by omega) (by omega), if_neg (show ¬ N 9 ≤ (i : Int) by omega), if_neg (show ¬ (40 : Int) ≤ (i : Int) by omega), if_pos (show (0 : Int) ≤ (i : Int) ∧ (i : Int) < 40 by omega), show ((i : Int)).toNat = i by omega, r5, tw (x := vC N i 5) (by omega) (by omega), tw (x := x) (by omega) (by omega)]
    by_cases z : vC N i 5 = x
    · rw [if_pos z, if_pos z]
    · rw [if_neg z, if_neg z, Int.add_zero]) (fun acc => by
    dsimp only
    unfold fState_callsIn_l4
    rw [tw (x := (((N 9).toNat : Nat) : Int)) (by omega) (by omega), n8, tw (x := N 9) (by omega) (by omega), if_pos (by omega)])]
  rfl
theorem count_c {d m : MI} {ro : Nat → Nat} {x : Int} (h : DM d ro m) (hx : i32 x) (hno : ¬ (7 ≤ x ∧ x ≤ 14)) : fDesk_count_j24 x d = some (if x = 0 then m 1 0 else if x = 1 then m 1 1 else if 2 ≤ x ∧ x ≤ 6 then m 1 (5 + x - 2).toNat else if x = 15 then sumN (m 1 9).toNat (fun c => am 1 (m 1) c) else if 16 ≤ x ∧ x ≤ 18 then m 1 (10 + x - 16).toNat else if 19 ≤ x ∧ x ≤ 21 then m 1 (2 + x - 19).toNat else if x = 22 then od (m 1) else if x = 23 then m 0 2 else if x = 24 then m 0 7 else -2) := by
  have a1 := h.1
  obtain ⟨x1, x2, x3, x4, x5, x6, ⟨x7, x8, x9⟩, x10⟩ := a1.1
  have y1 : d 1 2 = m 1 6 := x1
  have y2 : d 1 4 = m 1 7 := x2
  have y3 : d 1 6 = m 1 8 := x3
  have y4 : d 1 8 = m 1 9 := x4
  have y5 : d 1 10 = m 1 1 := x5
  have y6 : d 1 11 = m 1 0 := x6
  have y7 : d 9 0 = m 1 2 := x7
  have y8 : d 9 1 = m 1 3 := x8
  have y9 : d 9 2 = m 1 4 := x9
  have y10 : d 2 0 = m 1 5 := x10
  obtain ⟨t1, t2, t3, _⟩ := a1.2.2.2.2.2.2.2.2.2.2.2.2.2.1
  have z16 : sumN (m 1 9).toNat (fun c => am 2 (m 1) c) = m 1 10 := t1.symm
  have z17 : sumN (m 1 9).toNat (fun c => am 3 (m 1) c) = m 1 11 := t2.symm
  have z18 : sumN (m 1 9).toNat (fun c => am 4 (m 1) c) = m 1 12 := t3.symm
  have o := (onDuty_eq a1).1
  obtain ⟨_, _, ⟨r, r4, dr, mr, _⟩, _, _, L, L6, dL, mL, _⟩ := h
  unfold fDesk_count_j24
  rw [ofAll_c a1 (x := 1) (by omega), Option.bind_some, ofAll_c a1 (x := 2) (by omega), Option.bind_some, ofAll_c a1 (x := 3) (by omega), Option.bind_some, ofAll_c a1 (x := 4) (by omega), Option.bind_some, o, Option.bind_some, z16, z17, z18, y1, y2, y3, y4, y5, y6, y10, dr, mr, dL, mL, tw hx.1 hx.2]
  by_cases u : 0 ≤ x ∧ x ≤ 24
  · rw [if_pos u]
    obtain rfl | rfl | rfl | rfl | rfl | rfl | rfl | rfl | rfl | rfl | rfl | rfl | rfl | rfl | rfl | rfl | rfl : x = 0 ∨ x = 1 ∨ x = 2 ∨ x = 3 ∨ x = 4 ∨ x = 5 ∨ x = 6 ∨ x = 15 ∨ x = 16 ∨ x = 17 ∨ x = 18 ∨ x = 19 ∨ x = 20 ∨ x = 21 ∨ x = 22 ∨ x = 23 ∨ x = 24 := by omega
    all_goals first
      | rfl
      | (simp; done)
      | (rw [tw (by omega) (by omega)]; simp [y7, y8, y9]; done)
  · rw [if_neg u]
    congr 1
    rw [if_neg (by omega), if_neg (by omega), if_neg (by omega), if_neg (by omega), if_neg (by omega), if_neg (by omega), if_neg (by omega), if_neg (by omega), if_neg (by omega)]
theorem count_eq {d m : MI} {ro : Nat → Nat} {x : Int} (h : DM d ro m) (hx : i32 x) : ∃ v, fDesk_count x d = some v ∧ fModel_count x m = some v := by
  have a1 := h.1
  have o := (onDuty_eq a1).2
  unfold fDesk_count fModel_count
  rw [in_eq hx (by unfold i32; omega) (by unfold i32; omega), Option.bind_some, in_eq hx (by unfold i32; omega) (by unfold i32; omega), Option.bind_some, tw hx.1 hx.2, count_w a1, Option.bind_some, o, Option.bind_some]
  by_cases u : 7 ≤ x ∧ x ≤ 14
  · rw [if_neg (show ¬ x < 7 by omega), if_neg (show ¬ 15 ≤ x by omega), callsIn_eq a1 (by omega), Option.bind_some, if_neg (show ¬ (2 ≤ x ∧ x ≤ 6) by omega), w0, if_pos rfl, if_pos u, w1, if_neg n10, manyIn_eq a1 (by omega), Option.bind_some]
    exact ⟨_, rfl, rfl⟩
  · have eC : (if x < 7 then fDesk_count_j24 x d else (if 15 ≤ x then fDesk_count_j24 x d else Option.bind (fState_callsIn (x - 7) (sm_lo 1 d)) (fun p69 => some p69))) = fDesk_count_j24 x d := by
      by_cases v : x < 7
      · rw [if_pos v]
      · rw [if_neg v, if_pos (show 15 ≤ x by omega)]
    rw [eC, count_c h hx u]
    refine ⟨_, rfl, ?_⟩
    by_cases v : 2 ≤ x ∧ x ≤ 6
    · rw [if_pos v, w1, if_neg n10, tw (x := 5 + x - 2) (by omega) (by omega), if_pos (show 0 ≤ 5 + x - 2 ∧ 5 + x - 2 < 810 by omega), if_neg (show ¬ x = 0 by omega), if_neg (show ¬ x = 1 by omega), if_pos v]
    · rw [if_neg v, w0, if_pos rfl, if_neg u, w0, if_pos rfl]
      by_cases w : 0 ≤ x ∧ x ≤ 24
      · rw [if_pos w]
        obtain rfl | rfl | rfl | rfl | rfl | rfl | rfl | rfl | rfl | rfl | rfl | rfl : x = 0 ∨ x = 1 ∨ x = 15 ∨ x = 16 ∨ x = 17 ∨ x = 18 ∨ x = 19 ∨ x = 20 ∨ x = 21 ∨ x = 22 ∨ x = 23 ∨ x = 24 := by omega
        all_goals first
          | rfl
          | (simp; done)
          | (rw [tw (by omega) (by omega)]; simp; done)
      · rw [if_neg w]
        congr 1
        rw [if_neg (by omega), if_neg (by omega), if_neg (by omega), if_neg (by omega), if_neg (by omega), if_neg (by omega), if_neg (by omega), if_neg (by omega), if_neg (by omega)]
