/-! ===== the books ===== -/
def am (x : Int) (N : Nat → Int) (c : Nat) : Int := if x = 0 then 1 else if x = 1 then wtd (N 0) (vC N c) else if x = 2 then paid (tierC N c) (vC N c) else if x = 3 then 15 * late (vC N c) else if x = 4 then vC N c 10 else late (vC N c)
theorem late_c {s : MI} {D : Nat} {nm np mi : Int} {q : Nat → Int} (hR : cR (s D) q) (hI : cI nm np mi q) (hm : mi ≤ 2880) (hn : np ≤ 6) : fBreakdown_isLate (sm_lo D s) = some (late q) := by
  have e7 : sm_lo D s 0 7 = s D 7 := rfl
  have eD : fBreakdown_due (sm_lo D s) = some (s D 4 + s D 3) := rfl
  have i8 := (k_c8 hI hn).1
  obtain ⟨_, _, _, i3, i4, _, g⟩ := hI
  obtain ⟨⟨_, _, _, r3, r4, _, _⟩, r7, r7', _⟩ := hR
  unfold fBreakdown_isLate late
  rw [e7, eD, Option.bind_some, r4, r3]
  unfold cS at g
  by_cases a : q 8 = -5
  · rw [r7 a, tw (x := -5) (by omega) (by omega), if_pos rfl, if_neg (fun e => e.1 a)]
  · rw [r7' a, tw (x := q 4 + q 7) (by omega) (by omega), tw (x := q 4 + q 3) (by omega) (by omega), if_neg (show ¬ q 4 + q 7 = -5 by omega)]
    by_cases b : q 3 < q 7
    · rw [if_neg (show ¬ q 4 + q 7 ≤ q 4 + q 3 by omega), if_pos ⟨a, b⟩]
    · rw [if_pos (show q 4 + q 7 ≤ q 4 + q 3 by omega), if_neg (fun e => b e.2)]
theorem late_01 (q : Nat → Int) : late q = 0 ∨ late q = 1 := by
  unfold late
  split
  · exact Or.inr rfl
  · exact Or.inl rfl
theorem cost_c {s : MI} {N : Nat → Int} (h : RS s N) {c : Nat} (hc : (c : Int) < N 9) (h5 : vC N c 5 = 5) : fBooks_cost (21 + c) s = some (paid (tierC N c) (vC N c)) := by
  obtain ⟨a1, a2, a3, a4, a5, a6, b1, b2, b3, b4, b5, b6, b7, b8, b9⟩ := h
  obtain ⟨S0, S1, S2, S6, S7, S8, S9⟩ := b1
  have hI := b6 c hc
  obtain ⟨i0, _, _, _, _, i10, _⟩ := hI
  have r0 : s (21 + c) 0 = vC N c 0 := (a6 c hc).1.1
  have r10 : s (21 + c) 10 = vC N c 10 := (a6 c hc).2.2.2.2.2
  obtain ⟨k, hk⟩ : ∃ k : Nat, vC N c 0 = (k : Int) := ⟨(vC N c 0).toNat, by omega⟩
  have k6 : (k : Int) < N 6 := by omega
  have T := b3 k k6
  have eT : tierC N c = vM N k 0 := by
    unfold tierC vM
    rw [hk]
    simp
  obtain ⟨t, ht⟩ : ∃ t : Nat, vM N k 0 = (t : Int) := ⟨(vM N k 0).toNat, by omega⟩
  have t3 : t < 3 := by omega
  have s4 : s 4 k = (t : Int) := (a3 k k6).trans ht
  have eO : fState_tierOf (k : Int) s = some (t : Int) := by
    unfold fState_tierOf
    rw [isMember_c (by unfold i32; omega) a1.1 S6, Option.bind_some, ix_w, if_neg (ix_y ⟨by omega, k6⟩), tw (x := (k : Int)) (by omega) (by omega), if_pos (show (0 : Int) ≤ (k : Int) ∧ (k : Int) < 20 by omega), show ((k : Int)).toNat = k by omega, s4]
  have eS : sl_cost t = 20 - 10 * (t : Int) := by
    obtain rfl | rfl | rfl : t = 0 ∨ t = 1 ∨ t = 2 := by omega
    · rfl
    · rfl
    · rfl
  have mx : ∀ v : Int, -1000 ≤ v → v ≤ 1000 → sm_max 0 v = if v < 0 then 0 else v := fun v v1 v2 => by
    unfold sm_max
    rw [w0, tw (x := v) (by omega) (by omega)]
    by_cases e : v < 0
    · rw [if_pos e, if_neg (by omega)]
    · rw [if_neg e]
      by_cases e' : 0 < v
      · split <;> omega
      · split <;> omega
  unfold fBooks_cost fBooks_cost_j36 paid
  rw [eT, ht, if_pos h5, r0, hk, eO, Option.bind_some, isTier_c (by unfold i32; omega), Option.bind_some, ix_w, if_neg (ix_y (by omega)), tw (x := (t : Int)) (by omega) (by omega), if_pos (show (0 : Int) ≤ (t : Int) ∧ (t : Int) < 3 by omega), show ((t : Int)).toNat = t by omega, r10, eS, tw (x := vC N c 10) (by omega) (by omega)]
  rcases i10 with e | e
  · rw [e, if_pos rfl, mx _ (by omega) (by omega)]
    congr 2
  · rw [e, if_neg n10, mx _ (by omega) (by omega)]
    rfl
theorem amount_c {s : MI} {N : Nat → Int} (h : RS s N) {c : Nat} (hc : (c : Int) < N 9) {x : Int} (hx : 0 ≤ x ∧ x ≤ 5) : fBooks_amount x (21 + c) s = some (am x N c) := by
  have H := h
  obtain ⟨a1, a2, a3, a4, a5, a6, b1, b2, b3, b4, b5, b6, b7, b8, b9⟩ := H
  obtain ⟨S0, S1, S2, S6, S7, S8, S9⟩ := b1
  have hI := b6 c hc
  have hR := a6 c hc
  have i5 := (k_c8 hI S7.2).2.1
  have i10 := hI.2.2.2.2.2.1
  have r5 : s (21 + c) 5 = vC N c 5 := hR.1.2.2.2.2.2.1
  have r10 : s (21 + c) 10 = vC N c 10 := hR.2.2.2.2.2
  unfold fBooks_amount
  rw [tw (x := x) (by omega) (by omega), if_pos (show 0 ≤ x ∧ x ≤ 5 from hx), waited_c hR hI S0.2 S7.2, Option.bind_some, a1.2.2.2.2.2.1, late_c hR hI S0.2 S7.2, Option.bind_some, Option.bind_some, r5, r10, tw (x := vC N c 5) (by omega) (by omega), tw (x := vC N c 10) (by omega) (by omega), tw (x := late (vC N c)) (by rcases late_01 (vC N c) with e | e <;> omega) (by rcases late_01 (vC N c) with e | e <;> omega)]
  unfold am
  by_cases e0 : x = 0
  · rw [if_pos e0, if_pos e0]
  by_cases e1 : x = 1
  · rw [if_neg e0, if_neg e0, if_pos e1, if_pos e1]
  by_cases e2 : x = 2
  · rw [if_neg e0, if_neg e0, if_neg e1, if_neg e1, if_pos e2, if_pos e2]
    by_cases z : vC N c 5 = 5
    · rw [if_pos z, cost_c h hc z, Option.bind_some]
    · rw [if_neg z, paid_no z]
  by_cases e3 : x = 3
  · rw [if_neg e0, if_neg e0, if_neg e1, if_neg e1, if_neg e2, if_neg e2, if_pos e3, if_pos e3]
    rcases late_01 (vC N c) with e | e
    · rw [e, if_pos rfl]
      rfl
    · rw [e, if_neg n10]
      rfl
  by_cases e4 : x = 4
  · rw [if_neg e0, if_neg e0, if_neg e1, if_neg e1, if_neg e2, if_neg e2, if_neg e3, if_neg e3, if_pos e4, if_pos e4]
    rcases i10 with e | e
    · rw [e, if_pos rfl]
    · rw [e, if_neg n10]
  · rw [if_neg e0, if_neg e0, if_neg e1, if_neg e1, if_neg e2, if_neg e2, if_neg e3, if_neg e3, if_neg e4, if_neg e4]
    rcases late_01 (vC N c) with e | e
    · rw [e, if_pos rfl]
    · rw [e, if_neg n10]
theorem ofAll_c {s : MI} {N : Nat → Int} (h : RS s N) {x : Int} (hx : 0 ≤ x ∧ x ≤ 5) : fBooks_ofAll x s = some (sumN (N 9).toNat (fun c => am x N c)) := by
  have S9 : 0 ≤ N 9 ∧ N 9 ≤ 40 := h.2.2.2.2.2.2.1.2.2.2.2.2.2
  have n8 : s 0 8 = N 9 := h.1.2.2.2.1
  unfold fBooks_ofAll
  rw [it_sum (n := (N 9).toNat) (g := fun c => am x N c) (by omega) (fun i acc hi => by
    dsimp only
    unfold fBooks_ofAll_l4
    rw [tw (x := (i : Int)) (by omega) (by omega), n8, tw (x := N 9) (by omega) (by omega), if_neg (show ¬ N 9 ≤ (i : Int) by omega), if_neg (show ¬ (40 : Int) ≤ (i : Int) by omega), if_pos (show (0 : Int) ≤ (i : Int) ∧ (i : Int) < 40 by omega), show ((i : Int)).toNat = i by omega, amount_c h (by omega) hx, Option.bind_some]) (fun acc => by
    dsimp only
    unfold fBooks_ofAll_l4
    rw [tw (x := (((N 9).toNat : Nat) : Int)) (by omega) (by omega), n8, tw (x := N 9) (by omega) (by omega), if_pos (by omega)])]
  rfl
theorem ofMember_c {s : MI} {N : Nat → Int} (h : RS s N) {x k : Int} (hx : 0 ≤ x ∧ x ≤ 5) (hk : 0 ≤ k ∧ k ≤ 20) : fBooks_ofMember x k s = some (sumN (N 9).toNat (fun c => if vC N c 0 = k then am x N c else 0)) := by
  have S9 : 0 ≤ N 9 ∧ N 9 ≤ 40 := h.2.2.2.2.2.2.1.2.2.2.2.2.2
  have S6 : 0 ≤ N 6 ∧ N 6 ≤ 20 := h.2.2.2.2.2.2.1.2.2.2.1
  have n8 : s 0 8 = N 9 := h.1.2.2.2.1
  unfold fBooks_ofMember
  rw [it_sum (n := (N 9).toNat) (g := fun c => if vC N c 0 = k then am x N c else 0) (by omega) (fun i acc hi => by
    have r0 : s (21 + i) 0 = vC N i 0 := (RS_c h (c := i) (by omega)).1.1.1
    have i0 := (RS_c h (c := i) (by omega)).2.1
    dsimp only
    unfold fBooks_ofMember_l5 fBooks_ofMember_j50_l5
    rw [tw (x := (i : Int)) (by omega) (by omega), n8, tw (x := N 9) (by omega) (by omega), if_neg (show ¬ N 9 ≤ (i : Int) by omega), if_neg (show ¬ (40 : Int) ≤ (i : Int) by omega), if_pos (show (0 : Int) ≤ (i : Int) ∧ (i : Int) < 40 by omega), show ((i : Int)).toNat = i by omega, r0, tw (x := vC N i 0) (by omega) (by omega), tw (x := k) (by omega) (by omega), amount_c h (by omega) hx, Option.bind_some]
    by_cases z : vC N i 0 = k
    · rw [if_pos z, if_pos z]
    · rw [if_neg z, if_neg z, Int.add_zero]) (fun acc => by
    dsimp only
    unfold fBooks_ofMember_l5
    rw [tw (x := (((N 9).toNat : Nat) : Int)) (by omega) (by omega), n8, tw (x := N 9) (by omega) (by omega), if_pos (by omega)])]
  rfl
theorem sumN_sub {f g e : Nat → Int} : ∀ n, (∀ k, k < n → e k = f k - g k) → sumN n e = sumN n f - sumN n g
  | 0, _ => rfl
  | n + 1, h => by
    have := sumN_sub n (fun k hk => h k (by omega))
    have := h n (by omega)
    show sumN n e + e n = sumN n f + f n - (sumN n g + g n)
    omega
theorem count_w {s m : MI} (h : RS s (m 1)) (z : Int) : sl_it (fun (t : Int × Int) => fModel_count_l45 z t.1 t.2 m) sl_fu (0, 0) = some (sumN (m 1 9).toNat (fun c => am 1 (m 1) c)) := by
  have S9 : 0 ≤ m 1 9 ∧ m 1 9 ≤ 40 := h.2.2.2.2.2.2.1.2.2.2.2.2.2
  have S7 : 0 ≤ m 1 7 ∧ m 1 7 ≤ 6 := h.2.2.2.2.2.2.1.2.2.2.2.1
  refine it_sum (n := (m 1 9).toNat) (g := fun c => am 1 (m 1) c) (by omega) (fun i acc hi => ?_) (fun acc => ?_)
  · obtain ⟨i8, i5, _⟩ := k_c8 (RS_c h (c := i) (by omega)).2 S7.2
    dsimp only
    unfold fModel_count_l45
    rw [tw (x := (i : Int)) (by omega) (by omega), tw (x := m 1 9) (by omega) (by omega), if_neg (show ¬ m 1 9 ≤ (i : Int) by omega), waited_m (by omega) i8 i5, Option.bind_some]
    rfl
  · dsimp only
    unfold fModel_count_l45
    rw [tw (x := (((m 1 9).toNat : Nat) : Int)) (by omega) (by omega), tw (x := m 1 9) (by omega) (by omega), if_pos (by omega)]
theorem member_w {s m : MI} (h : RS s (m 1)) {k : Int} (hk : 0 ≤ k ∧ k ≤ 20) (z : Int) : sl_it (fun (t : Int × Int × Int) => fModel_member_l18 k z t.1 t.2.1 t.2.2 m) sl_fu (0, 0, 0) = some (sumN (m 1 9).toNat (fun c => if vC (m 1) c 0 = k then am 0 (m 1) c else 0), sumN (m 1 9).toNat (fun c => if vC (m 1) c 0 = k then am 1 (m 1) c else 0)) := by
  have S9 : 0 ≤ m 1 9 ∧ m 1 9 ≤ 40 := h.2.2.2.2.2.2.1.2.2.2.2.2.2
  have S7 : 0 ≤ m 1 7 ∧ m 1 7 ≤ 6 := h.2.2.2.2.2.2.1.2.2.2.2.1
  have S6 : 0 ≤ m 1 6 ∧ m 1 6 ≤ 20 := h.2.2.2.2.2.2.1.2.2.2.1
  obtain ⟨n, hn⟩ : ∃ n : Nat, m 1 9 = (n : Int) := ⟨(m 1 9).toNat, by omega⟩
  have en : (m 1 9).toNat = n := by omega
  have wn : sm_w (n : Int) = n := tw (by omega) (by omega)
  rw [en]
  obtain ⟨y, hy, hq⟩ := it_inv (f := fun (t : Int × Int × Int) => fModel_member_l18 k z t.1 t.2.1 t.2.2 m) (I := fun t => ∃ i : Nat, t.2.2 = (i : Int) ∧ i ≤ n ∧ t.1 = sumN i (fun c => if vC (m 1) c 0 = k then am 0 (m 1) c else 0) ∧ t.2.1 = sumN i (fun c => if vC (m 1) c 0 = k then am 1 (m 1) c else 0)) (fun y => y = (sumN n (fun c => if vC (m 1) c 0 = k then am 0 (m 1) c else 0), sumN n (fun c => if vC (m 1) c 0 = k then am 1 (m 1) c else 0))) (fun t => (n - t.2.2).toNat) (fun t ⟨i, h1, h2, h3, h4⟩ => by
    obtain ⟨a, b, z'⟩ := t
    dsimp only at h1 h3 h4 ⊢
    subst h1
    subst h3
    subst h4
    have wi : sm_w (i : Int) = i := tw (by omega) (by omega)
    unfold fModel_member_l18 fModel_member_j55_l18
    rw [hn, wn, wi]
    by_cases q : i = n
    · subst q
      right
      exact ⟨_, by rw [if_pos (by omega)], rfl⟩
    · left
      obtain ⟨i8, i5, _⟩ := k_c8 (RS_c h (c := i) (by omega)).2 S7.2
      have i0 := (RS_c h (c := i) (by omega)).2.1
      rw [if_neg (show ¬ (n : Int) ≤ (i : Int) by omega), ofCall_0 (by omega), Option.bind_some, tw (x := vC (m 1) i 0) (by omega) (by omega), tw (x := k) (by omega) (by omega), waited_m (by omega) i8 i5, Option.bind_some]
      by_cases e : vC (m 1) i 0 = k
      · rw [if_pos e]
        refine ⟨_, rfl, ⟨i + 1, by push_cast; rfl, by omega, ?_, ?_⟩, md_lt h2 q⟩
        · show sumN i _ + 1 = sumN i _ + (if vC (m 1) i 0 = k then am 0 (m 1) i else 0)
          rw [if_pos e]
          rfl
        · show sumN i _ + wtd (m 1 0) (vC (m 1) i) = sumN i _ + (if vC (m 1) i 0 = k then am 1 (m 1) i else 0)
          rw [if_pos e]
          rfl
      · rw [if_neg e]
        refine ⟨_, rfl, ⟨i + 1, by push_cast; rfl, by omega, ?_, ?_⟩, md_lt h2 q⟩
        · show sumN i _ = sumN i _ + (if vC (m 1) i 0 = k then am 0 (m 1) i else 0)
          rw [if_neg e, Int.add_zero]
        · show sumN i _ = sumN i _ + (if vC (m 1) i 0 = k then am 1 (m 1) i else 0)
          rw [if_neg e, Int.add_zero]) sl_fu (0, 0, 0) ⟨0, rfl, by omega, rfl, rfl⟩ (by show ((n : Int) - 0).toNat < 5000; omega)
  rw [hy, hq]
theorem member_eq {d m : MI} {ro : Nat → Nat} {x y : Int} (h : DM d ro m) (hx : i32 x) (hy : i32 y) : ∃ v, fDesk_member x y d = some v ∧ fModel_member x y m = some v := by
  have a1 := h.1
  have S6 : 0 ≤ m 1 6 ∧ m 1 6 ≤ 20 := a1.2.2.2.2.2.2.1.2.2.2.1
  unfold fDesk_member fModel_member
  rw [isMember_c hx a1.1.1 S6, isMember_m hx S6, Option.bind_some, Option.bind_some, ix_w]
  by_cases q : 0 ≤ x ∧ x < m 1 6
  · obtain ⟨k, rfl⟩ : ∃ k : Nat, x = (k : Int) := ⟨x.toNat, by omega⟩
    have k20 : k < 20 := by omega
    obtain ⟨v, o1, o2, _⟩ := open_eq a1 hx
    have d5' : d 5 k = vM (m 1) k 0 := a1.2.2.1 k q.2
    obtain ⟨t1, t2, t3, t4⟩ := a1.2.2.2.2.2.2.2.2.2.2.2.2.2.1
    obtain ⟨u1, u2, u3⟩ := t4 k q.2
    rw [if_neg (ix_y q), if_neg (ix_y q), member_w a1 (by omega) y, Option.bind_some, tw hy.1 hy.2]
    by_cases u : 0 ≤ y ∧ y ≤ 6
    · rw [if_pos u, if_pos u, tw (x := (k : Int)) (by omega) (by omega), if_pos (show (0 : Int) ≤ (k : Int) ∧ (k : Int) < 20 by omega), show ((k : Int)).toNat = k by omega, d5', ofMember_c a1 (x := 0) (by omega) (by omega), Option.bind_some, o1, Option.bind_some, ofMember_c a1 (x := 1) (by omega) (by omega), Option.bind_some, ofMember_c a1 (x := 2) (by omega) (by omega), Option.bind_some, ofMember_c a1 (x := 3) (by omega) (by omega), Option.bind_some, ofMember_c a1 (x := 4) (by omega) (by omega), Option.bind_some, ofMember_c a1 (x := 5) (by omega) (by omega), Option.bind_some, ofMember_0 k20, Option.bind_some, o2, Option.bind_some, ofMember_1 k20, Option.bind_some, ofMember_2 k20, Option.bind_some, ofMember_3 k20, Option.bind_some, u1, u2, u3]
      have e4 : 1000 + sumN (m 1 9).toNat (fun c => if vC (m 1) c 0 = (k : Int) then am 2 (m 1) c else 0) - sumN (m 1 9).toNat (fun c => if vC (m 1) c 0 = (k : Int) then am 3 (m 1) c else 0) = sumN (m 1 9).toNat (fun c => if vC (m 1) c 0 = (k : Int) then paid (tierC (m 1) c) (vC (m 1) c) - 15 * late (vC (m 1) c) else 0) + 1000 := by
        rw [sumN_sub (f := fun c => if vC (m 1) c 0 = (k : Int) then am 2 (m 1) c else 0) (g := fun c => if vC (m 1) c 0 = (k : Int) then am 3 (m 1) c else 0) (e := fun c => if vC (m 1) c 0 = (k : Int) then paid (tierC (m 1) c) (vC (m 1) c) - 15 * late (vC (m 1) c) else 0) _ (fun c _ => ?_)]
        · omega
        · by_cases z : vC (m 1) c 0 = (k : Int)
          · rw [if_pos z, if_pos z, if_pos z]
            rfl
          · rw [if_neg z, if_neg z, if_neg z]
            rfl
      rw [e4]
      have e5 : (fun c => if vC (m 1) c 0 = (k : Int) then am 4 (m 1) c else 0) = fun c => if vC (m 1) c 0 = (k : Int) then vC (m 1) c 10 else 0 := rfl
      have e6 : (fun c => if vC (m 1) c 0 = (k : Int) then am 5 (m 1) c else 0) = fun c => if vC (m 1) c 0 = (k : Int) then late (vC (m 1) c) else 0 := rfl
      rw [e5, e6]
      refine ex_same ?_
      repeat' split
      all_goals exact ⟨_, rfl⟩
    · rw [if_neg u, if_neg u]
      exact ⟨_, rfl, rfl⟩
  · rw [if_pos (ix_n q), if_pos (ix_n q)]
    exact ⟨_, rfl, rfl⟩
