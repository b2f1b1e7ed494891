/-! ===== what is told of areas, patrols, garages, calls ===== -/
theorem lo_lo (d : MI) : sm_lo 1 (sm_lo 1 d) = sm_lo 2 d := by
  funext c j
  show d (1 + (1 + c)) j = d (2 + c) j
  rw [show 1 + (1 + c) = 2 + c by omega]
theorem distance_eq {d m : MI} {ro : Nat → Nat} {x y : Int} (h : DM d ro m) (hx : i32 x) (hy : i32 y) : ∃ v, fDesk_distance x y d = some v ∧ fModel_distance x y m = some v := by
  unfold fDesk_distance fModel_distance fModel_distance_j14
  rw [isArea_c hx, isArea_m hx, Option.bind_some, Option.bind_some, ix_w]
  by_cases q : 0 ≤ x ∧ x < 12
  · rw [if_neg (ix_y q), if_neg (ix_y q), isArea_c hy, isArea_m hy, Option.bind_some, Option.bind_some, ix_w]
    by_cases q' : 0 ≤ y ∧ y < 12
    · rw [if_neg (ix_y q'), if_neg (ix_y q')]
      obtain ⟨a, rfl⟩ : ∃ k : Nat, x = (k : Int) := ⟨x.toNat, by omega⟩
      obtain ⟨b, rfl⟩ : ∃ k : Nat, y = (k : Int) := ⟨y.toNat, by omega⟩
      have ha : a < 12 := by omega
      have hb : b < 12 := by omega
      rw [between_eq ha hb, Option.bind_some, way_eq ha hb, Option.bind_some, Option.bind_some, show sm_lo 2 d 2 (12 * a + b) = sm_lo 1 d 3 (12 * a + b) from rfl]
      rcases wk_D h.2.1 ha hb with ⟨h1, h2⟩ | ⟨h1, h2, h3⟩
      · rw [h1, h2, tw (x := 1000000) (by omega) (by omega), tw (x := 100000) (by omega) (by omega), if_pos (show (1000000 : Int) ≤ 1000000 by omega), if_neg (show ¬ (100000 : Int) < 100000 by omega)]
        exact ⟨_, rfl, rfl⟩
      · rw [h1, tw (x := d2 m a b) (by omega) (by omega), if_neg (show ¬ (1000000 : Int) ≤ d2 m a b by omega), if_pos (show d2 m a b < 100000 by omega)]
        exact ⟨_, rfl, rfl⟩
    · rw [if_pos (ix_n q'), if_pos (ix_n q')]
      exact ⟨_, rfl, rfl⟩
  · rw [if_pos (ix_n q), if_pos (ix_n q)]
    exact ⟨_, rfl, rfl⟩
theorem k_patrol {r q : Nat → Int} {w : Nat} (hw : w < 12) (hR : pR r q) (h2 : q 2 = 0 ∨ q 2 = 1) :
    (if (w : Int) = 0 then some (r 0) else (if (w : Int) = 1 then some (r 1) else (if (w : Int) = 2 then (if sm_w (r 2) = 0 then some 0 else some 1) else (if (w : Int) = 3 then some (r 3) else (if (w : Int) = 4 then some (r 4) else (if (w : Int) = 5 then some (r 5) else (if (w : Int) = 6 then some (r 6) else (if (w : Int) = 7 then some (r 9) else (if (w : Int) = 8 then some (r 10) else (if (w : Int) = 9 then some (r 11) else (if (w : Int) = 10 then some (r 12) else some (r 13)))))))))))) = some (q w) := by
  obtain ⟨⟨r0, r1, r2, r3, r4, r5, r6⟩, _, r9, r10, r11, r12, r13⟩ := hR
  rw [r0, r1, r2, r3, r4, r5, r6, r9, r10, r11, r12, r13, tw (x := q 2) (by omega) (by omega)]
  obtain rfl | rfl | rfl | rfl | rfl | rfl | rfl | rfl | rfl | rfl | rfl | rfl : w = 0 ∨ w = 1 ∨ w = 2 ∨ w = 3 ∨ w = 4 ∨ w = 5 ∨ w = 6 ∨ w = 7 ∨ w = 8 ∨ w = 9 ∨ w = 10 ∨ w = 11 := by omega
  all_goals simp
  rcases h2 with e | e <;> simp [e]
theorem patrol_eq {d m : MI} {ro : Nat → Nat} {x y : Int} (h : DM d ro m) (hx : i32 x) (hy : i32 y) : ∃ v, fDesk_patrol x y d = some v ∧ fModel_patrol x y m = some v := by
  have a1 := h.1
  have n4 : sm_lo 1 d 0 4 = m 1 7 := a1.1.2.1
  have S7 : 0 ≤ m 1 7 ∧ m 1 7 ≤ 6 := a1.2.2.2.2.2.2.1.2.2.2.2.1
  unfold fDesk_patrol fModel_patrol
  rw [isPatrol_c hx n4 S7, isPatrol_m hx S7, Option.bind_some, Option.bind_some, ix_w]
  by_cases q : 0 ≤ x ∧ x < m 1 7
  · rw [if_neg (ix_y q), if_neg (ix_y q), show fModel_in y 0 11 = some (ix y 12) from in_ix (n := 12) hy (by omega), Option.bind_some, ix_w]
    obtain ⟨p, rfl⟩ : ∃ k : Nat, x = (k : Int) := ⟨x.toNat, by omega⟩
    have p6 : p < 6 := by omega
    rw [tw (x := (p : Int)) (by omega) (by omega), if_pos (show (0 : Int) ≤ (p : Int) ∧ (p : Int) < 6 by omega), show ((p : Int)).toNat = p by omega, tw hy.1 hy.2]
    by_cases u : 0 ≤ y ∧ y < 12
    · obtain ⟨w, rfl⟩ : ∃ k : Nat, y = (k : Int) := ⟨y.toNat, by omega⟩
      have w12 : w < 12 := by omega
      obtain ⟨hR, hI⟩ := RS_p a1 q.2
      have key := k_patrol (r := d (1 + (10 + p))) (q := vP (m 1) p) w12 hR hI.2.2.1
      rw [if_pos (show (0 : Int) ≤ (w : Int) ∧ (w : Int) ≤ 11 by omega), if_neg (ix_y u), ofPatrol_g p6 (by omega), Option.bind_some, key]
      exact ⟨_, rfl, rfl⟩
    · rw [if_pos (ix_n u), if_neg (show ¬ (0 ≤ y ∧ y ≤ 11) by omega)]
      exact ⟨_, rfl, rfl⟩
  · rw [if_pos (ix_n q), if_pos (ix_n q)]
    exact ⟨_, rfl, rfl⟩
theorem RS_GA {s : MI} {N : Nat → Int} (h : RS s N) : GA s N := by
  obtain ⟨a1, a2, a3, a4, a5, a6, b1, b2, b3, b4, b5, b6, b7, b8, b9⟩ := h
  obtain ⟨S0, S1, S2, S6, S7, S8, S9⟩ := b1
  refine ⟨fun g hg => ?_, b5, S8, a1.2.2.1, S7, fun p hp => ?_⟩
  · obtain ⟨x0, x1, x2, x3, _⟩ := a5 g hg
    exact ⟨x0, x1, x2, x3⟩
  · obtain ⟨_, _, _, _, i5, i6⟩ := b4 p hp
    refine ⟨by omega, fun e => ?_⟩
    exact (i6 e).2
theorem garage_q {d m : MI} {ro : Nat → Nat} {x y : Int} (h : DM d ro m) (hx : i32 x) (hy : i32 y) : ∃ v, fDesk_garage x y d = some v ∧ fModel_garage x y m = some v := by
  have a1 := h.1
  have n6 : sm_lo 1 d 0 6 = m 1 8 := a1.1.2.2.1
  have S8 : 0 ≤ m 1 8 ∧ m 1 8 ≤ 5 := a1.2.2.2.2.2.2.1.2.2.2.2.2.1
  unfold fDesk_garage fModel_garage fModel_garage_j47
  rw [isGarage_c hx n6 S8, isGarage_m hx S8, Option.bind_some, Option.bind_some, ix_w]
  by_cases q : 0 ≤ x ∧ x < m 1 8
  · rw [if_neg (ix_y q), if_neg (ix_y q), show fModel_in y 0 4 = some (ix y 5) from in_ix (n := 5) hy (by omega), Option.bind_some, ix_w]
    obtain ⟨g, rfl⟩ : ∃ k : Nat, x = (k : Int) := ⟨x.toNat, by omega⟩
    have g5 : g < 5 := by omega
    rw [tw (x := (g : Int)) (by omega) (by omega), if_pos (show (0 : Int) ≤ (g : Int) ∧ (g : Int) < 5 by omega), show ((g : Int)).toNat = g by omega, tw hy.1 hy.2]
    by_cases u : 0 ≤ y ∧ y < 5
    · obtain ⟨⟨x0, x1, x2, x3, x4⟩, _⟩ := RS_g a1 q.2
      have x0' : d (1 + (16 + g)) 0 = vG (m 1) g 0 := x0
      have x1' : d (1 + (16 + g)) 1 = vG (m 1) g 1 := x1
      have x2' : d (1 + (16 + g)) 2 = vG (m 1) g 2 := x2
      have x3' : d (1 + (16 + g)) 3 = uw (m 1) g := x3
      have x4' : d (1 + (16 + g)) 4 = vG (m 1) g 3 := x4
      rw [if_pos (show 0 ≤ y ∧ y ≤ 4 by omega), if_neg (ix_y u), x0', x1', x2', x3', x4']
      obtain rfl | rfl | rfl | rfl | rfl : y = 0 ∨ y = 1 ∨ y = 2 ∨ y = 3 ∨ y = 4 := by omega
      · rw [if_pos rfl, if_neg (show ¬ (0 : Int) = 3 by omega), if_neg (show ¬ (0 : Int) = 4 by omega), ofGarage_0 g5, Option.bind_some]
        exact ⟨_, rfl, rfl⟩
      · rw [if_neg n10, if_pos rfl, if_neg (show ¬ (1 : Int) = 3 by omega), if_neg (show ¬ (1 : Int) = 4 by omega), ofGarage_1 g5, Option.bind_some]
        exact ⟨_, rfl, rfl⟩
      · rw [if_neg (show ¬ (2 : Int) = 0 by omega), if_neg (show ¬ (2 : Int) = 1 by omega), if_pos rfl, if_neg (show ¬ (2 : Int) = 3 by omega), if_neg (show ¬ (2 : Int) = 4 by omega), ofGarage_2 g5, Option.bind_some]
        exact ⟨_, rfl, rfl⟩
      · rw [if_neg (show ¬ (3 : Int) = 0 by omega), if_neg (show ¬ (3 : Int) = 1 by omega), if_neg (show ¬ (3 : Int) = 2 by omega), if_pos rfl, if_pos rfl, underWay_eq (RS_GA a1) g5, Option.bind_some]
        exact ⟨_, rfl, rfl⟩
      · rw [if_neg (show ¬ (4 : Int) = 0 by omega), if_neg (show ¬ (4 : Int) = 1 by omega), if_neg (show ¬ (4 : Int) = 2 by omega), if_neg (show ¬ (4 : Int) = 3 by omega), if_neg (show ¬ (4 : Int) = 3 by omega), if_pos rfl, ofGarage_3 g5, Option.bind_some]
        exact ⟨_, rfl, rfl⟩
    · rw [if_pos (ix_n u), if_neg (show ¬ (0 ≤ y ∧ y ≤ 4) by omega)]
      exact ⟨_, rfl, rfl⟩
  · rw [if_pos (ix_n q), if_pos (ix_n q)]
    exact ⟨_, rfl, rfl⟩
theorem rest_m {m : MI} {c : Nat} (hc : c < 40) : fModel_rest (c : Int) m = some (vC (m 1) c 3 - (m 1 0 - vC (m 1) c 4)) := by
  unfold fModel_rest
  rw [ofCall_3 hc, Option.bind_some, ofCall_4 hc, Option.bind_some]
theorem k_callOf {r q : Nat → Int} {w : Nat} {P W D R : Int} (hw : w < 13) (hR : cR r q) (hq : 0 ≤ q 5 ∧ q 5 ≤ 7) (h10 : q 10 = 0 ∨ q 10 = 1) (hP : P = q 6) (hD : D - R + 10000 = q 3 - (R - q 4) + 10000) (U : Int) (hU : U = if r 5 ≤ 1 then 1 else 0) :
    (if (w : Int) = 0 then some (r 0) else (if (w : Int) = 1 then some (r 1) else (if (w : Int) = 2 then some (r 2) else (if (w : Int) = 3 then some (r 3) else (if (w : Int) = 4 then some (r 4) else (if (w : Int) = 5 then some (r 5) else (if (w : Int) = 6 then some P else (if (w : Int) = 7 then some W else (if (w : Int) = 8 then some (r 6) else (if (w : Int) = 9 then some (r 8) else (if (w : Int) = 10 then (if sm_w (r 10) = 0 then some 0 else some 1) else (if (w : Int) = 11 then (if sm_w U = 0 then some (-5) else some ((D - R) + 10000)) else some (r 9))))))))))))) =
    (if (w : Int) = 7 then some W else (if (w : Int) = 11 then (if sm_w (q 5) ≤ 1 then some (q 3 - (R - q 4) + 10000) else some (-5)) else (if (w : Int) = 12 then some (q 11) else some (q w)))) := by
  obtain ⟨⟨r0, r1, r2, r3, r4, r5, r6⟩, _, _, r8, r9, r10⟩ := hR
  have wU : sm_w U = if q 5 ≤ 1 then 1 else 0 := by
    rw [hU, r5]
    by_cases e : q 5 ≤ 1
    · rw [if_pos e]; exact w1
    · rw [if_neg e]; exact w0
  rw [hP, wU, r0, r1, r2, r3, r4, r5, r6, r8, r9, r10, tw (x := q 10) (by omega) (by omega), tw (x := q 5) (by omega) (by omega), hD]
  obtain rfl | rfl | rfl | rfl | rfl | rfl | rfl | rfl | rfl | rfl | rfl | rfl | rfl : w = 0 ∨ w = 1 ∨ w = 2 ∨ w = 3 ∨ w = 4 ∨ w = 5 ∨ w = 6 ∨ w = 7 ∨ w = 8 ∨ w = 9 ∨ w = 10 ∨ w = 11 ∨ w = 12 := by omega
  all_goals simp
  · rcases h10 with e | e <;> simp [e]
  · by_cases e : q 5 ≤ 1
    · simp [e]
      intro _
      omega
    · simp [e]
theorem ex_same {T : Option Int} (h : ∃ v, T = some v) : ∃ v, T = some v ∧ T = some v := h.imp (fun _ e => ⟨e, e⟩)
theorem callOf_eq {d m : MI} {ro : Nat → Nat} {x y : Int} (h : DM d ro m) (hx : i32 x) (hy : i32 y) : ∃ v, fDesk_callOf x y d = some v ∧ fModel_callOf x y m = some v := by
  have a1 := h.1
  have n8 : sm_lo 1 d 0 8 = m 1 9 := a1.1.2.2.2.1
  have n11 : d 1 11 = m 1 0 := a1.1.2.2.2.2.2.1
  have S9 : 0 ≤ m 1 9 ∧ m 1 9 ≤ 40 := a1.2.2.2.2.2.2.1.2.2.2.2.2.2
  have S7 : 0 ≤ m 1 7 ∧ m 1 7 ≤ 6 := a1.2.2.2.2.2.2.1.2.2.2.2.1
  have S0 : 0 ≤ m 1 0 ∧ m 1 0 ≤ 2880 := a1.2.2.2.2.2.2.1.1
  unfold fDesk_callOf fModel_callOf
  rw [isCall_c hx n8 S9, isCall_m hx S9, Option.bind_some, Option.bind_some, ix_w]
  by_cases q : 0 ≤ x ∧ x < m 1 9
  · rw [if_neg (ix_y q), if_neg (ix_y q), show fModel_in y 0 12 = some (ix y 13) from in_ix (n := 13) hy (by omega), Option.bind_some, ix_w]
    obtain ⟨c, rfl⟩ : ∃ k : Nat, x = (k : Int) := ⟨x.toNat, by omega⟩
    have c40 : c < 40 := by omega
    obtain ⟨hR, hI⟩ := RS_c a1 q.2
    obtain ⟨i8, i5, i6⟩ := k_c8 hI S7.2
    have hR' : cR (d (1 + (21 + c))) (vC (m 1) c) := hR
    have r5 : d (1 + (21 + c)) 5 = vC (m 1) c 5 := hR.1.2.2.2.2.2.1
    have eDue : fBreakdown_due (sm_lo (1 + (21 + c)) d) = some (d (1 + (21 + c)) 4 + d (1 + (21 + c)) 3) := rfl
    rw [tw (x := (c : Int)) (by omega) (by omega), if_pos (show (0 : Int) ≤ (c : Int) ∧ (c : Int) < 40 by omega), show ((c : Int)).toNat = c by omega, tw hy.1 hy.2, patrolOf_eq a1 q.2, Option.bind_some, n11, waited_c hR' hI S0.2 S7.2, Option.bind_some, isUn_c (by rw [r5]; exact i5), Option.bind_some, eDue, Option.bind_some]
    by_cases u : 0 ≤ y ∧ y < 13
    · obtain ⟨w, rfl⟩ : ∃ k : Nat, y = (k : Int) := ⟨y.toNat, by omega⟩
      have w13 : w < 13 := by omega
      have key := k_callOf (r := d (1 + (21 + c))) (q := vC (m 1) c) (P := vC (m 1) c 6) (W := wtd (m 1 0) (vC (m 1) c)) (D := d (1 + (21 + c)) 4 + d (1 + (21 + c)) 3) (R := m 1 0) w13 hR' i5 hI.2.2.2.2.2.1 rfl (by
        have e3 := hR'.1.2.2.2.1
        have e4 := hR'.1.2.2.2.2.1
        omega) (if d (1 + (21 + c)) 5 ≤ 1 then 1 else 0) rfl
      rw [if_pos (show (0 : Int) ≤ (w : Int) ∧ (w : Int) ≤ 12 by omega), if_neg (ix_y u), key, waited_m c40 i8 i5, Option.bind_some, ofCall_5 c40, Option.bind_some, rest_m c40, Option.bind_some, ofCall_11 c40, Option.bind_some, ofCall_g c40 w13, Option.bind_some]
      refine ex_same ?_
      repeat' split
      all_goals exact ⟨_, rfl⟩
    · rw [if_pos (ix_n u), if_neg (show ¬ (0 ≤ y ∧ y ≤ 12) by omega)]
      exact ⟨_, rfl, rfl⟩
  · rw [if_pos (ix_n q), if_pos (ix_n q)]
    exact ⟨_, rfl, rfl⟩
theorem nearest_eq {d m : MI} {ro : Nat → Nat} {x : Int} (h : DM d ro m) (hx : i32 x) : ∃ v, fDesk_nearest x d = some v ∧ fModel_nearest x m = some v := by
  have a1 := h.1
  have n8 : sm_lo 1 d 0 8 = m 1 9 := a1.1.2.2.2.1
  have S9 : 0 ≤ m 1 9 ∧ m 1 9 ≤ 40 := a1.2.2.2.2.2.2.1.2.2.2.2.2.2
  unfold fDesk_nearest fModel_nearest
  rw [isCall_c hx n8 S9, isCall_m hx S9, Option.bind_some, Option.bind_some, ix_w]
  by_cases q : 0 ≤ x ∧ x < m 1 9
  · rw [if_neg (ix_y q), if_neg (ix_y q)]
    obtain ⟨c, rfl⟩ : ∃ k : Nat, x = (k : Int) := ⟨x.toNat, by omega⟩
    obtain ⟨e1, e2⟩ := waits_eq a1 q.2
    rw [e1, e2, Option.bind_some, Option.bind_some]
    by_cases u : vC (m 1) c 5 = 0 ∨ vC (m 1) c 5 = 3 ∧ vC (m 1) c 6 = -5
    · have ew : wt (m 1) c = 1 := if_pos u
      obtain ⟨b, x1, x2, _⟩ := near_eq a1 h.2.1 q.2 (by omega)
      rw [ew, w1, if_neg n10, if_neg n10, tw (x := (c : Int)) (by omega) (by omega), if_pos (show (0 : Int) ≤ (c : Int) ∧ (c : Int) < 40 by omega), show ((c : Int)).toNat = c by omega, x1, x2]
      exact ⟨_, rfl, rfl⟩
    · have ew : wt (m 1) c = 0 := if_neg u
      rw [ew, w0, if_pos rfl, if_pos rfl]
      exact ⟨_, rfl, rfl⟩
  · rw [if_pos (ix_n q), if_pos (ix_n q)]
    exact ⟨_, rfl, rfl⟩
theorem waiting_eq {d m : MI} {ro : Nat → Nat} {z : Int} (h : DM d ro m) (hz : i32 z) : ∃ v d' m', fDesk_waiting z d = some (v, d') ∧ fModel_waiting z m = some (v, m') ∧ DM d' ro m' := by
  unfold fDesk_waiting fModel_waiting
  rw [tw hz.1 hz.2]
  by_cases q : 0 ≤ z
  · rw [if_pos q, if_pos q]
    obtain ⟨f, P, m1, f40, eC, eM, e11, ⟨x1, x2, x3⟩, ent, _⟩ := row_eq h.1 h.2.1
    have m11 : m1 1 = m 1 := x2 1 (by omega) (by omega)
    have hD : DM (sm_gl 1 61 P d) ro m1 := by
      refine DM_now h (fun a ha => ?_) (x2 2 (by omega) (by omega)) (x2 3 (by omega) (by omega)) (x2 5 (by omega) (by omega)) (x3 2 (by omega)) (x3 4 (by omega)) (x3 7 (by omega)) ?_ ?_
      · funext j
        exact gl_o (by omega)
      · rw [m11]
        exact RS_61 (RS_d h.1 x1) (fun i hi => lo_gl P d hi)
      · exact wk_61 (wk_d h.2.1 x1 x2) (fun i hi => lo_gl P d hi)
    rw [eC, eM, Option.bind_some, Option.bind_some, Option.bind_some, e11, tw (x := (f : Int)) (by omega) (by omega)]
    dsimp only
    by_cases u : (f : Int) ≤ z
    · rw [if_pos u, if_pos u]
      exact ⟨_, _, _, rfl, rfl, hD⟩
    · obtain ⟨k, rfl⟩ : ∃ k : Nat, z = (k : Int) := ⟨z.toNat, by omega⟩
      obtain ⟨o, _, o1, o2⟩ := ent k (by omega)
      have o1' : sm_gl 1 61 P d 10 k = (o : Int) := by
        rw [gl_i (by omega) (by omega)]
        exact o1
      rw [if_neg u, if_neg u, if_neg (show ¬ (40 : Int) ≤ (k : Int) by omega), if_pos (show (0 : Int) ≤ (k : Int) ∧ (k : Int) < 40 by omega), if_pos (show (0 : Int) ≤ (k : Int) ∧ (k : Int) < 40 by omega), show ((k : Int)).toNat = k by omega, o1', o2]
      exact ⟨_, _, _, rfl, rfl, hD⟩
  · rw [if_neg q, if_neg q]
    exact ⟨_, _, _, rfl, rfl, h⟩
