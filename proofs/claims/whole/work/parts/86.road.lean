/-! ===== a road ===== -/
theorem rdl_lt {N N' : Nat → Int} (x y : Nat) : ∀ r, (∀ i, 16 ≤ i → i < 16 + 3 * r → N' i = N i) → rdl N' r x y = rdl N r x y
  | 0, _ => rfl
  | r + 1, h => by
    unfold rdl
    rw [h (16 + 3 * r) (by omega) (by omega), h (16 + 3 * r + 1) (by omega) (by omega), h (16 + 3 * r + 2) (by omega) (by omega), rdl_lt x y r (fun i a b => h i a (by omega))]
abbrev nR (N : Nat → Int) (r a b : Nat) (z : Int) : Nat → Int := nu (nu (nu (nu N (16 + 3 * r) (a : Int)) (16 + 3 * r + 1) (b : Int)) (16 + 3 * r + 2) z) 5 ((r : Int) + 1)
theorem nR_o {N : Nat → Int} {r a b : Nat} {z : Int} {i : Nat} (h5 : ¬ i = 5) (h : i < 16 + 3 * r ∨ 16 + 3 * r + 3 ≤ i) : nR N r a b z i = N i := by
  unfold nR
  rw [nu_n h5, nu_n (by omega), nu_n (by omega), nu_n (by omega)]
theorem nR_0 (N : Nat → Int) (r a b : Nat) (z : Int) : nR N r a b z (16 + 3 * r) = (a : Int) := by
  unfold nR
  rw [nu_n (by omega), nu_n (by omega), nu_n (by omega), nu_s]
theorem nR_1 (N : Nat → Int) (r a b : Nat) (z : Int) : nR N r a b z (16 + 3 * r + 1) = (b : Int) := by
  unfold nR
  rw [nu_n (by omega), nu_n (by omega), nu_s]
theorem nR_2 (N : Nat → Int) (r a b : Nat) (z : Int) : nR N r a b z (16 + 3 * r + 2) = z := by
  unfold nR
  rw [nu_n (by omega), nu_s]
theorem nR_rd {N : Nat → Int} {r a b : Nat} {z : Int} (hr : N 5 = (r : Int)) : rd (nR N r a b z) = rdAdd (rd N) a b z := by
  funext x y
  have e5 : nR N r a b z 5 = (r : Int) + 1 := nu_s _ _ _
  have e1 : (nR N r a b z 5).toNat = r + 1 := by omega
  have e2 : (N 5).toNat = r := by omega
  unfold rd rdAdd
  rw [e1, e2]
  show (if ((x : Int) = nR N r a b z (16 + 3 * r) ∧ (y : Int) = nR N r a b z (16 + 3 * r + 1)) ∨ ((x : Int) = nR N r a b z (16 + 3 * r + 1) ∧ (y : Int) = nR N r a b z (16 + 3 * r)) then nR N r a b z (16 + 3 * r + 2) else rdl (nR N r a b z) r x y) = _
  rw [nR_0, nR_1, nR_2, rdl_lt x y r (fun i h h' => nR_o (by omega) (by omega))]
  by_cases q : (x = a ∧ y = b) ∨ (x = b ∧ y = a)
  · rw [if_pos q, if_pos (by omega)]
  · rw [if_neg q, if_neg (by omega)]
theorem nR_OK {N : Nat → Int} {r a b : Nat} {z : Int} (h : rOK N) (hr : N 5 = (r : Int)) (r30 : r < 30) (ha : a < 12) (hb : b < 12) (hab : ¬ a = b) (hz : 1 ≤ z ∧ z ≤ 60) : rOK (nR N r a b z) := by
  have e5 : nR N r a b z 5 = (r : Int) + 1 := nu_s _ _ _
  refine ⟨by omega, by omega, fun k hk => ?_⟩
  by_cases q : k = r
  · subst q
    rw [nR_0, nR_1, nR_2]
    exact ⟨by omega, by omega, by omega, hz⟩
  · rw [nR_o (by omega) (by omega), nR_o (by omega) (by omega), nR_o (by omega) (by omega)]
    exact h.2.2 k (by omega)
theorem road_c {a b : Nat} {s : MI} (ha : a < 12) (hb : b < 12) : fMap_road (a : Int) (b : Int) s = some (s 1 (12 * a + b)) := by
  unfold fMap_road
  rw [isArea_eq ha, isArea_eq hb, Option.bind_some, Option.bind_some, w1, if_neg n10, if_neg n10, tw (x := (a : Int) * 12 + (b : Int)) (by omega) (by omega), if_pos (show (0 : Int) ≤ (a : Int) * 12 + (b : Int) ∧ (a : Int) * 12 + (b : Int) < 144 by omega), show ((a : Int) * 12 + (b : Int)).toNat = 12 * a + b by omega]
theorem addRoad_eq {d m : MI} {ro : Nat → Nat} {x y z : Int} (h : DM d ro m) (hx : i32 x) (hy : i32 y) (hz : i32 z) : ∃ v d' ro' m', fDesk_addRoad x y z d ro = some (v, d', ro') ∧ fModel_addRoad x y z m = some (v, m') ∧ DM d' ro' m' := by
  have a1 := h.1
  have n5 : d 2 0 = m 1 5 := a1.1.2.2.2.2.2.2.2
  have R5 : rOK (m 1) := h.2.1.2.2
  have S5 : 0 ≤ m 1 5 ∧ m 1 5 ≤ 30 := ⟨R5.1, R5.2.1⟩
  unfold fDesk_addRoad fModel_addRoad
  rw [isArea_c hx, isArea_m hx, Option.bind_some, Option.bind_some, ix_w]
  by_cases q : 0 ≤ x ∧ x < 12
  · rw [if_neg (ix_y q), if_neg (ix_y q), isArea_c hy, isArea_m hy, Option.bind_some, Option.bind_some, ix_w]
    by_cases q' : 0 ≤ y ∧ y < 12
    · rw [if_neg (ix_y q'), if_neg (ix_y q'), in_eq hz (by unfold i32; omega) (by unfold i32; omega), Option.bind_some, tw hx.1 hx.2, tw hy.1 hy.2, tw hz.1 hz.2]
      by_cases r : 1 ≤ z ∧ z ≤ 60
      · rw [if_neg (show ¬ z < 1 by omega), if_neg (show ¬ 60 < z by omega), if_pos r, w1, if_neg n10]
        by_cases e : x = y
        · rw [if_pos e, if_pos e]
          exact ⟨_, _, _, _, rfl, rfl, h⟩
        · rw [if_neg e, if_neg e]
          obtain ⟨a, rfl⟩ : ∃ k : Nat, x = (k : Int) := ⟨x.toNat, by omega⟩
          obtain ⟨b, rfl⟩ : ∃ k : Nat, y = (k : Int) := ⟨y.toNat, by omega⟩
          have ha : a < 12 := by omega
          have hb : b < 12 := by omega
          have hab : ¬ a = b := by omega
          have hrd : sm_lo 2 d 1 (12 * a + b) = rd (m 1) a b := h.2.1.1.1 a b ha hb
          have hw := h.2.1.2.1.1 a b ha hb
          have hle := rd_le R5 a b
          rw [road_c ha hb, Option.bind_some, hrd, n5, tw (x := rd (m 1) a b) (by omega) (by omega), tw (x := m 1 5) (by omega) (by omega), tw (x := 12 * (a : Int) + (b : Int)) (by omega) (by omega), if_pos (show (0 : Int) ≤ 12 * (a : Int) + (b : Int) ∧ 12 * (a : Int) + (b : Int) < 144 by omega), show (12 * (a : Int) + (b : Int)).toNat = 12 * a + b by omega, hw]
          by_cases u : rd (m 1) a b = 0
          · rw [if_pos (show rd (m 1) a b ≤ 0 by omega), if_pos u, tw (x := 100000) (by omega) (by omega), if_pos (show (100000 : Int) ≤ 100000 by omega)]
            by_cases w : m 1 5 < 30
            · rw [if_pos w, if_neg (show ¬ m 1 5 = 30 by omega)]
              obtain ⟨d1, ro1, m1, eD, eM, hD, kd, k0, km, km0⟩ := record_eq h
              have q1 : m1 1 = m 1 := km 1 (by omega) (by omega)
              obtain ⟨k, hk⟩ : ∃ k : Nat, m1 1 5 = (k : Int) := ⟨(m 1 5).toNat, by rw [q1]; omega⟩
              have k30 : k < 30 := by rw [q1] at hk; omega
              have u' : rd (m1 1) a b = 0 := by rw [q1]; exact u
              have us : rd (m1 1) b a = 0 := by
                rw [← u']
                exact rdl_sym (m1 1) b a _
              obtain ⟨P, eP, P0, P1, P2⟩ := build_eq (rd := rd (m1 1)) (a := a) (b := b) (m := z) (s := sm_lo 2 d1) hD.2.1.1.2 ha hb hab r hD.2.1.1.1 ⟨u', us⟩
              have n5' : sm_lo 2 d1 0 0 = (k : Int) := hD.1.1.2.2.2.2.2.2.2.trans hk
              rw [n5'] at eP P0
              rw [show (k : Int) + 1 - 1 = (k : Int) by omega] at eP
              rw [eD, eM, Option.bind_some, Option.bind_some]
              dsimp only
              rw [eP, Option.bind_some, Option.bind_some, hk, tw (x := 16 + 3 * (k : Int)) (by omega) (by omega), if_pos (show (0 : Int) ≤ 16 + 3 * (k : Int) ∧ 16 + 3 * (k : Int) < 810 by omega), show (16 + 3 * (k : Int)).toNat = 16 + 3 * k by omega, Option.bind_some, tw (x := 16 + 3 * (k : Int) + 1) (by omega) (by omega), if_pos (show (0 : Int) ≤ 16 + 3 * (k : Int) + 1 ∧ 16 + 3 * (k : Int) + 1 < 810 by omega), show (16 + 3 * (k : Int) + 1).toNat = 16 + 3 * k + 1 by omega, Option.bind_some, tw (x := 16 + 3 * (k : Int) + 2) (by omega) (by omega), if_pos (show (0 : Int) ≤ 16 + 3 * (k : Int) + 2 ∧ 16 + 3 * (k : Int) + 2 < 810 by omega), show (16 + 3 * (k : Int) + 2).toNat = 16 + 3 * k + 2 by omega, Option.bind_some, up_j (by omega : ¬ 5 = 16 + 3 * k + 2), up_j (by omega : ¬ 5 = 16 + 3 * k + 1), up_j (by omega : ¬ 5 = 16 + 3 * k), hk, Option.bind_some]
              have e1 : sm_up (sm_up (sm_up (sm_up m1 1 (16 + 3 * k) (a : Int)) 1 (16 + 3 * k + 1) (b : Int)) 1 (16 + 3 * k + 2) z) 1 5 ((k : Int) + 1) 1 = nR (m1 1) k a b z := by rw [up_nu, up_nu, up_nu, up_nu]
              have eo : ∀ i, ¬ i = 1 → sm_up (sm_up (sm_up (sm_up m1 1 (16 + 3 * k) (a : Int)) 1 (16 + 3 * k + 1) (b : Int)) 1 (16 + 3 * k + 2) z) 1 5 ((k : Int) + 1) i = m1 i := fun i hi => by rw [up_D hi, up_D hi, up_D hi, up_D hi]
              have H := hD.1
              obtain ⟨a1', a2, a3, a4, a5, a6, b1, b2, b3, b4, b5, b6, b7, b8, b9⟩ := H
              have hOK := nR_OK (z := z) b2 hk k30 ha hb hab r
              obtain ⟨m3, eL, qL, hW⟩ := lays_eq (m := sm_up (sm_up (sm_up (sm_up m1 1 (16 + 3 * k) (a : Int)) 1 (16 + 3 * k + 1) (b : Int)) 1 (16 + 3 * k + 2) z) 1 5 ((k : Int) + 1)) (by rw [e1]; exact hOK)
              have e31 : m3 1 = nR (m1 1) k a b z := by rw [qL 1 (by omega) (by omega), e1]
              have e3o : ∀ i, ¬ i = 1 → ¬ i = 6 → ¬ i = 7 → m3 i = m1 i := fun i u v w => by rw [qL i v w, eo i u]
              rw [eL, Option.bind_some]
              have gi : ∀ i, (i < 1 ∨ 4 ≤ i) → sm_lo 1 (sm_gl 2 3 P d1) i = sm_lo 1 d1 i := fun i hi => by
                funext j
                exact gl_o (by omega)
              have g1 : ∀ i j, i < 3 → sm_lo 1 (sm_gl 2 3 P d1) (i + 1) j = P i j := fun i j hi => by
                show sm_gl 2 3 P d1 (1 + (i + 1)) j = P i j
                rw [gl_i (by omega) (by omega), show 1 + (i + 1) - 2 = i by omega]
              have hmR : mR (sm_lo 1 (sm_gl 2 3 P d1)) (nR (m1 1) k a b z) := by
                unfold mR
                rw [nR_rd hk]
                refine ⟨fun x y hx hy => (g1 1 _ (by omega)).trans (P1 x y hx hy), ?_⟩
                have : (fun x y => sm_lo 1 (sm_gl 2 3 P d1) 3 (12 * x + y)) = mD P := by
                  funext x y
                  exact g1 2 _ (by omega)
                rw [this]
                exact P2
              have en : ∀ i, i < 16 → ¬ i = 5 → nR (m1 1) k a b z i = m1 1 i := fun i hi hi' => nR_o hi' (by omega)
              have vp : ∀ p, vP (nR (m1 1) k a b z) p = vP (m1 1) p := fun p => by rw [vP_o (by omega), vP_o (by omega), vP_o (by omega), vP_o (by omega)]
              have vc : ∀ p, vC (nR (m1 1) k a b z) p = vC (m1 1) p := fun p => by rw [vC_o (by omega), vC_o (by omega), vC_o (by omega), vC_o (by omega)]
              have vg : ∀ p, vG (nR (m1 1) k a b z) p = vG (m1 1) p := fun p => by rw [vG_o (by omega), vG_o (by omega), vG_o (by omega), vG_o (by omega)]
              have vm : ∀ p, vM (nR (m1 1) k a b z) p = vM (m1 1) p := fun p => by rw [vM_o (by omega), vM_o (by omega), vM_o (by omega), vM_o (by omega)]
              have hRS : RS (sm_lo 1 (sm_gl 2 3 P d1)) (m3 1) := by
                rw [e31]
                refine RS_grow hD.1 ?_ hmR ?_ hOK (Int.le_of_eq (en 6 (by omega) (by omega)).symm) (Int.le_of_eq (en 7 (by omega) (by omega)).symm) (Int.le_of_eq (en 8 (by omega) (by omega)).symm) (en 9 (by omega) (by omega)) (en 0 (by omega) (by omega)) (en 10 (by omega) (by omega)) (en 11 (by omega) (by omega)) (en 12 (by omega) (by omega)) (fun p hp => ⟨vp p, gi _ (by omega)⟩) (fun g hg => ⟨vg g, gi _ (by omega)⟩) (fun c hc => ⟨vc c, gi _ (by omega)⟩) (fun j hj => ⟨vm j, by rw [gi 4 (by omega)]⟩) (fun p u v => ?_) (fun g u v => ?_) (fun j u v => ?_) ?_
                · obtain ⟨x1, x2, x3, x4, x5, x6, x7, x8⟩ := a1'
                  unfold sR
                  rw [gi 0 (by omega), gi 8 (by omega), show sm_lo 1 (sm_gl 2 3 P d1) 1 0 = P 0 0 from g1 0 0 (by omega), P0, en 6 (by omega) (by omega), en 7 (by omega) (by omega), en 8 (by omega) (by omega), en 9 (by omega) (by omega), en 1 (by omega) (by omega), en 0 (by omega) (by omega), en 2 (by omega) (by omega), en 3 (by omega) (by omega), en 4 (by omega) (by omega), show nR (m1 1) k a b z 5 = (k : Int) + 1 from nu_s _ _ _]
                  exact ⟨x1, x2, x3, x4, x5, x6, x7, rfl⟩
                · unfold nS at b1 ⊢
                  rw [en 6 (by omega) (by omega), en 7 (by omega) (by omega), en 8 (by omega) (by omega), en 9 (by omega) (by omega), en 1 (by omega) (by omega), en 0 (by omega) (by omega), en 2 (by omega) (by omega), en 3 (by omega) (by omega), en 4 (by omega) (by omega)]
                  exact b1
                · rw [en 7 (by omega) (by omega)] at v
                  omega
                · rw [en 8 (by omega) (by omega)] at v
                  omega
                · rw [en 6 (by omega) (by omega)] at v
                  omega
                · unfold nZ at b9 ⊢
                  rw [en 6 (by omega) (by omega), en 7 (by omega) (by omega), en 8 (by omega) (by omega)]
                  exact ⟨fun j u v => by rw [vm]; exact b9.1 j u v, fun j u v => by rw [vp]; exact b9.2.1 j u v, fun j u v => by rw [vg]; exact b9.2.2 j u v⟩
              refine ⟨(k : Int), _, ro1, m3, rfl, rfl, DM_now hD (fun i hi => ?_) (e3o 2 (by omega) (by omega) (by omega)) (e3o 3 (by omega) (by omega) (by omega)) (e3o 5 (by omega) (by omega) (by omega)) (by rw [e3o 0 (by omega) (by omega) (by omega)]) (by rw [e3o 0 (by omega) (by omega) (by omega)]) (by rw [e3o 0 (by omega) (by omega) (by omega)]) hRS ⟨by rw [e31]; exact hmR, hW, by rw [e31]; exact hOK⟩⟩
              · funext j
                exact gl_o (by omega)
            · rw [if_neg w, if_pos (show m 1 5 = 30 by omega)]
              exact ⟨_, _, _, _, rfl, rfl, h⟩
          · rw [if_neg (show ¬ rd (m 1) a b ≤ 0 by omega), if_neg u, tw (x := rd (m 1) a b) (by omega) (by omega), if_neg (show ¬ (100000 : Int) ≤ rd (m 1) a b by omega)]
            exact ⟨_, _, _, _, rfl, rfl, h⟩
      · rw [if_neg r, w0, if_pos rfl]
        by_cases w : z < 1
        · rw [if_pos w]
          exact ⟨_, _, _, _, rfl, rfl, h⟩
        · rw [if_neg w, if_pos (show 60 < z by omega)]
          exact ⟨_, _, _, _, rfl, rfl, h⟩
    · rw [if_pos (ix_n q'), if_pos (ix_n q')]
      exact ⟨_, _, _, _, rfl, rfl, h⟩
  · rw [if_pos (ix_n q), if_pos (ix_n q)]
    exact ⟨_, _, _, _, rfl, rfl, h⟩
