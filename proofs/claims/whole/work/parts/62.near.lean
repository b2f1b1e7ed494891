/-! ===== the patrol that is sent ===== -/
abbrev tk (N : Nat → Int) (p c : Nat) : Prop := (vC N c 5 = 0 ∧ (-1 ≤ vP N p 0 / 4 - vC N c 1 / 4 ∧ vP N p 0 / 4 - vC N c 1 / 4 ≤ 1)) ∨ (vC N c 5 = 3 ∧ vP N p 2 = 1 ∧ vP N p 0 / 4 = vC N c 1 / 4)
theorem region_i {x : Int} (h : 0 ≤ x ∧ x < 12) : fModel_region x = some (x / 4) ∧ fDesk_regionOf x = some (x / 4) := by
  unfold fModel_region fDesk_regionOf
  rw [div4 (by omega) (by omega) 4 (by omega) (by omega)]
  exact ⟨rfl, rfl⟩
theorem wm1' : sm_w (-1) = -1 := by decide
theorem mayTake_c {s : MI} {N : Nat → Int} {p c : Nat} (r0 : s (10 + p) 0 = vP N p 0) (r2 : s (10 + p) 2 = vP N p 2) (u1 : s (21 + c) 1 = vC N c 1) (u5 : s (21 + c) 5 = vC N c 5) (h0 : 0 ≤ vP N p 0 ∧ vP N p 0 < 12) (h2 : vP N p 2 = 0 ∨ vP N p 2 = 1) (h1 : 0 ≤ vC N c 1 ∧ vC N c 1 < 12) (h5 : vC N c 5 = 0 ∨ vC N c 5 = 3) :
    ∃ v, (v = 0 ∧ ¬ tk N p c ∨ v = 1 ∧ tk N p c) ∧ fSending_mayTake (10 + p) (21 + c) s = some v := by
  unfold fSending_mayTake
  rw [r0, r2, u1, u5, (region_i h0).2, Option.bind_some, (region_i h1).2, Option.bind_some, tw (x := vC N c 5) (by omega) (by omega), tw (x := vP N p 2) (by omega) (by omega)]
  have ab : sm_w (sm_abs (vP N p 0 / 4 - vC N c 1 / 4)) = if 0 ≤ vP N p 0 / 4 - vC N c 1 / 4 then vP N p 0 / 4 - vC N c 1 / 4 else 0 - (vP N p 0 / 4 - vC N c 1 / 4) := by
    unfold sm_abs
    rw [tw (x := vP N p 0 / 4 - vC N c 1 / 4) (by omega) (by omega)]
    by_cases z : 0 ≤ vP N p 0 / 4 - vC N c 1 / 4
    · rw [if_pos z]
      exact tw (by omega) (by omega)
    · rw [if_neg z]
      exact tw (by omega) (by omega)
  rw [ab]
  by_cases a : vC N c 5 = 3
  · rw [if_pos a]
    by_cases b : vP N p 2 = 0
    · rw [if_pos b]
      exact ⟨0, Or.inl ⟨rfl, by unfold tk; omega⟩, rfl⟩
    · rw [if_neg b]
      by_cases d : vP N p 0 / 4 = vC N c 1 / 4
      · rw [if_pos (by split <;> omega)]
        exact ⟨1, Or.inr ⟨rfl, by unfold tk; omega⟩, rfl⟩
      · rw [if_neg (by split <;> omega)]
        exact ⟨0, Or.inl ⟨rfl, by unfold tk; omega⟩, rfl⟩
  · rw [if_neg a]
    by_cases d : -1 ≤ vP N p 0 / 4 - vC N c 1 / 4 ∧ vP N p 0 / 4 - vC N c 1 / 4 ≤ 1
    · rw [if_neg (by split <;> omega)]
      exact ⟨1, Or.inr ⟨rfl, by unfold tk; omega⟩, rfl⟩
    · rw [if_pos (by split <;> omega)]
      exact ⟨0, Or.inl ⟨rfl, by unfold tk; omega⟩, rfl⟩
theorem mayTake_m {m : MI} {p c : Nat} (hp : p < 6) (hc : c < 40) (h0 : 0 ≤ vP (m 1) p 0 ∧ vP (m 1) p 0 < 12) (h2 : vP (m 1) p 2 = 0 ∨ vP (m 1) p 2 = 1) (h1 : 0 ≤ vC (m 1) c 1 ∧ vC (m 1) c 1 < 12) (h5 : vC (m 1) c 5 = 0 ∨ vC (m 1) c 5 = 3) (h4 : 0 ≤ vP (m 1) p 4 ∧ vP (m 1) p 4 < 12) (h3 : 0 ≤ vP (m 1) p 3 ∧ vP (m 1) p 3 ≤ 4) (hd : 0 ≤ d2 m (vP (m 1) p 4).toNat (vC (m 1) c 1).toNat ∧ d2 m (vP (m 1) p 4).toNat (vC (m 1) c 1).toNat ≤ 100000) :
    ∃ v, (v = 0 ∧ ¬ (vP (m 1) p 3 = 0 ∧ d2 m (vP (m 1) p 4).toNat (vC (m 1) c 1).toNat < 100000 ∧ tk (m 1) p c) ∨ v = 1 ∧ (vP (m 1) p 3 = 0 ∧ d2 m (vP (m 1) p 4).toNat (vC (m 1) c 1).toNat < 100000 ∧ tk (m 1) p c)) ∧ fModel_mayTake (p : Int) (c : Int) m = some v := by
  have e4 : vP (m 1) p 4 = (((vP (m 1) p 4).toNat : Nat) : Int) := by omega
  have e1 : vC (m 1) c 1 = (((vC (m 1) c 1).toNat : Nat) : Int) := by omega
  have ew : fModel_way (vP (m 1) p 4) (vC (m 1) c 1) m = some (d2 m (vP (m 1) p 4).toNat (vC (m 1) c 1).toNat) := by
    have := way_eq (m := m) (x := (vP (m 1) p 4).toNat) (z := (vC (m 1) c 1).toNat) (by omega) (by omega)
    rw [← e4, ← e1] at this
    exact this
  unfold fModel_mayTake
  rw [ofPatrol_0 hp, Option.bind_some, (region_i h0).1, Option.bind_some, ofCall_1 hc, Option.bind_some, (region_i h1).1, Option.bind_some, ofPatrol_3 hp, Option.bind_some, tw (x := vP (m 1) p 3) (by omega) (by omega)]
  by_cases a : vP (m 1) p 3 = 0
  · rw [if_pos a, ofPatrol_4 hp, Option.bind_some, Option.bind_some, ew, Option.bind_some, tw (x := d2 m (vP (m 1) p 4).toNat (vC (m 1) c 1).toNat) (by omega) (by omega)]
    by_cases b : d2 m (vP (m 1) p 4).toNat (vC (m 1) c 1).toNat < 100000
    · rw [if_pos b, ofCall_5 hc, Option.bind_some, tw (x := vC (m 1) c 5) (by omega) (by omega)]
      by_cases d : vC (m 1) c 5 = 0
      · rw [if_pos d]
        unfold fModel_in
        rw [wm1', w1, tw (x := vP (m 1) p 0 / 4 - vC (m 1) c 1 / 4) (by omega) (by omega)]
        by_cases x : vP (m 1) p 0 / 4 - vC (m 1) c 1 / 4 < -1
        · rw [if_pos x, Option.bind_some, if_pos (Or.inl rfl)]
          exact ⟨0, Or.inl ⟨rfl, by unfold tk; omega⟩, rfl⟩
        · rw [if_neg x]
          by_cases y : 1 < vP (m 1) p 0 / 4 - vC (m 1) c 1 / 4
          · rw [if_pos y, Option.bind_some, if_pos (Or.inl rfl)]
            exact ⟨0, Or.inl ⟨rfl, by unfold tk; omega⟩, rfl⟩
          · rw [if_neg y, Option.bind_some, if_pos (Or.inr rfl)]
            exact ⟨1, Or.inr ⟨rfl, by unfold tk; omega⟩, rfl⟩
      · rw [if_neg d, tw (x := vP (m 1) p 0 / 4) (by omega) (by omega), tw (x := vC (m 1) c 1 / 4) (by omega) (by omega)]
        by_cases x : vP (m 1) p 0 / 4 = vC (m 1) c 1 / 4
        · rw [if_pos x, ofPatrol_2 hp, Option.bind_some, tw (x := vP (m 1) p 2) (by omega) (by omega)]
          by_cases y : vP (m 1) p 2 = 1
          · rw [if_pos y]
            exact ⟨1, Or.inr ⟨rfl, by unfold tk; omega⟩, rfl⟩
          · rw [if_neg y]
            exact ⟨0, Or.inl ⟨rfl, by unfold tk; omega⟩, rfl⟩
        · rw [if_neg x]
          exact ⟨0, Or.inl ⟨rfl, by unfold tk; omega⟩, rfl⟩
    · rw [if_neg b]
      exact ⟨0, Or.inl ⟨rfl, fun e => b e.2.1⟩, rfl⟩
  · rw [if_neg a]
    exact ⟨0, Or.inl ⟨rfl, fun e => a e.1⟩, rfl⟩
abbrev nrP (m : MI) (c : Nat) (b : Int) : Prop := b = -5 ∨ ∃ p : Nat, b = (p : Int) ∧ (p : Int) < m 1 7 ∧ vP (m 1) p 3 = 0 ∧ d2 m (vP (m 1) p 4).toNat (vC (m 1) c 1).toNat < 100000 ∧ tk (m 1) p c
theorem near_eq {s m : MI} (h : RS s (m 1)) (hw : wk s m) {c : Nat} (hc : (c : Int) < m 1 9) (h5 : vC (m 1) c 5 = 0 ∨ vC (m 1) c 5 = 3) : ∃ b : Int, fSending_nearestPatrol (21 + c) s = some b ∧ fModel_nearestOf (c : Int) m = some b ∧ nrP m c b := by
  obtain ⟨a1, a2, a3, a4, a5, a6, b1, b2, b3, b4, b5, b6, b7, b8⟩ := h
  obtain ⟨S0, S1, S2, S6, S7, S8, S9⟩ := b1
  have c40 : c < 40 := by omega
  have n4 : s 0 4 = m 1 7 := a1.2.1
  have C1 := (b6 c hc).2.1
  have u1 : s (21 + c) 1 = vC (m 1) c 1 := (a6 c hc).1.2.1
  have u5 : s (21 + c) 5 = vC (m 1) c 5 := (a6 c hc).1.2.2.2.2.2.1
  have e1 : vC (m 1) c 1 = (((vC (m 1) c 1).toNat : Nat) : Int) := by omega
  have PB : ∀ p : Nat, (p : Int) < m 1 7 → (0 ≤ vP (m 1) p 0 ∧ vP (m 1) p 0 < 12) ∧ (1 ≤ vP (m 1) p 1 ∧ vP (m 1) p 1 ≤ 9) ∧ (vP (m 1) p 2 = 0 ∨ vP (m 1) p 2 = 1) ∧ (0 ≤ vP (m 1) p 3 ∧ vP (m 1) p 3 ≤ 4) ∧ (0 ≤ vP (m 1) p 4 ∧ vP (m 1) p 4 < 12) := fun p hp => by
    obtain ⟨x, y, z, w, i5, _⟩ := b4 p hp
    refine ⟨x, y, z, ?_, w⟩
    rcases i5 with ⟨i, _⟩ | ⟨i, _⟩ <;> omega
  obtain ⟨y, z, hy, hz, e, eq⟩ := it_two (f := fun (t : Int × Int × Int × Int) => fSending_nearestPatrol_l12 (21 + c) t.1 t.2.1 t.2.2.1 t.2.2.2 s) (g := fun (t : Int × Int) => fModel_nearestOf_l5 (c : Int) t.1 t.2 m)
    (fun t u => ∃ i : Nat, t.2.2.2 = (i : Int) ∧ u.2 = (i : Int) ∧ (i : Int) ≤ m 1 7 ∧ t.1 = u.1 ∧ nrP m c t.1 ∧ (t.1 = -5 → t.2.1 = 0 ∧ t.2.2.1 = 1000000) ∧ ∀ p : Nat, t.1 = (p : Int) → t.2.1 = vP (m 1) p 1 ∧ t.2.2.1 = d2 m (vP (m 1) p 4).toNat (vC (m 1) c 1).toNat)
    (fun y z => y = z ∧ nrP m c y) (fun t => (6 - t.2.2.2).toNat) (fun t u hR => by
    obtain ⟨best, sk, dist, i0⟩ := t
    obtain ⟨best', i1⟩ := u
    obtain ⟨i, h1, h2, h3, h4, h6, h7, h8⟩ := hR
    dsimp only at h1 h2 h3 h4 h6 h7 h8 ⊢
    subst h1
    subst h2
    subst h4
    have wi : sm_w (i : Int) = i := tw (by omega) (by omega)
    have w7 : sm_w (m 1 7) = m 1 7 := tw (by omega) (by omega)
    by_cases z : m 1 7 ≤ (i : Int)
    · right
      refine ⟨best, best, ?_, ?_, rfl, h6⟩
      · unfold fSending_nearestPatrol_l12
        rw [wi, n4, w7, if_pos z]
      · unfold fModel_nearestOf_l5
        rw [wi, w7, if_pos z]
    · left
      have hi : (i : Int) < m 1 7 := by omega
      obtain ⟨p0, p1, p2, p3, p4⟩ := PB i hi
      have hR := a4 i hi
      have r0 : s (10 + i) 0 = vP (m 1) i 0 := hR.1.1
      have r1 : s (10 + i) 1 = vP (m 1) i 1 := hR.1.2.1
      have r2 : s (10 + i) 2 = vP (m 1) i 2 := hR.1.2.2.1
      have r3 : s (10 + i) 3 = vP (m 1) i 3 := hR.1.2.2.2.1
      have r4 : s (10 + i) 4 = vP (m 1) i 4 := hR.1.2.2.2.2.1
      have D := wk_D hw (x := (vP (m 1) i 4).toNat) (z := (vC (m 1) c 1).toNat) (by omega) (by omega)
      have e4 : vP (m 1) i 4 = (((vP (m 1) i 4).toNat : Nat) : Int) := by omega
      have eb : fMap_between (vP (m 1) i 4) (vC (m 1) c 1) (sm_lo 1 s) = some (s 3 (12 * (vP (m 1) i 4).toNat + (vC (m 1) c 1).toNat)) := by
        have := between_eq (x := (vP (m 1) i 4).toNat) (y := (vC (m 1) c 1).toNat) (s := sm_lo 1 s) (by omega) (by omega)
        rw [← e4, ← e1] at this
        exact this
      have ew : fModel_way (vP (m 1) i 4) (vC (m 1) c 1) m = some (d2 m (vP (m 1) i 4).toNat (vC (m 1) c 1).toNat) := by
        have := way_eq (m := m) (x := (vP (m 1) i 4).toNat) (z := (vC (m 1) c 1).toNat) (by omega) (by omega)
        rw [← e4, ← e1] at this
        exact this
      have wds : (sm_w dist = dist ∧ sm_w sk = sk) ∧ id (best = -5 ∧ sk = 0 ∧ dist = 1000000 ∨ ∃ p : Nat, best = (p : Int) ∧ (p : Int) < m 1 7 ∧ sk = vP (m 1) p 1 ∧ dist = d2 m (vP (m 1) p 4).toNat (vC (m 1) c 1).toNat ∧ 0 ≤ dist ∧ dist < 100000) := by
        rcases h6 with e | ⟨p, e, x1, x2, x3, x4⟩
        · obtain ⟨y1, y2⟩ := h7 e
          rw [y1, y2]
          exact ⟨⟨tw (by omega) (by omega), tw (by omega) (by omega)⟩, Or.inl ⟨e, rfl, rfl⟩⟩
        · obtain ⟨y1, y2⟩ := h8 p e
          obtain ⟨_, q1, _, _, q4⟩ := PB p x1
          have Dp := wk_D hw (x := (vP (m 1) p 4).toNat) (z := (vC (m 1) c 1).toNat) (by omega) (by omega)
          exact ⟨⟨tw (by omega) (by omega), tw (by omega) (by omega)⟩, Or.inr ⟨p, e, x1, y1, y2, by omega, by omega⟩⟩
      obtain ⟨⟨wd, ws⟩, hb⟩ := wds
      have wD : sm_w (s 3 (12 * (vP (m 1) i 4).toNat + (vC (m 1) c 1).toNat)) = s 3 (12 * (vP (m 1) i 4).toNat + (vC (m 1) c 1).toNat) := tw (by omega) (by omega)
      have w1p : sm_w (vP (m 1) i 1) = vP (m 1) i 1 := tw (by omega) (by omega)
      have w3p : sm_w (vP (m 1) i 3) = vP (m 1) i 3 := tw (by omega) (by omega)
      obtain ⟨v, hv, eT⟩ := mayTake_c r0 r2 u1 u5 p0 p2 C1 h5
      obtain ⟨v', hv', eT'⟩ := mayTake_m (m := m) (p := i) (c := c) (by omega) c40 p0 p2 C1 h5 p4 p3 (by omega)
      have hC : fSending_nearestPatrol_l12 (21 + c) best sk dist (i : Int) s = some (.inl (if vP (m 1) i 3 = 0 ∧ s 3 (12 * (vP (m 1) i 4).toNat + (vC (m 1) c 1).toNat) < 1000000 ∧ (s 3 (12 * (vP (m 1) i 4).toNat + (vC (m 1) c 1).toNat) < dist ∨ s 3 (12 * (vP (m 1) i 4).toNat + (vC (m 1) c 1).toNat) = dist ∧ sk < vP (m 1) i 1) ∧ tk (m 1) i c then ((i : Int), vP (m 1) i 1, s 3 (12 * (vP (m 1) i 4).toNat + (vC (m 1) c 1).toNat), (i : Int) + 1) else (best, sk, dist, (i : Int) + 1))) := by
        have J : ∀ y0 : Int, (y0 = 1 ∧ (s 3 (12 * (vP (m 1) i 4).toNat + (vC (m 1) c 1).toNat) < dist ∨ s 3 (12 * (vP (m 1) i 4).toNat + (vC (m 1) c 1).toNat) = dist ∧ sk < vP (m 1) i 1) ∨ y0 = 0 ∧ ¬ (s 3 (12 * (vP (m 1) i 4).toNat + (vC (m 1) c 1).toNat) < dist ∨ s 3 (12 * (vP (m 1) i 4).toNat + (vC (m 1) c 1).toNat) = dist ∧ sk < vP (m 1) i 1)) →
            fSending_nearestPatrol_j83_l12 (21 + c) best sk dist (i : Int) (10 + i) (s 3 (12 * (vP (m 1) i 4).toNat + (vC (m 1) c 1).toNat)) y0 s = some (.inl (if vP (m 1) i 3 = 0 ∧ s 3 (12 * (vP (m 1) i 4).toNat + (vC (m 1) c 1).toNat) < 1000000 ∧ (s 3 (12 * (vP (m 1) i 4).toNat + (vC (m 1) c 1).toNat) < dist ∨ s 3 (12 * (vP (m 1) i 4).toNat + (vC (m 1) c 1).toNat) = dist ∧ sk < vP (m 1) i 1) ∧ tk (m 1) i c then ((i : Int), vP (m 1) i 1, s 3 (12 * (vP (m 1) i 4).toNat + (vC (m 1) c 1).toNat), (i : Int) + 1) else (best, sk, dist, (i : Int) + 1))) := fun y0 hy0 => by
          unfold fSending_nearestPatrol_j83_l12 fSending_nearestPatrol_j127_l12
          rw [r3, w3p, wD, r1]
          by_cases x1 : vP (m 1) i 3 = 0
          · rw [if_pos x1]
            by_cases x2 : s 3 (12 * (vP (m 1) i 4).toNat + (vC (m 1) c 1).toNat) < 1000000
            · rw [if_neg (by omega)]
              rcases hy0 with ⟨rfl, x3⟩ | ⟨rfl, x3⟩
              · rw [w1, if_neg (by omega), eT, Option.bind_some]
                rcases hv with ⟨rfl, x4⟩ | ⟨rfl, x4⟩
                · rw [w0, if_pos rfl, if_neg (fun e => x4 e.2.2.2)]
                · rw [w1, if_neg (by omega), if_pos ⟨x1, x2, x3, x4⟩]
              · rw [w0, if_pos rfl, if_neg (fun e => x3 e.2.2.1)]
            · rw [if_pos (by omega), if_neg (fun e => x2 e.2.1)]
          · rw [if_neg x1, if_neg (fun e => x1 e.1)]
        unfold fSending_nearestPatrol_l12 fSending_nearestPatrol_j78_l12 fSending_nearestPatrol_j82_l12
        rw [wi, n4, w7, if_neg z, if_neg (by omega), if_pos (by omega), show ((i : Int)).toNat = i by omega, r4, u1, eb, Option.bind_some, wD, wd, ws, r1, w1p]
        by_cases x : s 3 (12 * (vP (m 1) i 4).toNat + (vC (m 1) c 1).toNat) < dist
        · rw [if_pos x]
          exact J 1 (Or.inl ⟨rfl, Or.inl x⟩)
        · rw [if_neg x]
          by_cases y : s 3 (12 * (vP (m 1) i 4).toNat + (vC (m 1) c 1).toNat) = dist
          · rw [if_pos y]
            by_cases w : sk < vP (m 1) i 1
            · rw [if_neg (by omega)]
              exact J 1 (Or.inl ⟨rfl, Or.inr ⟨y, w⟩⟩)
            · rw [if_pos (by omega)]
              exact J 0 (Or.inr ⟨rfl, by omega⟩)
          · rw [if_neg y]
            exact J 0 (Or.inr ⟨rfl, by omega⟩)
      have hM : fModel_nearestOf_l5 (c : Int) best (i : Int) m = some (.inl (if vP (m 1) i 3 = 0 ∧ s 3 (12 * (vP (m 1) i 4).toNat + (vC (m 1) c 1).toNat) < 1000000 ∧ (s 3 (12 * (vP (m 1) i 4).toNat + (vC (m 1) c 1).toNat) < dist ∨ s 3 (12 * (vP (m 1) i 4).toNat + (vC (m 1) c 1).toNat) = dist ∧ sk < vP (m 1) i 1) ∧ tk (m 1) i c then ((i : Int), (i : Int) + 1) else (best, (i : Int) + 1))) := by
        unfold fModel_nearestOf_l5 fModel_nearestOf_j119_l5
        rw [wi, w7, if_neg z, eT', Option.bind_some]
        rcases hv' with ⟨rfl, x⟩ | ⟨rfl, x1, x2, x3⟩
        · rw [w0, if_pos rfl, if_neg (fun e => x ⟨e.1, by omega, e.2.2.2⟩)]
        · rw [w1, if_neg (by omega), ofPatrol_4 (by omega), Option.bind_some, ofCall_1 c40, Option.bind_some, ew, Option.bind_some]
          have wD2 : sm_w (d2 m (vP (m 1) i 4).toNat (vC (m 1) c 1).toNat) = d2 m (vP (m 1) i 4).toNat (vC (m 1) c 1).toNat := tw (by omega) (by omega)
          rcases hb with ⟨e, e2, e3⟩ | ⟨p, e, g7, e2, e3, e5, e6⟩
          · rw [e, wm5, if_pos rfl]
            unfold fModel_nearestOf_j70_l5 fModel_nearestOf_j101_l5 fModel_nearestOf_j106_l5 fModel_nearestOf_j118_l5 fModel_nearestOf_j119_l5
            rw [wD2, tw (x := 100000) (by omega) (by omega), if_pos x2, w1, if_neg (by omega), if_pos ⟨x1, by omega, Or.inl (by omega), x3⟩]
          · obtain ⟨_, q1, _, _, q4⟩ := PB p g7
            have ep : vP (m 1) p 4 = (((vP (m 1) p 4).toNat : Nat) : Int) := by omega
            have ewp : fModel_way (vP (m 1) p 4) (vC (m 1) c 1) m = some dist := by
              have := way_eq (m := m) (x := (vP (m 1) p 4).toNat) (z := (vC (m 1) c 1).toNat) (by omega) (by omega)
              rw [← ep, ← e1, ← e3] at this
              exact this
            rw [e, tw (x := (p : Int)) (by omega) (by omega), if_neg (by omega), ofPatrol_4 (by omega), Option.bind_some, Option.bind_some, ewp, Option.bind_some]
            unfold fModel_nearestOf_j70_l5 fModel_nearestOf_j101_l5 fModel_nearestOf_j105_l5 fModel_nearestOf_j106_l5 fModel_nearestOf_j118_l5 fModel_nearestOf_j119_l5
            rw [wD2, wd, w1, w0]
            by_cases x : d2 m (vP (m 1) i 4).toNat (vC (m 1) c 1).toNat < dist
            · rw [if_pos x, if_neg (by omega), if_pos ⟨x1, by omega, Or.inl (by omega), x3⟩]
            · rw [if_neg x]
              by_cases y : d2 m (vP (m 1) i 4).toNat (vC (m 1) c 1).toNat = dist
              · rw [if_pos y, ofPatrol_1 (by omega), Option.bind_some, ofPatrol_1 (by omega), Option.bind_some, w1p, ← e2, ws]
                by_cases w : sk < vP (m 1) i 1
                · rw [if_neg (by omega), if_neg (by omega), if_pos ⟨x1, by omega, Or.inr ⟨by omega, w⟩, x3⟩]
                · rw [if_pos (by omega), if_pos rfl, if_neg (fun e => by rcases e.2.2.1 with e | e <;> omega)]
              · rw [if_neg y, if_pos rfl, if_neg (fun e => by rcases e.2.2.1 with e | e <;> omega)]
      rw [hC, hM]
      by_cases P : vP (m 1) i 3 = 0 ∧ s 3 (12 * (vP (m 1) i 4).toNat + (vC (m 1) c 1).toNat) < 1000000 ∧ (s 3 (12 * (vP (m 1) i 4).toNat + (vC (m 1) c 1).toNat) < dist ∨ s 3 (12 * (vP (m 1) i 4).toNat + (vC (m 1) c 1).toNat) = dist ∧ sk < vP (m 1) i 1) ∧ tk (m 1) i c
      · rw [if_pos P, if_pos P]
        refine ⟨_, _, rfl, rfl, ⟨i + 1, by push_cast; rfl, by push_cast; rfl, by push_cast; omega, rfl, Or.inr ⟨i, rfl, hi, P.1, by omega, P.2.2.2⟩, fun e => by dsimp only at e; omega, fun p e => ?_⟩, by dsimp only; omega⟩
        dsimp only at e ⊢
        have : p = i := by omega
        subst this
        exact ⟨rfl, by omega⟩
      · rw [if_neg P, if_neg P]
        exact ⟨_, _, rfl, rfl, ⟨i + 1, by push_cast; rfl, by push_cast; rfl, by push_cast; omega, rfl, h6, h7, h8⟩, by dsimp only; omega⟩) sl_fu (-5, 0, 1000000, 0) (-5, 0) ⟨0, rfl, rfl, by push_cast; omega, rfl, Or.inl rfl, fun _ => ⟨rfl, rfl⟩, fun p e => by dsimp only at e; omega⟩ (by show (6 - (0 : Int)).toNat < 5000; omega)
  subst e
  refine ⟨y, ?_, ?_, eq⟩
  · unfold fSending_nearestPatrol
    rw [hy]
    rfl
  · unfold fModel_nearestOf
    rw [hz]
    rfl
