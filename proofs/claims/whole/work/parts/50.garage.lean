/-! ===== the nearest garage with room ===== -/
def GA (s : MI) (N : Nat → Int) : Prop := (∀ g : Nat, (g : Int) < N 8 → s (16 + g) 0 = vG N g 0 ∧ s (16 + g) 1 = vG N g 1 ∧ s (16 + g) 2 = vG N g 2 ∧ s (16 + g) 3 = uw N g) ∧ nG N ∧ (0 ≤ N 8 ∧ N 8 ≤ 5) ∧ s 0 6 = N 8 ∧ (0 ≤ N 7 ∧ N 7 ≤ 6) ∧
  ∀ p : Nat, (p : Int) < N 7 → (0 ≤ vP N p 3 ∧ vP N p 3 ≤ 4) ∧ (vP N p 3 = 3 → 0 ≤ vP N p 13 ∧ vP N p 13 < N 8)
theorem uw_same {N N' : Nat → Int} (e7 : N' 7 = N 7) (h7 : N 7 ≤ 6) (e : ∀ p, p < 6 → vP N' p 3 = vP N p 3 ∧ vP N' p 13 = vP N p 13) (g : Nat) : uw N' g = uw N g := by
  unfold uw
  rw [e7]
  exact sumN_eq _ (fun k hk => by rw [(e k (by omega)).1, (e k (by omega)).2])
theorem GA_same {s s' : MI} {N N' : Nat → Int} (h : GA s N) (e7 : N' 7 = N 7) (e8 : N' 8 = N 8) (e : ∀ p, p < 6 → vP N' p 3 = vP N p 3 ∧ vP N' p 13 = vP N p 13) (eg : ∀ g, g < 5 → vG N' g = vG N g) (es : s' 0 6 = s 0 6) (esg : ∀ g, g < 5 → s' (16 + g) = s (16 + g)) : GA s' N' := by
  obtain ⟨a, b, c, d, f, g⟩ := h
  have hu := uw_same e7 f.2 e
  refine ⟨fun k hk => ?_, fun k hk => ?_, by rw [e8]; exact c, by rw [es, e8]; exact d, by rw [e7]; exact f, fun p hp => ?_⟩
  · rw [e8] at hk
    rw [esg k (by omega), eg k (by omega), hu k]
    exact a k hk
  · rw [e8] at hk
    rw [eg k (by omega), hu k]
    exact b k hk
  · rw [e7] at hp
    rw [(e p (by omega)).1, (e p (by omega)).2, e8]
    exact g p hp
theorem GA_of {s : MI} {N : Nat → Int} {p0 : Nat} (h : RSx p0 s N) (hq : pI (N 9) (N 8) (nu (vP N p0) 6 1)) : GA s N := by
  obtain ⟨a1, a2, a3, a4, a5, a6, b1, b2, b3, b4, b5, b6, b7, b8⟩ := h
  obtain ⟨S0, S1, S2, S6, S7, S8, S9⟩ := b1
  refine ⟨fun g hg => ?_, b5, S8, a1.2.2.1, S7, fun p hp => ?_⟩
  · obtain ⟨x0, x1, x2, x3, x4⟩ := a5 g hg
    exact ⟨x0, x1, x2, x3⟩
  · have key : ∀ q : Nat → Int, pI (N 9) (N 8) q → (0 ≤ q 3 ∧ q 3 ≤ 4) ∧ (q 3 = 3 → 0 ≤ q 13 ∧ q 13 < N 8) := fun q hh => by
      obtain ⟨_, _, _, _, i5, i6⟩ := hh
      refine ⟨?_, fun e => (i6 e).2⟩
      rcases i5 with ⟨i, _⟩ | ⟨i, _⟩ <;> omega
    by_cases e : p = p0
    · subst e
      have k2 := key _ hq
      rw [nu_n (by omega : ¬ (3 : Nat) = 6), nu_n (by omega : ¬ (13 : Nat) = 6)] at k2
      exact k2
    · exact key _ (b4 p hp e)
theorem uw_nn (N : Nat → Int) (g : Nat) : 0 ≤ uw N g := sumN_nn _ (fun k _ => by split <;> omega)
theorem underWay_eq {s m : MI} (h : GA s (m 1)) {g : Nat} (hg : g < 5) : fModel_underWay (g : Int) m = some (uw (m 1) g) := by
  obtain ⟨a, b, c, d, f, q⟩ := h
  unfold fModel_underWay
  rw [it_sum (n := (m 1 7).toNat) (g := fun p => if vP (m 1) p 3 = 3 ∧ vP (m 1) p 13 = (g : Int) then 1 else 0) (by omega) (fun i acc hi => by
    obtain ⟨q1, q2⟩ := q i (by omega)
    dsimp only
    unfold fModel_underWay_l4 fModel_underWay_j41_l4 fModel_underWay_j42_l4
    rw [tw (x := (i : Int)) (by omega) (by omega), tw (x := m 1 7) (by omega) (by omega), if_neg (by omega), ofPatrol_3 (by omega), Option.bind_some, tw (x := vP (m 1) i 3) (by omega) (by omega), ofPatrol_13 (by omega), Option.bind_some]
    by_cases z : vP (m 1) i 3 = 3
    · have := q2 z
      rw [if_pos z, tw (x := vP (m 1) i 13) (by omega) (by omega), tw (x := (g : Int)) (by omega) (by omega)]
      by_cases y : vP (m 1) i 13 = (g : Int)
      · rw [if_pos y, if_pos ⟨z, y⟩]
      · rw [if_neg y, if_neg (fun e => y e.2)]
    · rw [if_neg z, if_neg (fun e => z e.1)]) (fun acc => by
    dsimp only
    unfold fModel_underWay_l4
    rw [tw (x := (((m 1 7).toNat : Nat) : Int)) (by omega) (by omega), tw (x := m 1 7) (by omega) (by omega), if_pos (by omega)])]
  rfl
abbrev gaP (m : MI) (A : Nat) (b : Int) : Prop := b = -5 ∨ ∃ g : Nat, b = (g : Int) ∧ (g : Int) < m 1 8 ∧ d2 m A (vG (m 1) g 0).toNat < 100000 ∧ vG (m 1) g 2 + uw (m 1) g < vG (m 1) g 1
theorem garage_eq {s m : MI} (h : GA s (m 1)) (hw : wk s m) {A : Nat} (hA : A < 12) : ∃ b : Int, fModel_garageFor (A : Int) m = some b ∧ fWork_nearestGarage (A : Int) s = some b ∧ gaP m A b := by
  have H := h
  obtain ⟨a, b, c, d, f, q⟩ := h
  obtain ⟨y, z, hy, hz, e1, e2⟩ := it_two (f := fun (t : Int × Int) => fModel_garageFor_l5 (A : Int) t.1 t.2 m) (g := fun (t : Int × Int × Int) => fWork_nearestGarage_l9 (A : Int) t.1 t.2.1 t.2.2 s)
    (fun t u => ∃ i : Nat, t.2 = (i : Int) ∧ u.2.2 = (i : Int) ∧ (i : Int) ≤ m 1 8 ∧ t.1 = u.1 ∧ gaP m A t.1 ∧ (t.1 = -5 → u.2.1 = 1000000) ∧ ∀ g : Nat, t.1 = (g : Int) → u.2.1 = d2 m A (vG (m 1) g 0).toNat)
    (fun y z => y = z ∧ gaP m A y) (fun t => (5 - t.2).toNat) (fun t u hR => by
    obtain ⟨best, i0⟩ := t
    obtain ⟨best', dist, i1⟩ := u
    obtain ⟨i, h1, h2, h3, h4, h5, h6, h7⟩ := hR
    dsimp only at h1 h2 h3 h4 h5 h6 h7 ⊢
    subst h1
    subst h2
    subst h4
    have wi : sm_w (i : Int) = i := tw (by omega) (by omega)
    have w8 : sm_w (m 1 8) = m 1 8 := tw (by omega) (by omega)
    by_cases z : m 1 8 ≤ (i : Int)
    · right
      refine ⟨best, best, ?_, ?_, rfl, h5⟩
      · unfold fModel_garageFor_l5
        rw [wi, w8, if_pos z]
      · unfold fWork_nearestGarage_l9
        rw [wi, d, w8, if_pos z]
    · left
      obtain ⟨g0, g1, g2, g3⟩ := a i (by omega)
      obtain ⟨n0, n1, n2, n3⟩ := b i (by omega)
      have un := uw_nn (m 1) i
      have D := wk_D hw hA (show (vG (m 1) i 0).toNat < 12 by omega)
      have v0 : vG (m 1) i 0 = (((vG (m 1) i 0).toNat : Nat) : Int) := by omega
      have wd : sm_w dist = dist ∧ (best = -5 ∨ 0 ≤ dist ∧ dist < 100000) := by
        rcases h5 with e | ⟨g, e, e2, e3, e4⟩
        · rw [h6 e]
          exact ⟨tw (by omega) (by omega), Or.inl e⟩
        · have nn := b g e2
          have Dg := wk_D hw hA (show (vG (m 1) g 0).toNat < 12 by omega)
          rw [h7 g e]
          exact ⟨tw (by omega) (by omega), Or.inr (by omega)⟩
      have hC : fWork_nearestGarage_l9 (A : Int) best dist (i : Int) s = some (.inl (if vG (m 1) i 2 + uw (m 1) i < vG (m 1) i 1 ∧ s 3 (12 * A + (vG (m 1) i 0).toNat) < dist then ((i : Int), s 3 (12 * A + (vG (m 1) i 0).toNat), (i : Int) + 1) else (best, dist, (i : Int) + 1))) := by
        unfold fWork_nearestGarage_l9 fWork_nearestGarage_j69_l9
        rw [wi, d, w8, if_neg z, if_neg (by omega), if_pos (by omega), show ((i : Int)).toNat = i by omega, g0, v0, between_eq hA (by omega), Option.bind_some]
        unfold fGarage_hasRoom
        rw [lo_at, lo_at, lo_at, Nat.add_zero, g1, g2, g3, tw (x := vG (m 1) i 1) (by omega) (by omega), tw (x := vG (m 1) i 2 + uw (m 1) i) (by omega) (by omega)]
        rw [← v0]
        rw [show sm_lo 1 s 2 (12 * A + (vG (m 1) i 0).toNat) = s 3 (12 * A + (vG (m 1) i 0).toNat) from rfl]
        by_cases x : vG (m 1) i 2 + uw (m 1) i < vG (m 1) i 1
        · rw [if_neg (by omega), Option.bind_some, w1, if_neg (by omega), wd.1, tw (x := s 3 (12 * A + (vG (m 1) i 0).toNat)) (by omega) (by omega)]
          by_cases y : s 3 (12 * A + (vG (m 1) i 0).toNat) < dist
          · rw [if_neg (by omega), if_pos ⟨x, y⟩]
          · rw [if_pos (by omega), if_neg (fun e => y e.2)]
        · rw [if_pos (by omega), Option.bind_some, w0, if_pos rfl, if_neg (fun e => x e.1)]
      have hM : fModel_garageFor_l5 (A : Int) best (i : Int) m = some (.inl (if d2 m A (vG (m 1) i 0).toNat < 100000 ∧ vG (m 1) i 2 + uw (m 1) i < vG (m 1) i 1 ∧ (best = -5 ∨ d2 m A (vG (m 1) i 0).toNat < dist) then ((i : Int), (i : Int) + 1) else (best, (i : Int) + 1))) := by
        unfold fModel_garageFor_l5 fModel_garageFor_j61_l5
        rw [wi, w8, if_neg z, ofGarage_0 (by omega), Option.bind_some, v0, way_eq hA (by omega), Option.bind_some, ← v0, tw (x := d2 m A (vG (m 1) i 0).toNat) (by omega) (by omega)]
        by_cases x1 : d2 m A (vG (m 1) i 0).toNat < 100000
        · rw [if_neg (by omega), ofGarage_2 (by omega), Option.bind_some, underWay_eq H (by omega), Option.bind_some, ofGarage_1 (by omega), Option.bind_some, tw (x := vG (m 1) i 1) (by omega) (by omega), tw (x := vG (m 1) i 2 + uw (m 1) i) (by omega) (by omega)]
          by_cases x2 : vG (m 1) i 2 + uw (m 1) i < vG (m 1) i 1
          · rw [if_neg (by omega)]
            unfold fModel_garageFor_j62_l5 fModel_garageFor_j95_l5 fModel_garageFor_j91_l5 fModel_garageFor_j96_l5
            rw [w1, if_neg (by omega)]
            rcases h5 with e | ⟨g, e, e2, e3, e4⟩
            · rw [e, wm5, if_pos rfl, if_pos ⟨x1, x2, Or.inl rfl⟩]
            · have nn := b g e2
              have Dg := wk_D hw hA (show (vG (m 1) g 0).toNat < 12 by omega)
              have vg : vG (m 1) g 0 = (((vG (m 1) g 0).toNat : Nat) : Int) := by omega
              rw [h7 g e]
              rw [e, tw (x := (g : Int)) (by omega) (by omega), if_neg (by omega), ofGarage_0 (by omega), Option.bind_some, vg, way_eq hA (by omega), Option.bind_some, ← vg, tw (x := d2 m A (vG (m 1) g 0).toNat) (by omega) (by omega), tw (x := d2 m A (vG (m 1) i 0).toNat) (by omega) (by omega)]
              by_cases x3 : d2 m A (vG (m 1) i 0).toNat < d2 m A (vG (m 1) g 0).toNat
              · rw [if_neg (by omega), if_pos ⟨x1, x2, Or.inr x3⟩]
              · rw [if_pos (by omega), if_neg (fun e => by rcases e.2.2 with e | e <;> omega)]
          · rw [if_pos (by omega)]
            unfold fModel_garageFor_j62_l5 fModel_garageFor_j95_l5 fModel_garageFor_j96_l5
            rw [w0, if_pos rfl, if_neg (fun e => x2 e.2.1)]
        · rw [if_pos (by omega)]
          unfold fModel_garageFor_j62_l5 fModel_garageFor_j95_l5 fModel_garageFor_j96_l5
          rw [w0, if_pos rfl, if_neg (fun e => x1 e.1)]
      by_cases P : d2 m A (vG (m 1) i 0).toNat < 100000 ∧ vG (m 1) i 2 + uw (m 1) i < vG (m 1) i 1 ∧ (best = -5 ∨ d2 m A (vG (m 1) i 0).toNat < dist)
      · rw [if_pos P] at hM
        rw [if_pos (by
          refine ⟨P.2.1, ?_⟩
          rcases P.2.2 with e | e
          · rw [h6 e]; omega
          · omega)] at hC
        refine ⟨_, _, hM, hC, ⟨i + 1, by push_cast; rfl, by push_cast; rfl, by push_cast; omega, rfl, Or.inr ⟨i, rfl, by omega, P.1, P.2.1⟩, fun e => by dsimp only at e; omega, fun g e => ?_⟩, by dsimp only; omega⟩
        dsimp only at e ⊢
        have : g = i := by omega
        rw [this]
        omega
      · rw [if_neg P] at hM
        rw [if_neg (fun e => P (by
          refine ⟨?_, e.1, ?_⟩
          · rcases wd.2 with e' | e'
            · have := h6 e'; omega
            · omega
          · rcases wd.2 with e' | e'
            · exact Or.inl e'
            · right; omega))] at hC
        exact ⟨_, _, hM, hC, ⟨i + 1, by push_cast; rfl, by push_cast; rfl, by push_cast; omega, rfl, h5, h6, h7⟩, by dsimp only; omega⟩) sl_fu (-5, 0) (-5, 1000000, 0) ⟨0, rfl, rfl, by omega, rfl, Or.inl rfl, fun _ => rfl, fun g e => by dsimp only at e; omega⟩ (by show (5 - (0 : Int)).toNat < 5000; omega)
  subst e1
  refine ⟨y, ?_, ?_, e2⟩
  · unfold fModel_garageFor
    rw [hy]
    rfl
  · unfold fWork_nearestGarage
    rw [hz]
    rfl
