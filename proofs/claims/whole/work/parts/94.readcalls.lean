/-! ===== readCalls ===== -/
theorem DM_any {d d' m m' : MI} {ro : Nat → Nat} (h : DM d ro m) (e : ∀ a, a < 123 ∨ 188 ≤ a → d' a = d a) (e1 : ∀ j, j < 810 → m' 1 j = m 1 j) (e2 : m' 2 = m 2) (e3 : m' 3 = m 3) (e6 : m' 6 = m 6) (e7 : m' 7 = m 7) (c2 : m' 0 2 = m 0 2) (c4 : m' 0 4 = m 0 4)
    (hL : ∃ L : Nat, L ≤ 60 ∧ d' 185 1 = (L : Int) ∧ m' 0 7 = (L : Int) ∧ ∀ k, k < L → d' 186 k = m' 5 k ∧ 0 ≤ m' 5 k ∧ m' 5 k ≤ 65535) : DM d' ro m' := by
  obtain ⟨h1, h2, ⟨r, r4, dr, mr, hp⟩, hro, hk, _⟩ := h
  have q0 := e 0 (by omega)
  refine ⟨RS_row (RS_61 h1 (fun x hx => e (1 + x) (by omega))) e1, wk_up2 (wk_61 h2 (fun x hx => e (1 + x) (by omega))) rfl rfl e6 e7 (e1 5 (by omega)) (fun i _ _ => e1 i (by omega)), ⟨r, r4, by rw [q0]; exact dr, by rw [c2]; exact mr, fun i hi => ?_⟩, hro, ?_, hL⟩
  · rw [e2]
    exact RS_61 (hp i hi) (fun x hx => e _ (by omega))
  · rw [q0, c4, e3]
    rcases hk with x | ⟨x, y, z⟩
    · exact Or.inl x
    · exact Or.inr ⟨x, y, RS_61 z (fun j hj => e _ (by omega))⟩
/-- the numbers that were read -/
def TN (r : Nat) (d m : MI) : Prop := d 185 3 = ((3 * r : Nat) : Int) ∧ m 0 13 = (r : Int) ∧ ∀ j, j < 3 * r → d 187 j = m 9 j ∧ 0 ≤ m 9 j ∧ m 9 j ≤ 99
theorem calls_c {r : Nat} {d m : MI} (T : TN r d m) (r10 : r ≤ 10) : fText_calls (sm_lo 185 d) = some (r : Int) := by
  unfold fText_calls
  rw [show sm_lo 185 d 0 3 = ((3 * r : Nat) : Int) from T.1, div4 (by omega) (by omega) 3 (by omega) (by omega)]
  congr 1
  omega
theorem number_c {r i p : Nat} {d m : MI} (T : TN r d m) (r10 : r ≤ 10) (hi : i < r) (hp : p < 3) : fText_number (i : Int) (p : Int) (sm_lo 185 d) = some (m 9 (3 * i + p)) := by
  unfold fText_number
  rw [show sm_lo 185 d 0 3 = ((3 * r : Nat) : Int) from T.1, tw (x := (i : Int) * 3 + (p : Int)) (by omega) (by omega), tw (x := ((3 * r : Nat) : Int)) (by omega) (by omega), if_neg (by omega), if_neg (by omega), if_neg (by omega), if_pos (by omega), show ((i : Int) * 3 + (p : Int)).toNat = 3 * i + p by omega]
  exact congrArg some (T.2.2 (3 * i + p) (by omega)).1
theorem take_loops {r : Nat} (r10 : r ≤ 10) : ∀ (k i n : Nat) (dt mt : MI), i + k = r → k + 1 ≤ n → RS (sm_lo 123 dt) (mt 1) → wk (sm_lo 123 dt) mt → TN r dt mt →
    (∃ (v : Int) (d' m' : MI), sl_it (fun (t : Int × MI) => fDesk_takeAll_l2 t.1 t.2) n ((i : Int), dt) = some (.inr (v, d')) ∧ (-4 ≤ v ∧ v ≤ 0) ∧ ¬ v = 0 ∧ sl_it (fun (t : Int × MI) => fModel_readCalls_l31 t.1 t.2) n ((i : Int), mt) = some (.inr (v, m')) ∧
      (∀ a, a < 123 ∨ 184 ≤ a → d' a = dt a) ∧ (∀ a, ¬ a = 1 → m' a = mt a) ∧ ∀ j, j < 810 → m' 1 j = mt 4 j) ∨
    (∃ d' m', sl_it (fun (t : Int × MI) => fDesk_takeAll_l2 t.1 t.2) n ((i : Int), dt) = some (.inl d') ∧ sl_it (fun (t : Int × MI) => fModel_readCalls_l31 t.1 t.2) n ((i : Int), mt) = some (.inl m') ∧ (∀ a, a < 123 ∨ 184 ≤ a → d' a = dt a) ∧ (∀ a, ¬ a = 1 → m' a = mt a) ∧
      ∀ (mu : MI) (n' : Nat), k + 1 ≤ n' → RS (sm_lo 123 dt) (mu 1) → wk (sm_lo 123 dt) mu → TN r dt mu → ∃ mu', sl_it (fun (t : Int × MI) => fModel_readCalls_l148 t.1 t.2) n' ((i : Int), mu) = some mu' ∧ RS (sm_lo 123 d') (mu' 1) ∧ wk (sm_lo 123 d') mu' ∧ ∀ a, ¬ a = 1 → mu' a = mu a) := by
  intro k
  induction k with
  | zero =>
    intro i n dt mt hi hn hR hW T
    obtain ⟨n, rfl⟩ : ∃ n', n = n' + 1 := ⟨n - 1, by omega⟩
    have e : i = r := by omega
    subst e
    have wi : sm_w (i : Int) = i := tw (by omega) (by omega)
    right
    refine ⟨dt, mt, it_end _ ?_, it_end _ ?_, fun _ _ => rfl, fun _ _ => rfl, fun mu n' hn' hR' hW' T' => ?_⟩
    · dsimp only
      unfold fDesk_takeAll_l2
      rw [calls_c T r10, Option.bind_some, wi, if_pos (by omega)]
    · dsimp only
      unfold fModel_readCalls_l31
      rw [T.2.1, wi, if_pos (by omega)]
    · obtain ⟨n', rfl⟩ : ∃ n'', n' = n'' + 1 := ⟨n' - 1, by omega⟩
      refine ⟨mu, it_end _ ?_, hR', hW', fun _ _ => rfl⟩
      dsimp only
      unfold fModel_readCalls_l148
      rw [T'.2.1, wi, if_pos (by omega)]
  | succ k ih =>
    intro i n dt mt hi hn hR hW T
    obtain ⟨n, rfl⟩ : ∃ n', n = n' + 1 := ⟨n - 1, by omega⟩
    have wi : sm_w (i : Int) = i := tw (by omega) (by omega)
    have wr : sm_w (r : Int) = r := tw (by omega) (by omega)
    have g0 : ((3 : Int) * (i : Int)).toNat = 3 * i + 0 := by omega
    have g1 : ((3 : Int) * (i : Int) + 1).toNat = 3 * i + 1 := by omega
    have g2 : ((3 : Int) * (i : Int) + 2).toNat = 3 * i + 2 := by omega
    have b0 := (T.2.2 (3 * i + 0) (by omega)).2
    have b1 := (T.2.2 (3 * i + 1) (by omega)).2
    have b2 := (T.2.2 (3 * i + 2) (by omega)).2
    obtain ⟨v, v1, v2, v3, v4⟩ := against_eq hR (x := mt 9 (3 * i + 0)) (y := mt 9 (3 * i + 1)) (z := mt 9 (3 * i + 2)) (by unfold i32; omega) (by unfold i32; omega) (by unfold i32; omega)
    have eC : fDesk_takeAll_l2 (i : Int) dt = if v = 0 then Option.bind (fState_take (mt 9 (3 * i + 0)) (mt 9 (3 * i + 1)) (mt 9 (3 * i + 2)) (sm_lo 123 dt)) (fun p36 => Option.bind (some (sm_gl 123 61 p36.2 dt)) (fun s39 => some (.inl (((i : Int) + 1), s39)))) else some (.inr (.inr (v, dt))) := by
      unfold fDesk_takeAll_l2
      rw [calls_c T r10, Option.bind_some, wi, wr, if_neg (by omega), show fText_number (i : Int) 0 (sm_lo 185 dt) = some (mt 9 (3 * i + 0)) from number_c T r10 (by omega) (p := 0) (by omega), Option.bind_some, show fText_number (i : Int) 1 (sm_lo 185 dt) = some (mt 9 (3 * i + 1)) from number_c T r10 (by omega) (p := 1) (by omega), Option.bind_some, show fText_number (i : Int) 2 (sm_lo 185 dt) = some (mt 9 (3 * i + 2)) from number_c T r10 (by omega) (p := 2) (by omega), Option.bind_some, v1, Option.bind_some, tw (x := v) (by omega) (by omega)]
    have eM : fModel_readCalls_l31 (i : Int) mt = if v = 0 then Option.bind (fModel_comes (mt 9 (3 * i + 0)) (mt 9 (3 * i + 1)) (mt 9 (3 * i + 2)) mt) (fun p25 => some (.inl (((i : Int) + 1), p25))) else Option.bind (fModel_copies 4 810 0 1 810 0 mt) (fun p28 => some (.inr (.inr (v, p28)))) := by
      unfold fModel_readCalls_l31
      rw [T.2.1, wi, wr, if_neg (show ¬ (r : Int) ≤ (i : Int) by omega), tw (x := 3 * (i : Int)) (by omega) (by omega), if_pos (show (0 : Int) ≤ 3 * (i : Int) ∧ 3 * (i : Int) < 60 by omega), tw (x := 3 * (i : Int) + 1) (by omega) (by omega), if_pos (show (0 : Int) ≤ 3 * (i : Int) + 1 ∧ 3 * (i : Int) + 1 < 60 by omega), tw (x := 3 * (i : Int) + 2) (by omega) (by omega), if_pos (show (0 : Int) ≤ 3 * (i : Int) + 2 ∧ 3 * (i : Int) + 2 < 60 by omega), g0, g1, g2, v2, Option.bind_some, tw (x := v) (by omega) (by omega)]
    have ei : (i : Int) + 1 = ((i + 1 : Nat) : Int) := by omega
    by_cases u : v = 0
    · rw [if_pos u] at eC eM
      obtain ⟨x1, x2, x3, x4⟩ := v4 u
      obtain ⟨s', m1, c1, c2, c3, c4, _, c6⟩ := comes_eq hR hW x1 x2 x3 x4
      rw [c1, Option.bind_some, Option.bind_some] at eC
      rw [c2, Option.bind_some] at eM
      have el : ∀ j, j < 61 → sm_lo 123 (sm_gl 123 61 s' dt) j = s' j := fun j hj => lo_gl s' dt hj
      have fr : ∀ a, a < 123 ∨ 184 ≤ a → sm_gl 123 61 s' dt a = dt a := fun a ha => by
        funext j
        exact gl_o (by omega)
      have T1 : TN r (sm_gl 123 61 s' dt) m1 := ⟨by rw [fr 185 (by omega)]; exact T.1, by rw [c6 0 (by omega)]; exact T.2.1, fun j hj => by rw [fr 187 (by omega), c6 9 (by omega)]; exact T.2.2 j hj⟩
      have j1 := it_go (f := fun (t : Int × MI) => fDesk_takeAll_l2 t.1 t.2) (s := ((i : Int), dt)) (s' := ((i : Int) + 1, sm_gl 123 61 s' dt)) n eC
      have j2 := it_go (f := fun (t : Int × MI) => fModel_readCalls_l31 t.1 t.2) (s := ((i : Int), mt)) (s' := ((i : Int) + 1, m1)) n eM
      rw [ei] at j1 j2
      rcases ih (i + 1) n (sm_gl 123 61 s' dt) m1 (by omega) (by omega) (RS_61 c3 el) (wk_61 c4 el) T1 with ⟨w, d', m', y1, y2, y3, y4, y5, y6, y7⟩ | ⟨d', m', y1, y2, y3, y4, y5⟩
      · left
        exact ⟨w, d', m', j1.trans y1, y2, y3, j2.trans y4, fun a ha => (y5 a ha).trans (fr a ha), fun a ha => (y6 a ha).trans (c6 a ha), fun j hj => by rw [y7 j hj, c6 4 (by omega)]⟩
      · right
        refine ⟨d', m', j1.trans y1, j2.trans y2, fun a ha => (y3 a ha).trans (fr a ha), fun a ha => (y4 a ha).trans (c6 a ha), fun mu n' hn' hR' hW' T' => ?_⟩
        obtain ⟨n', rfl⟩ : ∃ n'', n' = n'' + 1 := ⟨n' - 1, by omega⟩
        have z0 : mu 9 (3 * i + 0) = mt 9 (3 * i + 0) := by rw [← (T.2.2 (3 * i + 0) (by omega)).1, ← (T'.2.2 (3 * i + 0) (by omega)).1]
        have z1 : mu 9 (3 * i + 1) = mt 9 (3 * i + 1) := by rw [← (T.2.2 (3 * i + 1) (by omega)).1, ← (T'.2.2 (3 * i + 1) (by omega)).1]
        have z2 : mu 9 (3 * i + 2) = mt 9 (3 * i + 2) := by rw [← (T.2.2 (3 * i + 2) (by omega)).1, ← (T'.2.2 (3 * i + 2) (by omega)).1]
        have q6 : mu 1 6 = mt 1 6 := hR'.1.1.symm.trans hR.1.1
        have q9 : mu 1 9 = mt 1 9 := hR'.1.2.2.2.1.symm.trans hR.1.2.2.2.1
        obtain ⟨s2, mu1, k1, k2, k3, k4, _, k6⟩ := comes_eq hR' hW' (by rw [q6]; exact x1) x2 x3 (by rw [q9]; exact x4)
        have es : s2 = s' := by
          have := k1.symm.trans c1
          exact (Prod.mk.inj (Option.some.inj this)).2
        subst es
        have eM2 : fModel_readCalls_l148 (i : Int) mu = some (.inl ((i : Int) + 1, mu1)) := by
          unfold fModel_readCalls_l148
          rw [T'.2.1, wi, wr, if_neg (show ¬ (r : Int) ≤ (i : Int) by omega), tw (x := 3 * (i : Int)) (by omega) (by omega), if_pos (show (0 : Int) ≤ 3 * (i : Int) ∧ 3 * (i : Int) < 60 by omega), tw (x := 3 * (i : Int) + 1) (by omega) (by omega), if_pos (show (0 : Int) ≤ 3 * (i : Int) + 1 ∧ 3 * (i : Int) + 1 < 60 by omega), tw (x := 3 * (i : Int) + 2) (by omega) (by omega), if_pos (show (0 : Int) ≤ 3 * (i : Int) + 2 ∧ 3 * (i : Int) + 2 < 60 by omega), g0, g1, g2, z0, z1, z2, k2, Option.bind_some]
        have T2 : TN r (sm_gl 123 61 s2 dt) mu1 := ⟨by rw [fr 185 (by omega)]; exact T'.1, by rw [k6 0 (by omega)]; exact T'.2.1, fun j hj => by rw [fr 187 (by omega), k6 9 (by omega)]; exact T'.2.2 j hj⟩
        obtain ⟨mu', p1, p2, p3, p4⟩ := y5 mu1 n' (by omega) (RS_61 k3 el) (wk_61 k4 el) T2
        have j3 := it_go (f := fun (t : Int × MI) => fModel_readCalls_l148 t.1 t.2) (s := ((i : Int), mu)) (s' := ((i : Int) + 1, mu1)) n' eM2
        rw [ei] at j3
        exact ⟨mu', j3.trans p1, p2, p3, fun a ha => (p4 a ha).trans (k6 a ha)⟩
    · left
      rw [if_neg u] at eC eM
      obtain ⟨m', e', cq⟩ := copies_eq (m := mt) (d0 := 4) (d2 := 1) (a := 0) (b := 0) (m0 := 810) (m2 := 810) (by omega) (by omega) (by omega) (by omega) (by omega)
      rw [show fModel_copies 4 810 0 1 810 0 mt = some m' from e', Option.bind_some] at eM
      refine ⟨v, dt, m', it_end _ eC, v3, u, it_end _ eM, fun _ _ => rfl, fun a ha => ?_, fun j hj => ?_⟩
      · funext j
        rw [cq, if_neg (fun e => ha e.1)]
      · rw [cq, if_pos ⟨rfl, by omega, by omega⟩, show 0 + (j - 0) = j by omega]
theorem readCalls_eq {d m : MI} {ro : Nat → Nat} (h : DM d ro m) : ∃ v d' ro' m', fDesk_readCalls d ro = some (v, d', ro') ∧ fModel_readCalls m = some (v, m') ∧ DM d' ro' m' := by
  have H := h
  obtain ⟨_, _, _, _, _, L, L6, dL, mL, hL⟩ := h
  obtain ⟨V, P, m1, n', eR, T1, F1, hV⟩ := read_eq (s := sm_lo 185 d) dL mL L6 hL
  have gl1 : ∀ a j, 185 ≤ a → a < 188 → sm_gl 185 3 P d a j = P (a - 185) j := fun a j x y => gl_i x (by omega)
  have fr : ∀ a, a < 185 ∨ 188 ≤ a → sm_gl 185 3 P d a = d a := fun a ha => by
    funext j
    exact gl_o (by omega)
  have hL1 : ∃ L : Nat, L ≤ 60 ∧ sm_gl 185 3 P d 185 1 = (L : Int) ∧ m1 0 7 = (L : Int) ∧ ∀ k, k < L → sm_gl 185 3 P d 186 k = m1 5 k ∧ 0 ≤ m1 5 k ∧ m1 5 k ≤ 65535 := ⟨L, L6, by rw [gl1 185 _ (by omega) (by omega)]; exact T1.1, T1.2.1, fun k hk => by rw [gl1 186 _ (by omega) (by omega)]; exact T1.2.2.2.1 k hk⟩
  have hD1 : DM (sm_gl 185 3 P d) ro m1 := DM_any H (fun a ha => fr a (by omega)) (fun j _ => by rw [F1.1 1 (by omega) (by omega)]) (F1.1 2 (by omega) (by omega)) (F1.1 3 (by omega) (by omega)) (F1.1 6 (by omega) (by omega)) (F1.1 7 (by omega) (by omega)) (F1.2 2 (by omega) (by omega)) (F1.2 4 (by omega) (by omega)) hL1
  unfold fDesk_readCalls fModel_readCalls
  rw [eR, Option.bind_some, Option.bind_some]
  dsimp only
  rcases hV with ⟨rfl, eF, r, rfl, r13, r10⟩ | ⟨q, q61, rfl, eF⟩
  · rw [eF, Option.bind_some]
    dsimp only
    rw [tw (x := -1) (by omega) (by omega), if_pos rfl, tw (x := -5) (by omega) (by omega), if_pos rfl]
    obtain ⟨C, eC, hC⟩ := copyFrom_eq (s := sm_lo 123 (sm_gl 185 3 P d)) hD1.1
    obtain ⟨m2, eM, cq⟩ := copies_eq (m := m1) (d0 := 1) (d2 := 4) (a := 0) (b := 0) (m0 := 810) (m2 := 810) (by omega) (by omega) (by omega) (by omega) (by omega)
    have m2d : ∀ a, ¬ a = 4 → m2 a = m1 a := fun a ha => by
      funext j
      rw [cq, if_neg (fun e => ha e.1)]
    have m24 : ∀ j, j < 810 → m2 4 j = m1 1 j := fun j hj => by rw [cq, if_pos ⟨rfl, by omega, by omega⟩, show 0 + (j - 0) = j by omega]
    have el : ∀ i, i < 61 → sm_lo 123 (sm_gl 123 61 C (sm_gl 185 3 P d)) i = C i := fun i hi => lo_gl C _ hi
    have fr2 : ∀ a, a < 123 ∨ 184 ≤ a → sm_gl 123 61 C (sm_gl 185 3 P d) a = sm_gl 185 3 P d a := fun a ha => by
      funext j
      exact gl_o (by omega)
    have hR2 : RS (sm_lo 123 (sm_gl 123 61 C (sm_gl 185 3 P d))) (m1 1) := RS_61 hC el
    have m21 := m2d 1 (by omega)
    have hW2 : wk (sm_lo 123 (sm_gl 123 61 C (sm_gl 185 3 P d))) m2 := by
      refine ⟨?_, ?_, ?_⟩
      · rw [m21]
        exact hR2.2.1
      · unfold wOK
        rw [m21, m2d 6 (by omega), m2d 7 (by omega)]
        exact hD1.2.1.2.1
      · rw [m21]
        exact hD1.2.1.2.2
    have T2 : TN r (sm_gl 123 61 C (sm_gl 185 3 P d)) m2 := ⟨by rw [fr2 185 (by omega), gl1 185 _ (by omega) (by omega)]; exact T1.2.2.2.2.1, by rw [m2d 0 (by omega)]; exact r13, fun j hj => by rw [fr2 187 (by omega), gl1 187 _ (by omega) (by omega), m2d 9 (by omega)]; exact T1.2.2.2.2.2 j hj⟩
    rw [eC, Option.bind_some, Option.bind_some, show fModel_copies 1 810 0 4 810 0 m1 = some m2 from eM, Option.bind_some]
    unfold fDesk_takeAll
    have DMx : ∀ (d' m' : MI), (∀ a, a < 123 ∨ 184 ≤ a → d' a = sm_gl 123 61 C (sm_gl 185 3 P d) a) → (∀ a, ¬ a = 1 → m' a = m2 a) → (∀ j, j < 810 → m' 1 j = m2 4 j) → DM d' ro m' := fun d' m' x1 x2 x3 => by
      refine DM_any hD1 (fun a ha => (x1 a (by omega)).trans (fr2 a (by omega))) (fun j hj => (x3 j hj).trans (m24 j hj)) (by rw [x2 2 (by omega), m2d 2 (by omega)]) (by rw [x2 3 (by omega), m2d 3 (by omega)]) (by rw [x2 6 (by omega), m2d 6 (by omega)]) (by rw [x2 7 (by omega), m2d 7 (by omega)]) (by rw [x2 0 (by omega), m2d 0 (by omega)]) (by rw [x2 0 (by omega), m2d 0 (by omega)]) ?_
      obtain ⟨L', l1, l2, l3, l4⟩ := hL1
      refine ⟨L', l1, by rw [x1 185 (by omega), fr2 185 (by omega)]; exact l2, by rw [x2 0 (by omega), m2d 0 (by omega)]; exact l3, fun k hk => ?_⟩
      rw [x1 186 (by omega), fr2 186 (by omega), x2 5 (by omega), m2d 5 (by omega)]
      exact l4 k hk
    rcases take_loops r10 r 0 5000 _ m2 (by omega) (by omega) (by rw [m21]; exact hR2) hW2 T2 with ⟨v, d', m', y1, y2, y3, y4, y5, y6, y7⟩ | ⟨d', m', y1, y2, y3, y4, y5⟩
    · have y1' : sl_it (fun (t : Int × MI) => fDesk_takeAll_l2 t.1 t.2) sl_fu (0, sm_gl 123 61 C (sm_gl 185 3 P d)) = some (.inr (v, d')) := y1
      have y4' : sl_it (fun (t : Int × MI) => fModel_readCalls_l31 t.1 t.2) sl_fu (0, m2) = some (.inr (v, m')) := y4
      rw [y1', y4', Option.bind_some, Option.bind_some]
      dsimp only [Sum.elim]
      rw [Option.bind_some, tw (x := v) (by omega) (by omega), if_neg y3]
      exact ⟨_, _, _, _, rfl, rfl, DMx d' m' y5 y6 y7⟩
    · have y1' : sl_it (fun (t : Int × MI) => fDesk_takeAll_l2 t.1 t.2) sl_fu (0, sm_gl 123 61 C (sm_gl 185 3 P d)) = some (.inl d') := y1
      have y2' : sl_it (fun (t : Int × MI) => fModel_readCalls_l31 t.1 t.2) sl_fu (0, m2) = some (.inl m') := y2
      obtain ⟨m3, eM3, cq3⟩ := copies_eq (m := m') (d0 := 4) (d2 := 1) (a := 0) (b := 0) (m0 := 810) (m2 := 810) (by omega) (by omega) (by omega) (by omega) (by omega)
      have m3d : ∀ a, ¬ a = 1 → m3 a = m2 a := fun a ha => by
        rw [← y4 a ha]
        funext j
        rw [cq3, if_neg (fun e => ha e.1)]
      have m31 : ∀ j, j < 810 → m3 1 j = m2 4 j := fun j hj => by rw [cq3, if_pos ⟨rfl, by omega, by omega⟩, y4 4 (by omega), show 0 + (j - 0) = j by omega]
      have hD3 : DM d' ro m3 := DMx d' m3 y3 m3d m31
      obtain ⟨d4, ro4, m4, eD4, eM4, hD4, kd, k0, km, km0⟩ := record_eq hD3
      have m41 : ∀ j, j < 810 → m4 1 j = m1 1 j := fun j hj => by rw [km 1 (by omega) (by omega), m31 j hj, m24 j hj]
      have m4d : ∀ a, ¬ a = 0 → ¬ a = 1 → ¬ a = 2 → ¬ a = 4 → m4 a = m1 a := fun a x0 x1 x2 x4 => by rw [km a x2 x0, m3d a x1, m2d a x4]
      obtain ⟨mu, z1, z2, z3, z4⟩ := y5 m4 5000 (by omega) (RS_row hR2 m41) (wk_up2 (m := m2) hW2 rfl rfl (by rw [m4d 6 (by omega) (by omega) (by omega) (by omega), m2d 6 (by omega)]) (by rw [m4d 7 (by omega) (by omega) (by omega) (by omega), m2d 7 (by omega)]) (by rw [m41 5 (by omega), m21]) (fun i _ _ => by rw [m41 i (by omega), m21])) ⟨T2.1, by rw [km0 13 (by omega), m3d 0 (by omega)]; exact T2.2.1, fun j hj => by rw [m4d 9 (by omega) (by omega) (by omega) (by omega), ← m2d 9 (by omega)]; exact T2.2.2 j hj⟩
      have z1' : sl_it (fun (t : Int × MI) => fModel_readCalls_l148 t.1 t.2) sl_fu (0, m4) = some mu := z1
      have el4 : ∀ i, i < 61 → sm_lo 123 d4 i = sm_lo 123 d' i := fun i hi => kd _ (by omega) (by omega)
      obtain ⟨Q, eQ, hQ⟩ := copyFrom_eq (s := sm_lo 1 d4) (RS_61 z2 el4)
      have el5 : ∀ i, i < 61 → sm_lo 1 (sm_gl 1 61 Q d4) i = Q i := fun i hi => lo_gl Q d4 hi
      have fr5 : ∀ a, a < 1 ∨ 62 ≤ a → sm_gl 1 61 Q d4 a = d4 a := fun a ha => by
        funext j
        exact gl_o (by omega)
      have T5 : TN r (sm_gl 1 61 Q d4) mu := ⟨by rw [fr5 185 (by omega), kd 185 (by omega) (by omega), y3 185 (by omega)]; exact T2.1, by rw [z4 0 (by omega), km0 13 (by omega), m3d 0 (by omega)]; exact T2.2.1, fun j hj => by rw [fr5 187 (by omega), kd 187 (by omega) (by omega), y3 187 (by omega), z4 9 (by omega), m4d 9 (by omega) (by omega) (by omega) (by omega), ← m2d 9 (by omega)]; exact T2.2.2 j hj⟩
      rw [y1', y2', Option.bind_some, Option.bind_some]
      dsimp only [Sum.elim]
      rw [Option.bind_some, w0, if_pos rfl, eD4, Option.bind_some]
      dsimp only
      rw [eQ, Option.bind_some, Option.bind_some, calls_c T5 r10, Option.bind_some, show fModel_copies 4 810 0 1 810 0 m' = some m3 from eM3, Option.bind_some, eM4, Option.bind_some, z1', Option.bind_some, T5.2.1]
      have hRS : RS (sm_lo 1 (sm_gl 1 61 Q d4)) (mu 1) := RS_61 hQ el5
      exact ⟨_, _, _, _, rfl, rfl, DM_now hD4 fr5 (z4 2 (by omega)) (z4 3 (by omega)) (z4 5 (by omega)) (by rw [z4 0 (by omega)]) (by rw [z4 0 (by omega)]) (by rw [z4 0 (by omega)]) hRS ⟨hRS.2.1, z3.2⟩⟩
  · rw [eF, Option.bind_some]
    dsimp only
    rw [tw (x := (q : Int)) (by omega) (by omega), if_neg (show ¬ (q : Int) = -1 by omega), if_neg (show ¬ (q : Int) = -5 by omega)]
    exact ⟨_, _, _, _, rfl, rfl, hD1⟩
