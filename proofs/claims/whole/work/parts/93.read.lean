/-! ===== the whole text is read ===== -/
def FRM (m m' : MI) : Prop := (∀ a, ¬ a = 0 → ¬ a = 9 → m' a = m a) ∧ ∀ j, ¬ j = 13 → ¬ j = 14 → m' 0 j = m 0 j
theorem FRM_t {m m1 m2 : MI} (h : FRM m m1) (h2 : FRM m1 m2) : FRM m m2 := ⟨fun a x y => (h2.1 a x y).trans (h.1 a x y), fun j x y => (h2.2 j x y).trans (h.2 j x y)⟩
theorem TR_fr {L n : Nat} {s m m' : MI} (T : TR L s m n) (e : ∀ a, ¬ a = 0 → m' a = m a) (e7 : m' 0 7 = m 0 7) : TR L s m' n := by
  obtain ⟨t1, t2, t3, t4, t5, t6⟩ := T
  exact ⟨t1, by rw [e7]; exact t2, t3, fun k hk => by rw [e 5 (by omega)]; exact t4 k hk, t5, fun k hk => by rw [e 9 (by omega)]; exact t6 k hk⟩
theorem mk_0 : sl_mark 0 = 109 := rfl
theorem mk_1 : sl_mark 1 = 64 := rfl
theorem mk_2 : sl_mark 2 = 33 := rfl
theorem three_eq {L p r : Nat} {s m : MI} (T : TR L s m (3 * r)) (h14 : m 0 14 = (p : Int)) (h13 : m 0 13 = (r : Int)) (p60 : p ≤ 60) (hr : 6 * r ≤ p) :
    (∃ (q : Nat) (s' m' : MI) (n' : Nat), q ≤ 61 ∧ sl_it (fun (t : Int × Int × MI) => fText_read_l15 t.1 t.2.1 t.2.2) sl_fu ((p : Int), 0, s) = some (.inr ((q : Int), s')) ∧ fModel_faultOf_l12 1 m = some (.inr (.inr ((q : Int), m'))) ∧ TR L s' m' n' ∧ FRM m m') ∨
    (∃ (q : Nat) (s' m' : MI), (p + 6 ≤ q ∧ q ≤ L) ∧ sl_it (fun (t : Int × Int × MI) => fText_read_l15 t.1 t.2.1 t.2.2) sl_fu ((p : Int), 0, s) = some (.inl ((q : Int), s')) ∧ TR L s' m' (3 * r + 3) ∧ m' 0 14 = (q : Int) ∧ m' 0 13 = (r : Int) ∧ FRM m m' ∧
      fModel_faultOf_l12 1 m = if L ≤ q then fModel_faultOf_j96_l12 0 (sm_up m' 0 13 ((r : Int) + 1)) else fModel_faultOf_j96_l12 1 (sm_up m' 0 13 ((r : Int) + 1))) := by
  have L60 := T.2.2.1
  have g3 : 3 * (r : Int) = ((3 * r : Nat) : Int) := by omega
  have g4 : 3 * (r : Int) + 1 = ((3 * r + 1 : Nat) : Int) := by omega
  have g5 : 3 * (r : Int) + 2 = ((3 * r + 1 + 1 : Nat) : Int) := by omega
  unfold fModel_faultOf_l12
  rw [w1, if_neg n10, h13, g3]
  rcases part_eq T h14 p60 (by omega) (part := 0) (by omega) mk_0 (by omega) with ⟨q, m1, q1, c1, d1, e14, f1, f2⟩ | ⟨q, s1, m1, q1, c1, d1, T1, e14, f1, f2⟩
  · left
    have F1 : FRM m m1 := ⟨fun a x _ => f1 a x, fun j _ y => f2 j y⟩
    refine ⟨q, s, m1, 3 * r, q1, it_end 4999 c1, ?_, TR_fr T f1 (f2 7 (by omega)), F1⟩
    rw [d1, Option.bind_some]
    dsimp only
    rw [w0, if_pos rfl]
    unfold fModel_faultOf_j65_l12
    rw [e14]
  · have F1 : FRM m m1 := ⟨f1, fun j _ y => f2 j y⟩
    have h13' : m1 0 13 = (r : Int) := (f2 13 (by omega)).trans h13
    have j1 : sl_it (fun (t : Int × Int × MI) => fText_read_l15 t.1 t.2.1 t.2.2) 5000 ((p : Int), 0, s) = sl_it (fun (t : Int × Int × MI) => fText_read_l15 t.1 t.2.1 t.2.2) 4999 ((q : Int), 1, s1) := it_go 4999 c1
    rw [d1, Option.bind_some]
    dsimp only
    rw [w1, if_neg n10, h13', g4]
    rcases part_eq T1 e14 (by omega) (by omega) (part := 1) (by omega) mk_1 (by omega) with ⟨q', m2, q2, c2, d2, e14', f3, f4⟩ | ⟨q', s2, m2, q2, c2, d2, T2, e14', f3, f4⟩
    · left
      have F2 : FRM m1 m2 := ⟨fun a x _ => f3 a x, fun j _ y => f4 j y⟩
      refine ⟨q', s1, m2, 3 * r + 1, q2, j1.trans (it_end 4998 c2), ?_, TR_fr T1 f3 (f4 7 (by omega)), FRM_t F1 F2⟩
      rw [d2, Option.bind_some]
      dsimp only
      rw [w0, if_pos rfl]
      unfold fModel_faultOf_j65_l12
      rw [e14']
    · have F2 : FRM m1 m2 := ⟨f3, fun j _ y => f4 j y⟩
      have h13'' : m2 0 13 = (r : Int) := (f4 13 (by omega)).trans h13'
      have j2 : sl_it (fun (t : Int × Int × MI) => fText_read_l15 t.1 t.2.1 t.2.2) 4999 ((q : Int), 1, s1) = sl_it (fun (t : Int × Int × MI) => fText_read_l15 t.1 t.2.1 t.2.2) 4998 ((q' : Int), 2, s2) := it_go 4998 c2
      rw [d2, Option.bind_some]
      dsimp only
      rw [w1, if_neg n10, h13'', g5]
      rcases part_eq T2 e14' (by omega) (by omega) (part := 2) (by omega) mk_2 (by omega) with ⟨q'', m3, q3, c3, d3, e14'', f5, f6⟩ | ⟨q'', s3, m3, q3, c3, d3, T3, e14'', f5, f6⟩
      · left
        have F3 : FRM m2 m3 := ⟨fun a x _ => f5 a x, fun j _ y => f6 j y⟩
        refine ⟨q'', s2, m3, 3 * r + 1 + 1, q3, j1.trans (j2.trans (it_end 4997 c3)), ?_, TR_fr T2 f5 (f6 7 (by omega)), FRM_t (FRM_t F1 F2) F3⟩
        rw [d3, Option.bind_some]
        dsimp only
        rw [w0, if_pos rfl]
        unfold fModel_faultOf_j65_l12
        rw [e14'']
      · right
        have F3 : FRM m2 m3 := ⟨f5, fun j _ y => f6 j y⟩
        have h13''' : m3 0 13 = (r : Int) := (f6 13 (by omega)).trans h13''
        have j3 : sl_it (fun (t : Int × Int × MI) => fText_read_l15 t.1 t.2.1 t.2.2) 4998 ((q' : Int), 2, s2) = sl_it (fun (t : Int × Int × MI) => fText_read_l15 t.1 t.2.1 t.2.2) 4997 ((q'' : Int), 3, s3) := it_go 4997 c3
        have c4 : fText_read_l15 (q'' : Int) 3 s3 = some (.inr (.inl ((q'' : Int), s3))) := by
          unfold fText_read_l15
          rw [tw (x := 3) (by omega) (by omega), if_pos (show (3 : Int) ≤ 3 by omega)]
        refine ⟨q'', s3, m3, by omega, j1.trans (j2.trans (j3.trans (it_end 4996 c4))), T3, e14'', h13''', FRM_t (FRM_t F1 F2) F3, ?_⟩
        have s7 : sm_up m3 0 13 ((r : Int) + 1) 0 7 = (L : Int) := by rw [up_j (by omega)]; exact T3.2.1
        have s14 : sm_up m3 0 13 ((r : Int) + 1) 0 14 = (q'' : Int) := by rw [up_j (by omega)]; exact e14''
        rw [d3, Option.bind_some]
        dsimp only
        rw [w1, if_neg n10, h13''', Option.bind_some, s7, s14, tw (x := (L : Int)) (by omega) (by omega), tw (x := (q'' : Int)) (by omega) (by omega)]
        by_cases z : L ≤ q''
        · rw [if_pos z, if_pos (show (L : Int) ≤ (q'' : Int) by omega)]
        · rw [if_neg z, if_neg (show ¬ (L : Int) ≤ (q'' : Int) by omega)]
def RDR (L : Nat) (m : MI) (y : (Int × MI) ⊕ (Int × MI)) (yM : MI ⊕ (Int × MI)) : Prop := ∃ (V : Int) (s' m' : MI) (n' : Nat), (y = .inl (V, s') ∨ y = .inr (V, s')) ∧ TR L s' m' n' ∧ FRM m m' ∧
  ((V = -1 ∧ yM = .inl m' ∧ ∃ r' : Nat, n' = 3 * r' ∧ m' 0 13 = (r' : Int) ∧ r' ≤ 10) ∨ ∃ q : Nat, q ≤ 61 ∧ V = (q : Int) ∧ yM = .inr ((q : Int), m'))
theorem read_loops {L : Nat} : ∀ (k p r n : Nat) (s m : MI), 60 ≤ p + k → p ≤ 60 → 6 * r ≤ p → k + 3 ≤ n → TR L s m (3 * r) → m 0 14 = (p : Int) → m 0 13 = (r : Int) →
    ∃ y yM, sl_it (fun (t : Int × MI) => fText_read_l7 t.1 t.2) n ((p : Int), s) = some y ∧ sl_it (fun (t : Int × MI) => fModel_faultOf_l12 t.1 t.2) n (1, m) = some yM ∧ RDR L m y yM := by
  have full : ∀ (r n : Nat) (s m : MI), TR L s m (3 * r) → m 0 14 = ((60 : Nat) : Int) → m 0 13 = (r : Int) → 6 * r ≤ 60 →
      ∃ y yM, sl_it (fun (t : Int × MI) => fText_read_l7 t.1 t.2) (n + 1) (((60 : Nat) : Int), s) = some y ∧ sl_it (fun (t : Int × MI) => fModel_faultOf_l12 t.1 t.2) (n + 1) (1, m) = some yM ∧ RDR L m y yM := fun r n s m T h14 h13 hr => by
    have L60 := T.2.2.1
    refine ⟨.inl (((60 : Nat) : Int), s), .inr (((60 : Nat) : Int), m), it_end n ?_, it_end n ?_, ((60 : Nat) : Int), s, m, 3 * r, Or.inl rfl, T, ⟨fun _ _ _ => rfl, fun _ _ _ => rfl⟩, Or.inr ⟨60, by omega, rfl, rfl⟩⟩
    · dsimp only
      unfold fText_read_l7
      rw [tw (x := ((60 : Nat) : Int)) (by omega) (by omega), if_pos (by omega)]
    · dsimp only
      unfold fModel_faultOf_l12 fModel_reads
      rw [w1, if_neg n10, h14, sign_m T.2.1 L60 (by omega), Option.bind_some, if_neg (show ¬ 60 < L by omega), tw (x := -5) (by omega) (by omega), tw (x := 109) (by omega) (by omega), if_neg (show ¬ (-5 : Int) = 109 by omega), Option.bind_some]
      dsimp only
      rw [w0, if_pos rfl]
      unfold fModel_faultOf_j65_l12
      rw [h14]
  intro k
  induction k with
  | zero =>
    intro p r n s m hp p60 hr hn T h14 h13
    obtain ⟨n, rfl⟩ : ∃ n', n = n' + 1 := ⟨n - 1, by omega⟩
    have e : p = 60 := by omega
    subst e
    exact full r n s m T h14 h13 hr
  | succ k ih =>
    intro p r n s m hp p60 hr hn T h14 h13
    obtain ⟨n, rfl⟩ : ∃ n', n = n' + 2 := ⟨n - 2, by omega⟩
    by_cases z : p = 60
    · subst z
      exact full r (n + 1) s m T h14 h13 hr
    · have L60 := T.2.2.1
      have wp : sm_w (p : Int) = p := tw (by omega) (by omega)
      rcases three_eq T h14 h13 p60 hr with ⟨q, s', m', n', q61, c1, d1, T1, F1⟩ | ⟨q, s', m', hq, c1, T1, e14, e13, F1, d1⟩
      · refine ⟨.inr ((q : Int), s'), .inr ((q : Int), m'), it_end _ ?_, it_end _ d1, (q : Int), s', m', n', Or.inr rfl, T1, F1, Or.inr ⟨q, q61, rfl, rfl⟩⟩
        dsimp only
        unfold fText_read_l7
        rw [wp, if_neg (by omega), c1, Option.bind_some]
        rfl
      · have eC : fText_read_l7 (p : Int) s = if q < L then (if m' 5 q = 59 then some (.inl ((q : Int) + 1, s')) else some (.inr (.inr ((q : Int), s')))) else some (.inr (.inr (-1, s'))) := by
          unfold fText_read_l7
          rw [wp, if_neg (by omega), c1, Option.bind_some]
          show Option.bind (fText_signAt (q : Int) s') _ = _
          rw [sign_c T1.1 L60 (by omega), Option.bind_some]
          dsimp only
          rw [Option.bind_some]
          by_cases g : q < L
          · obtain ⟨g1, g2, g3⟩ := T1.2.2.2.1 q g
            rw [if_pos g, if_pos g, g1, tw (x := m' 5 q) (by omega) (by omega), if_neg (by omega)]
          · rw [if_neg g, if_neg g, tw (x := -1) (by omega) (by omega), if_pos rfl]
        have s14 : sm_up m' 0 13 ((r : Int) + 1) 0 14 = (q : Int) := by rw [up_j (by omega)]; exact e14
        have s7 : sm_up m' 0 13 ((r : Int) + 1) 0 7 = (L : Int) := by rw [up_j (by omega)]; exact T1.2.1
        have s5 : ∀ i, sm_up m' 0 13 ((r : Int) + 1) 5 i = m' 5 i := fun i => up_d (by omega)
        have FA : ∀ v : Int, FRM m (sm_up (sm_up m' 0 13 ((r : Int) + 1)) 0 14 v) := fun v => FRM_t F1 ⟨fun a x _ => by rw [up_D x, up_D x], fun j x y => by rw [up_j y, up_j x]⟩
        have TA : ∀ v : Int, TR L s' (sm_up (sm_up m' 0 13 ((r : Int) + 1)) 0 14 v) (3 * (r + 1)) := fun v => by
          have := TR_fr (m' := sm_up (sm_up m' 0 13 ((r : Int) + 1)) 0 14 v) T1 (fun a x => by rw [up_D x, up_D x]) (by rw [up_j (by omega), up_j (by omega)])
          rw [show 3 * (r + 1) = 3 * r + 3 by omega]
          exact this
        by_cases g : q < L
        · rw [if_neg (by omega)] at d1
          rw [if_pos g] at eC
          have g1 := (T1.2.2.2.1 q g).2
          have eM : fModel_faultOf_l12 1 m = if m' 5 q = 59 then some (.inl (1, sm_up (sm_up m' 0 13 ((r : Int) + 1)) 0 14 ((q : Int) + 1))) else some (.inr (.inr ((q : Int), sm_up m' 0 13 ((r : Int) + 1)))) := by
            rw [d1]
            unfold fModel_faultOf_j96_l12 fModel_faultOf_j119_l12 fModel_faultOf_j133_l12
            rw [w1, if_neg n10, s14, sign_m s7 L60 (by omega), Option.bind_some, if_pos g, s5, tw (x := m' 5 q) (by omega) (by omega), if_neg n10, Option.bind_some]
          by_cases e : m' 5 q = 59
          · rw [if_pos e] at eM eC
            obtain ⟨y, yM, y1, y2, V, s2, m2, n2, y3, y4, y5, y6⟩ := ih (q + 1) (r + 1) (n + 1) s' (sm_up (sm_up m' 0 13 ((r : Int) + 1)) 0 14 ((q : Int) + 1)) (by omega) (by omega) (by omega) (by omega) (TA _) (by rw [up_s]; push_cast; rfl) (by rw [up_j (by omega), up_s]; push_cast; rfl)
            refine ⟨y, yM, ?_, ?_, V, s2, m2, n2, y3, y4, FRM_t (FA _) y5, y6⟩
            · rw [it_go (s' := ((q : Int) + 1, s')) (n + 1) eC, show (q : Int) + 1 = ((q + 1 : Nat) : Int) by omega]
              exact y1
            · rw [it_go (s' := ((1 : Int), sm_up (sm_up m' 0 13 ((r : Int) + 1)) 0 14 ((q : Int) + 1))) (n + 1) eM]
              exact y2
          · rw [if_neg e] at eM eC
            refine ⟨_, _, it_end _ eC, it_end _ eM, (q : Int), s', sm_up m' 0 13 ((r : Int) + 1), 3 * r + 3, Or.inr rfl, TR_fr T1 (fun a x => up_D x) (up_j (by omega)), FRM_t F1 ⟨fun a x _ => up_D x, fun j x _ => up_j x⟩, Or.inr ⟨q, by omega, rfl, rfl⟩⟩
        · rw [if_pos (by omega)] at d1
          rw [if_neg g] at eC
          have eM : fModel_faultOf_l12 1 m = some (.inl (0, sm_up (sm_up m' 0 13 ((r : Int) + 1)) 0 14 ((q : Int) + 0))) := by
            rw [d1]
            unfold fModel_faultOf_j96_l12 fModel_faultOf_j119_l12 fModel_faultOf_j133_l12
            rw [w0, if_pos rfl, if_pos rfl, s14, Option.bind_some]
          refine ⟨.inr (-1, s'), .inl (sm_up (sm_up m' 0 13 ((r : Int) + 1)) 0 14 ((q : Int) + 0)), it_end _ eC, ?_, -1, s', _, 3 * (r + 1), Or.inr rfl, TA _, FA _, Or.inl ⟨rfl, rfl, r + 1, rfl, by rw [up_j (by omega), up_s]; push_cast; rfl, by omega⟩⟩
          rw [it_go (s' := ((0 : Int), sm_up (sm_up m' 0 13 ((r : Int) + 1)) 0 14 ((q : Int) + 0))) (n + 1) eM]
          refine it_end _ ?_
          dsimp only
          unfold fModel_faultOf_l12
          rw [w0, if_pos rfl]
theorem read_eq {L : Nat} {s m : MI} (t1 : s 0 1 = (L : Int)) (t2 : m 0 7 = (L : Int)) (t3 : L ≤ 60) (t4 : ∀ k, k < L → s 1 k = m 5 k ∧ 0 ≤ m 5 k ∧ m 5 k ≤ 65535) : ∃ (V : Int) (s' m' : MI) (n' : Nat), fText_read s = some (V, s') ∧ TR L s' m' n' ∧ FRM m m' ∧
    ((V = -1 ∧ fModel_faultOf m = some (-5, m') ∧ ∃ r' : Nat, n' = 3 * r' ∧ m' 0 13 = (r' : Int) ∧ r' ≤ 10) ∨ ∃ q : Nat, q ≤ 61 ∧ V = (q : Int) ∧ fModel_faultOf m = some ((q : Int), m')) := by
  have T0 : TR L (sm_up s 0 3 0) (sm_up (sm_up m 0 14 0) 0 13 0) (3 * 0) := ⟨by rw [up_j (by omega)]; exact t1, by rw [up_j (by omega), up_j (by omega)]; exact t2, t3, fun k hk => by rw [up_d (by omega), up_d (by omega), up_d (by omega)]; exact t4 k hk, up_s _ _ _ _, fun k hk => absurd hk (by omega)⟩
  obtain ⟨y, yM, y1, y2, V, s', m', n', y3, y4, y5, y6⟩ := read_loops 60 0 0 5000 _ _ (by omega) (by omega) (by omega) (by omega) T0 (by rw [up_j (by omega), up_s]; rfl) (up_s _ _ _ _)
  have y1' : sl_it (fun (t : Int × MI) => fText_read_l7 t.1 t.2) sl_fu (0, sm_up s 0 3 0) = some y := y1
  have y2' : sl_it (fun (t : Int × MI) => fModel_faultOf_l12 t.1 t.2) sl_fu (1, sm_up (sm_up m 0 14 0) 0 13 0) = some yM := y2
  refine ⟨V, s', m', n', ?_, y4, FRM_t ⟨fun a x _ => by rw [up_D x, up_D x], fun j x y => by rw [up_j x, up_j y]⟩ y5, ?_⟩
  · unfold fText_read
    rw [Option.bind_some, y1', Option.bind_some]
    rcases y3 with rfl | rfl
    · rfl
    · rfl
  · unfold fModel_faultOf
    rw [Option.bind_some, Option.bind_some, y2', Option.bind_some]
    rcases y6 with ⟨rfl, rfl, z⟩ | ⟨q, q1, rfl, rfl⟩
    · exact Or.inl ⟨rfl, rfl, z⟩
    · exact Or.inr ⟨q, q1, rfl, rfl⟩
