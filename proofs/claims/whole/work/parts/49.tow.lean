/-! ===== the end of a tow ===== -/
theorem it_l {S Y : Type} {f : S → Option (S ⊕ Y)} {n : Nat} {s s' : S} (h : f s = some (.inl s')) : sl_it f (n + 1) s = sl_it f n s' := by
  show (f s).bind _ = _
  rw [h]
  rfl
theorem it_r {S Y : Type} {f : S → Option (S ⊕ Y)} {n : Nat} {s : S} {y : Y} (h : f s = some (.inr y)) : sl_it f (n + 1) s = some y := by
  show (f s).bind _ = _
  rw [h]
  rfl
theorem w0 : sm_w 0 = 0 := by decide
theorem w1 : sm_w 1 = 1 := by decide
theorem w2 : sm_w 2 = 2 := by decide
theorem w3 : sm_w 3 = 3 := by decide
theorem wm5 : sm_w (-5) = -5 := by decide
theorem tow_stop (z1 z2 z3 z4 z5 z6 z7 z8 k : Int) (m : MI) : fModel_tows_l77 z1 z2 z3 z4 z5 z6 z7 z8 0 k m = some (.inr (z7, z8)) := by
  unfold fModel_tows_l77
  rw [w0, if_pos rfl]
  split <;> rfl
theorem tow_m {a b fr to k : Nat} {m : MI} {r v : Int} (z1 z2 z4 : Int) (hx : fr < 12) (hz : to < 12) (ha : a < 12) (hb : b < 12) (hk : k < 12) (eM : fModel_nextOn (a : Int) (to : Int) m = some (b : Int)) (r6 : m 6 (12 * a + b) = r) :
    fModel_tows_l77 z1 z2 (fr : Int) z4 (to : Int) ((fr / 4 : Nat) : Int) (a : Int) v 1 (k : Int) m = some (.inl (if b / 4 = fr / 4 then ((b : Int), v + r, (if b = to then 0 else 1), (k : Int) + 1) else if a = fr then ((b : Int), v + r, 0, (k : Int) + 1) else ((a : Int), v, 0, (k : Int) + 1))) := by
  have wk1 : sm_w (k : Int) = k := tw (by omega) (by omega)
  have wb : sm_w (b : Int) = b := tw (by omega) (by omega)
  have wa : sm_w (a : Int) = a := tw (by omega) (by omega)
  have wfr : sm_w (fr : Int) = fr := tw (by omega) (by omega)
  have wto : sm_w (to : Int) = to := tw (by omega) (by omega)
  have rgb := (region_eq hb).1
  have wrb : sm_w ((b / 4 : Nat) : Int) = ((b / 4 : Nat) : Int) := tw (by omega) (by omega)
  have wrf : sm_w ((fr / 4 : Nat) : Int) = ((fr / 4 : Nat) : Int) := tw (by omega) (by omega)
  have n10 : ¬ (1 : Int) = 0 := by omega
  have G : ∀ y0 : Option ((Int × Int × Int × Int) ⊕ (Int × Int)), (if 0 ≤ sm_w (12 * (a : Int) + (b : Int)) ∧ sm_w (12 * (a : Int) + (b : Int)) < 144 then y0 else none) = y0 := fun y0 => tg (by omega) (by omega) (by omega)
  have gt : (sm_w (12 * (a : Int) + (b : Int))).toNat = 12 * a + b := by rw [tn (by omega) (by omega)]; omega
  unfold fModel_tows_l77
  rw [wk1, if_neg (by omega), w1, if_neg n10, eM, Option.bind_some, rgb, Option.bind_some, wrb, wrf]
  have A : ((b / 4 : Nat) : Int) = ((fr / 4 : Nat) : Int) → fModel_tows_j115_l77 z1 z2 (fr : Int) z4 (to : Int) ((fr / 4 : Nat) : Int) (a : Int) v (k : Int) (b : Int) m = some (.inl ((b : Int), v + r, (if b = to then 0 else 1), (k : Int) + 1)) := fun q => by
    unfold fModel_tows_j115_l77 fModel_tows_j120_l77
    rw [w1, if_neg n10, G, gt, r6]
    unfold fModel_tows_j146_l77
    rw [rgb, Option.bind_some, wrb, wrf, if_pos q, wb, wto]
    by_cases z : b = to
    · rw [if_pos (by omega), if_pos z]
      unfold fModel_tows_j166_l77 fModel_tows_j171_l77
      rw [w1, if_neg n10]
      unfold fModel_tows_j185_l77
      rw [w1, if_neg n10, if_neg n10]
      rfl
    · rw [if_neg (by omega), if_neg z]
      unfold fModel_tows_j171_l77
      rw [w1, if_neg n10]
      unfold fModel_tows_j185_l77
      rw [w1, if_neg n10, w0, if_pos rfl]
      rfl
  have B : ¬ ((b / 4 : Nat) : Int) = ((fr / 4 : Nat) : Int) → fModel_tows_j115_l77 z1 z2 (fr : Int) z4 (to : Int) ((fr / 4 : Nat) : Int) (a : Int) v (k : Int) (b : Int) m = some (.inl ((b : Int), v + r, 0, (k : Int) + 1)) := fun q => by
    unfold fModel_tows_j115_l77 fModel_tows_j120_l77
    rw [w1, if_neg n10, G, gt, r6]
    unfold fModel_tows_j146_l77
    rw [rgb, Option.bind_some, wrb, wrf, if_neg q]
    unfold fModel_tows_j166_l77 fModel_tows_j171_l77
    rw [w1, if_neg n10]
    unfold fModel_tows_j185_l77
    rw [w1, if_neg n10, if_neg n10]
    rfl
  by_cases hreg : b / 4 = fr / 4
  · rw [if_pos (by omega), if_pos hreg]
    exact A (by omega)
  · rw [if_neg (by omega), if_neg hreg, wa, wfr]
    by_cases hs : a = fr
    · rw [if_pos (by omega), if_pos hs]
      exact B (by omega)
    · rw [if_neg (by omega), if_neg hs]
      unfold fModel_tows_j120_l77
      rw [w0, if_pos rfl]
      unfold fModel_tows_j146_l77
      rw [rgb, Option.bind_some, wrb, wrf, if_neg (by omega)]
      unfold fModel_tows_j166_l77 fModel_tows_j171_l77
      rw [w0, if_pos rfl]
      unfold fModel_tows_j185_l77
      rw [w0, if_pos rfl]
      unfold fModel_tows_j201_l77 fModel_tows_j202_l77
      rw [Int.add_zero]
theorem tow_c {a b fr to k : Nat} {S : MI} (hx : fr < 12) (ha : a < 12) (hb : b < 12) (hk : k < 12) :
    fWork_endOfTow_l13 (fr : Int) (to : Int) (a : Int) (b : Int) (k : Int) S = if b / 4 = fr / 4 then Option.bind (fMap_nextOnWay (b : Int) (to : Int) S) (fun p => some (.inl ((b : Int), p, (k : Int) + 1))) else if a = fr then some (.inr (.inr (b : Int))) else some (.inr (.inr (a : Int))) := by
  have wk1 : sm_w (k : Int) = k := tw (by omega) (by omega)
  have hk12 : ¬ (12 : Int) ≤ (k : Int) := by omega
  have wb : sm_w (b : Int) = b := tw (by omega) (by omega)
  have wa : sm_w (a : Int) = a := tw (by omega) (by omega)
  have wfr : sm_w (fr : Int) = fr := tw (by omega) (by omega)
  have nb5 : ¬ (b : Int) = -5 := by omega
  have rgb := (region_eq hb).2
  have rgf := (region_eq hx).2
  have wrb : sm_w ((b / 4 : Nat) : Int) = ((b / 4 : Nat) : Int) := tw (by omega) (by omega)
  have wrf : sm_w ((fr / 4 : Nat) : Int) = ((fr / 4 : Nat) : Int) := tw (by omega) (by omega)
  unfold fWork_endOfTow_l13
  simp only [wk1, hk12, if_false, wb, nb5, rgb, rgf, Option.bind_some, wrb, wrf, wa, wfr]
  by_cases hreg : b / 4 = fr / 4
  · rw [if_pos (by omega), if_pos hreg]
  · rw [if_neg (by omega), if_neg hreg]
    by_cases hs : a = fr
    · rw [if_pos (by omega), if_pos hs]
    · rw [if_neg (by omega), if_neg hs]
theorem tow_it {s m : MI} (h : wk s m) {fr to : Nat} (hx : fr < 12) (hz : to < 12) (hf : d2 m fr to < 100000) (z1 z2 z4 : Int) : ∀ (j a k : Nat) (nx : Int), k + j = 12 → a < 12 → a / 4 = fr / 4 → d2 m fr a + d2 m a to = d2 m fr to → d2 m fr a < 100000 → fMap_nextOnWay (a : Int) (to : Int) (sm_lo 1 s) = some nx → ∀ n1 n2, j + 2 ≤ n1 → j + 2 ≤ n2 →
    ∃ e : Nat, e < 12 ∧ d2 m fr e < 100000 ∧ (∃ y : Int ⊕ Int, sl_it (fun (t : Int × Int × Int) => fWork_endOfTow_l13 (fr : Int) (to : Int) t.1 t.2.1 t.2.2 (sm_lo 1 s)) n1 ((a : Int), nx, (k : Int)) = some y ∧ (y = .inl (e : Int) ∨ y = .inr (e : Int))) ∧
      sl_it (fun (t : Int × Int × Int × Int) => fModel_tows_l77 z1 z2 (fr : Int) z4 (to : Int) ((fr / 4 : Nat) : Int) t.1 t.2.1 t.2.2.1 t.2.2.2 m) n2 ((a : Int), d2 m fr a, (if a = to then 0 else 1), (k : Int)) = some ((e : Int), d2 m fr e) := by
  intro j
  induction j with
  | zero =>
    intro a k nx hk ha hr hd hda hn n1 n2 h1 h2
    obtain ⟨n1, rfl⟩ : ∃ n, n1 = n + 1 := ⟨n1 - 1, by omega⟩
    obtain ⟨n2, rfl⟩ : ∃ n, n2 = n + 1 := ⟨n2 - 1, by omega⟩
    refine ⟨a, ha, hda, ⟨.inl (a : Int), it_r ?_, Or.inl rfl⟩, it_r ?_⟩
    · unfold fWork_endOfTow_l13
      rw [tw (x := (k : Int)) (by omega) (by omega), if_pos (by omega)]
    · unfold fModel_tows_l77
      rw [tw (x := (k : Int)) (by omega) (by omega), if_pos (by omega)]
  | succ j ih =>
    intro a k nx hk ha hr hd hda hn n1 n2 h1 h2
    obtain ⟨n1, rfl⟩ : ∃ n, n1 = n + 1 := ⟨n1 - 1, by omega⟩
    obtain ⟨n2, rfl⟩ : ∃ n, n2 = n + 1 := ⟨n2 - 1, by omega⟩
    by_cases q : a = to
    · subst q
      have hnx : nx = -5 := by
        rw [next_end h hz] at hn
        exact (Option.some.inj hn).symm
      subst hnx
      rw [if_pos rfl]
      refine ⟨a, ha, hda, ⟨.inl (a : Int), it_r ?_, Or.inl rfl⟩, it_r (tow_stop _ _ _ _ _ _ _ _ _ _)⟩
      unfold fWork_endOfTow_l13
      rw [tw (x := (k : Int)) (by omega) (by omega), if_neg (by omega), wm5, if_pos rfl]
    · have ba := wk_D h ha hz
      have bf := wk_D h hx hz
      have bfa := wk_D h hx ha
      obtain ⟨b, hb, eM, eC, r0, rs⟩ := next_eq h ha hz q (by omega)
      have hnx : nx = (b : Int) := by
        rw [eC] at hn
        exact (Option.some.inj hn).symm
      subst hnx
      rw [if_neg q]
      have bb := wk_D h hb hz
      have rb := rd_le h.2.2 a b
      have t1 := wk_tri h hx ha hb (by omega)
      have t2 := wk_rd h ha hb r0
      have t3 := wk_tri h hx hb hz (by omega)
      have bfa := wk_D h hx ha
      have hbd : d2 m fr b = d2 m fr a + rd (m 1) a b := by omega
      have r6 : m 6 (12 * a + b) = rd (m 1) a b := by
        rw [h.2.1.1 a b ha hb, if_neg (by omega)]
      have mm := tow_m (fr := fr) (v := d2 m fr a) z1 z2 z4 hx hz ha hb (show k < 12 by omega) eM r6
      have cc := tow_c (fr := fr) (to := to) (S := sm_lo 1 s) hx ha hb (show k < 12 by omega)
      rw [← hbd] at mm
      have hfb : d2 m fr b < 100000 := by omega
      have hbt : d2 m fr b + d2 m b to = d2 m fr to := by omega
      by_cases hreg : b / 4 = fr / 4
      · rw [if_pos hreg] at mm cc
        obtain ⟨nx', hnx'⟩ : ∃ nx', fMap_nextOnWay (b : Int) (to : Int) (sm_lo 1 s) = some nx' := by
          by_cases z : b = to
          · subst z; exact ⟨_, next_end h hz⟩
          · obtain ⟨w, _, _, e, _⟩ := next_eq h hb hz z (by omega)
            exact ⟨_, e⟩
        rw [hnx', Option.bind_some] at cc
        obtain ⟨e, he, hde, ⟨y, hy, hye⟩, hm⟩ := ih b (k + 1) nx' (by omega) hb hreg hbt hfb hnx' n1 n2 (by omega) (by omega)
        exact ⟨e, he, hde, ⟨y, (it_l cc).trans hy, hye⟩, (it_l mm).trans hm⟩
      · rw [if_neg hreg] at mm cc
        obtain ⟨n2, rfl⟩ : ∃ n, n2 = n + 1 := ⟨n2 - 1, by omega⟩
        by_cases hs : a = fr
        · rw [if_pos hs] at mm cc
          exact ⟨b, hb, hfb, ⟨.inr (b : Int), it_r cc, Or.inr rfl⟩, (it_l mm).trans (it_r (tow_stop _ _ _ _ _ _ _ _ _ _))⟩
        · rw [if_neg hs] at mm cc
          exact ⟨a, ha, hda, ⟨.inr (a : Int), it_r cc, Or.inr rfl⟩, (it_l mm).trans (it_r (tow_stop _ _ _ _ _ _ _ _ _ _))⟩
/-- the end of a tow: the class's function, and the model's loop -/
theorem tow_eq {s m : MI} (h : wk s m) {fr to : Nat} (hx : fr < 12) (hz : to < 12) (hf : d2 m fr to < 100000) (z1 z2 z4 : Int) : ∃ e : Nat, e < 12 ∧ d2 m fr e < 100000 ∧ fWork_endOfTow (fr : Int) (to : Int) (sm_lo 1 s) = some (e : Int) ∧
    sl_it (fun (t : Int × Int × Int × Int) => fModel_tows_l77 z1 z2 (fr : Int) z4 (to : Int) ((fr / 4 : Nat) : Int) t.1 t.2.1 t.2.2.1 t.2.2.2 m) sl_fu ((fr : Int), 0, (if fr = to then 0 else 1), 0) = some ((e : Int), d2 m fr e) := by
  have z0 : d2 m fr fr = 0 := h.2.1.2.1 fr hx
  obtain ⟨nx, hnx⟩ : ∃ nx', fMap_nextOnWay (fr : Int) (to : Int) (sm_lo 1 s) = some nx' := by
    by_cases z : fr = to
    · subst z; exact ⟨_, next_end h hx⟩
    · obtain ⟨w, _, _, e, _⟩ := next_eq h hx hz z hf
      exact ⟨_, e⟩
  obtain ⟨e, he, hde, ⟨y, hy, hye⟩, hm⟩ := tow_it h hx hz hf z1 z2 z4 12 fr 0 nx (by omega) hx rfl (by omega) (by omega) hnx sl_fu sl_fu (by show 12 + 2 ≤ 5000; omega) (by show 12 + 2 ≤ 5000; omega)
  refine ⟨e, he, hde, ?_, ?_⟩
  · unfold fWork_endOfTow
    rw [hnx, Option.bind_some]
    rw [show (0 : Int) = ((0 : Nat) : Int) from rfl, hy, Option.bind_some]
    rcases hye with rfl | rfl <;> rfl
  · rw [z0] at hm
    exact hm
