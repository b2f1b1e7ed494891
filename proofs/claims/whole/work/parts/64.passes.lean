/-! ===== all turns of the row; a whole minute ===== -/
abbrev sameR (m m' : MI) : Prop := (∀ d, ¬ d = 1 → ¬ d = 8 → ¬ d = 0 → m' d = m d) ∧ (∀ i, ¬ i = 11 → m' 0 i = m 0 i) ∧ ∀ i, i < 10 → m' 1 i = m 1 i
theorem sends_eq {s m : MI} (h : RS s (m 1)) (hw : wk s m) : ∃ s' m', fWork_sendPatrols s = some s' ∧ fModel_sends m = some m' ∧ RS s' (m' 1) ∧ wk s' m' ∧ sameR m m' ∧ dn (m' 1) = dn (m 1) := by
  obtain ⟨f, s0, m0, hf, eC, eM, e11, ⟨d1, d2', d3⟩, ent, inj⟩ := row_eq h hw
  have m01 : m0 1 = m 1 := d2' 1 (by omega) (by omega)
  have h0 : RS s0 (m0 1) := by rw [m01]; exact RS_d h d1
  have hw0 : wk s0 m0 := wk_d hw d1 d2'
  have S9 : 0 ≤ m 1 9 ∧ m 1 9 ≤ 40 := h.2.2.2.2.2.2.1.2.2.2.2.2.2
  obtain ⟨s', m', e1, e2, q1, q2, q3, q4⟩ := it_two (f := fun (t : Int × MI) => fWork_sendPatrols_l7 (f : Int) t.1 t.2) (g := fun (t : Int × MI) => fModel_sends_l6 t.1 t.2)
    (fun t u => ∃ k : Nat, k ≤ f ∧ t.1 = (k : Int) ∧ u.1 = (k : Int) ∧ RS t.2 (u.2 1) ∧ wk t.2 u.2 ∧ same m0 u.2 ∧ t.2 9 = s0 9 ∧ (∀ j, k ≤ j → j < f → ∃ o : Nat, ((o : Int) < m 1 9 ∧ wt (u.2 1) o = 1) ∧ s0 9 j = (o : Int) ∧ m0 8 j = (o : Int)) ∧ dn (u.2 1) = dn (m 1))
    (fun y z => RS y (z 1) ∧ wk y z ∧ same m0 z ∧ dn (z 1) = dn (m 1)) (fun t => (40 - t.1).toNat) (fun t u hR => by
    obtain ⟨k0, s1⟩ := t
    obtain ⟨k1, m1⟩ := u
    obtain ⟨k, hk, h1, h2, h3, h4, h5, h6, h7, h8⟩ := hR
    dsimp only at h1 h2 h3 h4 h5 h6 h7 h8 ⊢
    subst h1
    subst h2
    have wk' : sm_w (k : Int) = k := tw (by omega) (by omega)
    have wf : sm_w (f : Int) = f := tw (by omega) (by omega)
    have e11' : m1 0 11 = (f : Int) := by rw [h5.1 0 (by omega)]; exact e11
    by_cases z : k = f
    · right
      refine ⟨s1, m1, ?_, ?_, h3, h4, h5, h8⟩
      · unfold fWork_sendPatrols_l7
        rw [wk', wf, if_pos (by omega)]
      · unfold fModel_sends_l6
        rw [wk', e11', wf, if_pos (by omega)]
    · left
      obtain ⟨o, ⟨o1, o2⟩, o3, o4⟩ := h7 k (by omega) (by omega)
      have n9 : m1 1 9 = m 1 9 := by rw [h5.2 9 (by omega), m01]
      obtain ⟨s2, m2, x1, x2, x3, x4, x5, x6, x7, x8⟩ := send_eq h3 h4 (k := k) (f := f) (by omega) hf (by rw [n9]; exact o1) o2 (by rw [h6]; exact o3) (by rw [h5.1 8 (by omega)]; exact o4) e11'
      refine ⟨_, _, x1, x2, ⟨k + 1, by omega, by push_cast; rfl, by push_cast; rfl, x3, x4, same_trans h5 x5, x7.trans h6, fun j hj hj' => ?_, by dsimp only; omega⟩, by dsimp only; omega⟩
      obtain ⟨o', ⟨y1, y2⟩, y3, y4⟩ := h7 j (by omega) hj'
      have hne : ¬ o' = o := fun e => by
        have := inj j k hj' (by omega) (by rw [y3, o3, e])
        omega
      refine ⟨o', ⟨y1, ?_⟩, y3, y4⟩
      dsimp only
      unfold wt at y2 ⊢
      rw [x6 o' (by omega) hne]
      exact y2) sl_fu (0, s0) (0, m0) ⟨0, by omega, rfl, rfl, h0, hw0, ⟨fun _ _ => rfl, fun _ _ => rfl⟩, rfl, fun j _ hj => by
        obtain ⟨o, ⟨o1, o2⟩, o3, o4⟩ := ent j hj
        exact ⟨o, ⟨o1, by dsimp only; rw [m01]; exact o2⟩, o3, o4⟩, by dsimp only; rw [m01]⟩ (by show (40 - (0 : Int)).toNat < 5000; omega)
  refine ⟨s', m', ?_, ?_, q1, q2, ⟨fun d a b c => (q3.1 d a).trans (d2' d b c), fun i a => ?_, fun i a => (q3.2 i a).trans (by rw [m01])⟩, q4⟩
  · unfold fWork_sendPatrols
    rw [eC, Option.bind_some]
    dsimp only
    rw [e1]
    rfl
  · unfold fModel_sends
    rw [eM, Option.bind_some, e2]
    rfl
  · rw [q3.1 0 (by omega)]
    exact d3 i a
/-- the clock goes on -/
theorem cI_min {nm np mi : Int} {t : Nat → Int} (h : cI nm np mi t) : cI nm np (mi + 1) t := by
  obtain ⟨a, b, c, d, e, f, g⟩ := h
  refine ⟨a, b, c, d, by omega, f, ?_⟩
  unfold cS at g ⊢
  rcases g with g | g | g | g | g | g
  · exact Or.inl g
  · exact Or.inr (Or.inl g)
  · exact Or.inr (Or.inr (Or.inl g))
  · exact Or.inr (Or.inr (Or.inr (Or.inl g)))
  · exact Or.inr (Or.inr (Or.inr (Or.inr (Or.inl ⟨g.1, g.2.1, g.2.2.1, g.2.2.2.1, by omega⟩))))
  · exact Or.inr (Or.inr (Or.inr (Or.inr (Or.inr ⟨g.1, g.2.1, g.2.2.1, by omega, g.2.2.2.2.1, g.2.2.2.2.2⟩))))
theorem clock_eq {s m : MI} (h : RS s (m 1)) (hw : wk s m) (hm : m 1 0 < 2880) : RS (sm_up s 0 11 (s 0 11 + 1)) (mS m 0 (m 1 0 + 1) 1) ∧ wk (sm_up s 0 11 (s 0 11 + 1)) (mS m 0 (m 1 0 + 1)) ∧ dn (mS m 0 (m 1 0 + 1) 1) = dn (m 1) := by
  have n0 : mS m 0 (m 1 0 + 1) 1 0 = m 1 0 + 1 := s_mS m 0 _
  have nn : ∀ i, ¬ i = 0 → mS m 0 (m 1 0 + 1) 1 i = m 1 i := fun i e => n_mS e
  have ep : ∀ p, vP (mS m 0 (m 1 0 + 1) 1) p = vP (m 1) p := fun p => vP_mS (by omega)
  have ec : ∀ p, vC (mS m 0 (m 1 0 + 1) 1) p = vC (m 1) p := fun p => vC_mS (by omega)
  have eg : ∀ p, vG (mS m 0 (m 1 0 + 1) 1) p = vG (m 1) p := fun p => vG_mS (by omega)
  have em : ∀ p, vM (mS m 0 (m 1 0 + 1) 1) p = vM (m 1) p := fun p => vM_mS (by omega)
  obtain ⟨a1, a2, a3, a4, a5, a6, b1, b2, b3, b4, b5, b6, b7, b8, b9⟩ := h
  have e0 : ∀ j, ¬ j = 11 → sm_up s 0 11 (s 0 11 + 1) 0 j = s 0 j := fun j e => up_j e
  have eD : ∀ d, ¬ d = 0 → sm_up s 0 11 (s 0 11 + 1) d = s d := fun d e => up_D e
  have hr : rd (mS m 0 (m 1 0 + 1) 1) = rd (m 1) := rd_nu (nn 5 (by omega)) b2.2.1 (fun i a _ => nn i (by omega))
  have hro : rOK (mS m 0 (m 1 0 + 1) 1) := rOK_nu (nn 5 (by omega)) (fun i a _ => nn i (by omega)) b2
  have hu : ∀ g, uw (mS m 0 (m 1 0 + 1) 1) g = uw (m 1) g := fun g => by
    unfold uw
    rw [nn 7 (by omega)]
    exact sumN_eq _ (fun k _ => by rw [ep k])
  have htc : ∀ c, tierC (mS m 0 (m 1 0 + 1) 1) c = tierC (m 1) c := fun c => by
    unfold tierC
    rw [ec c, nn _ (by omega)]
  refine ⟨⟨?_, ?_, ?_, ?_, ?_, ?_, ?_, hro, ?_, ?_, ?_, ?_, ?_, ?_, ?_⟩, ⟨?_, ?_, hro⟩, ?_⟩
  · obtain ⟨x1, x2, x3, x4, x5, x6, x7, x8⟩ := a1
    unfold sR
    rw [e0 2 (by omega), e0 4 (by omega), e0 6 (by omega), e0 8 (by omega), e0 10 (by omega), up_s, eD 8 (by omega), eD 1 (by omega), nn 6 (by omega), nn 7 (by omega), nn 8 (by omega), nn 9 (by omega), nn 1 (by omega), nn 2 (by omega), nn 3 (by omega), nn 4 (by omega), nn 5 (by omega), n0]
    exact ⟨x1, x2, x3, x4, x5, by omega, x7, x8⟩
  · unfold mR
    rw [eD 2 (by omega), eD 3 (by omega), hr]
    exact a2
  · rw [eD 4 (by omega), nn 6 (by omega)]
    intro k hk
    rw [em k]
    exact a3 k hk
  · rw [nn 7 (by omega)]
    intro p hp
    rw [eD (10 + p) (by omega), ep p]
    exact a4 p hp
  · rw [nn 8 (by omega)]
    intro g hg
    rw [eD (16 + g) (by omega), eg g, hu g]
    exact a5 g hg
  · rw [nn 9 (by omega)]
    intro c hc
    rw [eD (21 + c) (by omega), ec c]
    exact a6 c hc
  · unfold nS at b1 ⊢
    rw [n0, nn 1 (by omega), nn 2 (by omega), nn 3 (by omega), nn 4 (by omega), nn 6 (by omega), nn 7 (by omega), nn 8 (by omega), nn 9 (by omega)]
    exact ⟨by omega, b1.2⟩
  · intro k hk
    rw [nn 6 (by omega)] at hk
    rw [em k]
    exact b3 k hk
  · intro p hp
    rw [nn 7 (by omega)] at hp
    rw [nn 9 (by omega), nn 8 (by omega), ep p]
    exact b4 p hp
  · intro g hg
    rw [nn 8 (by omega)] at hg
    rw [eg g, hu g]
    exact b5 g hg
  · intro c hc
    rw [nn 9 (by omega)] at hc
    rw [nn 6 (by omega), nn 7 (by omega), n0, ec c]
    exact cI_min (b6 c hc)
  · constructor
    · intro p hp h5
      rw [nn 7 (by omega)] at hp
      rw [ep p] at h5 ⊢
      rw [ec]
      exact b7.1 p hp h5
    · intro c hc h6
      rw [nn 9 (by omega)] at hc
      rw [ec c] at h6 ⊢
      rw [ep]
      exact b7.2 c hc h6
  · obtain ⟨u1, u2, u3, u4⟩ := b8
    refine ⟨?_, ?_, ?_, fun k hk => ?_⟩
    · rw [nn 10 (by omega), nn 9 (by omega), u1]
      exact (sumN_eq _ (fun c _ => by rw [htc c, ec c])).symm
    · rw [nn 11 (by omega), nn 9 (by omega), u2]
      exact (sumN_eq _ (fun c _ => by rw [ec c])).symm
    · rw [nn 12 (by omega), nn 9 (by omega), u3]
      exact (sumN_eq _ (fun c _ => by rw [ec c])).symm
    · rw [nn 6 (by omega)] at hk
      obtain ⟨v1, v2, v3⟩ := u4 k hk
      rw [em k, nn 9 (by omega)]
      exact ⟨v1.trans (sumN_eq _ (fun c _ => by rw [htc c, ec c])).symm, v2.trans (sumN_eq _ (fun c _ => by rw [ec c])).symm, v3.trans (sumN_eq _ (fun c _ => by rw [ec c])).symm⟩
  · refine ⟨fun k hk h6 => ?_, fun p hp h7 => ?_, fun g hg h8 => ?_⟩
    · rw [nn 6 (by omega)] at h6
      rw [em k]
      exact b9.1 k hk h6
    · rw [nn 7 (by omega)] at h7
      rw [ep p]
      exact b9.2.1 p hp h7
    · rw [nn 8 (by omega)] at h8
      rw [eg g]
      exact b9.2.2 g hg h8
  · unfold mR
    rw [eD 2 (by omega), eD 3 (by omega), hr]
    exact hw.1
  · unfold wOK
    rw [hr, mS_D (by omega : ¬ 6 = 1), mS_D (by omega : ¬ 7 = 1)]
    exact hw.2.1
  · show d5 _ 5 + d5 _ 6 = d5 _ 5 + d5 _ 6
    unfold d5
    rw [nn 9 (by omega)]
    rw [sumN_eq (f := fun c => if vC (mS m 0 (m 1 0 + 1) 1) c 5 = 5 then 1 else 0) (g := fun c => if vC (m 1) c 5 = 5 then 1 else 0) _ (fun c _ => by rw [ec c]), sumN_eq (f := fun c => if vC (mS m 0 (m 1 0 + 1) 1) c 5 = 6 then 1 else 0) (g := fun c => if vC (m 1) c 5 = 6 then 1 else 0) _ (fun c _ => by rw [ec c])]
/-- a whole minute -/
theorem minute_eq {s m : MI} (h : RS s (m 1)) (hw : wk s m) (hm : m 1 0 < 2880) : ∃ k s' m', fWork_passMinute s = some (k, s') ∧ fModel_passes m = some m' ∧ RS s' (m' 1) ∧ wk s' m' ∧ (0 ≤ k ∧ k ≤ 6) ∧ dn (m' 1) = dn (m 1) + k ∧ m' 1 0 = m 1 0 + 1 ∧ (∀ d, ¬ d = 1 → ¬ d = 8 → ¬ d = 0 → m' d = m d) ∧ (∀ i, ¬ i = 11 → m' 0 i = m 0 i) := by
  obtain ⟨k, s1, m1, x1, x2, x3, x4, x5, x6, x7⟩ := patrols_eq h hw
  obtain ⟨s2, m2, y1, y2, y3, y4, y5, y6⟩ := sends_eq x3 x4
  have n0 : m2 1 0 = m 1 0 := (y5.2.2 0 (by omega)).trans (x5.2 0 (by omega))
  obtain ⟨z1, z2, z3⟩ := clock_eq y3 y4 (by omega)
  refine ⟨k, _, _, ?_, ?_, z1, z2, x6, by omega, ?_, fun d a b c => ?_, fun i a => ?_⟩
  · unfold fWork_passMinute
    rw [x1, Option.bind_some]
    unfold fWork_passMinute_j44
    rw [y1]
    rfl
  · unfold fModel_passes
    rw [x2, Option.bind_some, y2, Option.bind_some]
    rfl
  · rw [s_mS, n0]
  · rw [mS_D a]
    exact (y5.1 d a b c).trans (x5.1 d a)
  · rw [mS_D (by omega : ¬ 0 = 1)]
    exact (y5.2.1 i a).trans (by rw [x5.1 0 (by omega)])
