/-! ===== the loop of the law ===== -/
theorem law_step {G : GT} {E2 : ET} {ro : Nat → Nat} {d m mB : MI} {i L : Nat} (x : Int) (gd : gD E2 3) (gl : gL E2 435) (gk : gK E2 mB) (hz : E2.sz = 445) (hs : E2.sh 0 = (20, L)) (hL : L ≤ 2048) (hi : i + 3 < L) (hx : ∀ j, i32 (mB 0 j)) (hD : DM d ro m) :
    ∃ d' ro' m', DM d' ro' m' ∧ ∀ r, sM (xLaw G) 958 (lvL i) [] (eD E2 3 ro') (memL d' m' mB) r → sM (xLaw G) 32 (lvL i) [.inl x] (eD E2 3 ro) (memL d m mB) r := by
  by_cases c0 : sm_w x = 0
  · obtain ⟨d', ro', m', h1, h2⟩ := law_c0 (G := G) gd gl gk hz hs hL hi hx hD
    exact ⟨d', ro', m', h1, fun r kk => sm_table dL_law_32 160 (Or.inr ⟨⟨by omega, by omega⟩, 128, by rw [c0]; rfl, rfl⟩) (h2 r kk)⟩
  by_cases c1 : sm_w x = 1
  · obtain ⟨d', ro', m', h1, h2⟩ := law_c1 (G := G) gd gl gk hz hs hL hi hx hD
    exact ⟨d', ro', m', h1, fun r kk => sm_table dL_law_32 203 (Or.inr ⟨⟨by omega, by omega⟩, 171, by rw [c1]; rfl, rfl⟩) (h2 r kk)⟩
  by_cases c2 : sm_w x = 2
  · obtain ⟨d', ro', m', h1, h2⟩ := law_c2 (G := G) gd gl gk hz hs hL hi hx hD
    exact ⟨d', ro', m', h1, fun r kk => sm_table dL_law_32 226 (Or.inr ⟨⟨by omega, by omega⟩, 194, by rw [c2]; rfl, rfl⟩) (h2 r kk)⟩
  by_cases c3 : sm_w x = 3
  · obtain ⟨d', ro', m', h1, h2⟩ := law_c3 (G := G) gd gl gk hz hs hL hi hx hD
    exact ⟨d', ro', m', h1, fun r kk => sm_table dL_law_32 285 (Or.inr ⟨⟨by omega, by omega⟩, 253, by rw [c3]; rfl, rfl⟩) (h2 r kk)⟩
  by_cases c4 : sm_w x = 4
  · obtain ⟨d', ro', m', h1, h2⟩ := law_c4 (G := G) gd gl gk hz hs hL hi hx hD
    exact ⟨d', ro', m', h1, fun r kk => sm_table dL_law_32 318 (Or.inr ⟨⟨by omega, by omega⟩, 286, by rw [c4]; rfl, rfl⟩) (h2 r kk)⟩
  by_cases c5 : sm_w x = 5
  · obtain ⟨d', ro', m', h1, h2⟩ := law_c5 (G := G) gd gl gk hz hs hL hi hx hD
    exact ⟨d', ro', m', h1, fun r kk => sm_table dL_law_32 351 (Or.inr ⟨⟨by omega, by omega⟩, 319, by rw [c5]; rfl, rfl⟩) (h2 r kk)⟩
  by_cases c6 : sm_w x = 6
  · obtain ⟨d', ro', m', h1, h2⟩ := law_c6 (G := G) gd gl gk hz hs hL hi hx hD
    exact ⟨d', ro', m', h1, fun r kk => sm_table dL_law_32 374 (Or.inr ⟨⟨by omega, by omega⟩, 342, by rw [c6]; rfl, rfl⟩) (h2 r kk)⟩
  by_cases c7 : sm_w x = 7
  · obtain ⟨d', ro', m', h1, h2⟩ := law_c7 (G := G) gd gl gk hz hs hL hi hx hD
    exact ⟨d', ro', m', h1, fun r kk => sm_table dL_law_32 417 (Or.inr ⟨⟨by omega, by omega⟩, 385, by rw [c7]; rfl, rfl⟩) (h2 r kk)⟩
  by_cases c8 : sm_w x = 8
  · obtain ⟨d', ro', m', h1, h2⟩ := law_c8 (G := G) gd gl gk hz hs hL hi hx hD
    exact ⟨d', ro', m', h1, fun r kk => sm_table dL_law_32 440 (Or.inr ⟨⟨by omega, by omega⟩, 408, by rw [c8]; rfl, rfl⟩) (h2 r kk)⟩
  by_cases c9 : sm_w x = 9
  · obtain ⟨d', ro', m', h1, h2⟩ := law_c9 (G := G) gd gl gk hz hs hL hi hx hD
    exact ⟨d', ro', m', h1, fun r kk => sm_table dL_law_32 489 (Or.inr ⟨⟨by omega, by omega⟩, 457, by rw [c9]; rfl, rfl⟩) (h2 r kk)⟩
  by_cases c10 : sm_w x = 10
  · obtain ⟨d', ro', m', h1, h2⟩ := law_c10 (G := G) gd gl gk hz hs hL hi hx hD
    exact ⟨d', ro', m', h1, fun r kk => sm_table dL_law_32 512 (Or.inr ⟨⟨by omega, by omega⟩, 480, by rw [c10]; rfl, rfl⟩) (h2 r kk)⟩
  by_cases c11 : sm_w x = 11
  · obtain ⟨d', ro', m', h1, h2⟩ := law_c11 (G := G) gd gl gk hz hs hL hi hx hD
    exact ⟨d', ro', m', h1, fun r kk => sm_table dL_law_32 545 (Or.inr ⟨⟨by omega, by omega⟩, 513, by rw [c11]; rfl, rfl⟩) (h2 r kk)⟩
  by_cases c12 : sm_w x = 12
  · obtain ⟨d', ro', m', h1, h2⟩ := law_c12 (G := G) gd gl gk hz hs hL hi hx hD
    exact ⟨d', ro', m', h1, fun r kk => sm_table dL_law_32 568 (Or.inr ⟨⟨by omega, by omega⟩, 536, by rw [c12]; rfl, rfl⟩) (h2 r kk)⟩
  by_cases c13 : sm_w x = 13
  · obtain ⟨d', ro', m', h1, h2⟩ := law_c13 (G := G) gd gl gk hz hs hL hi hx hD
    exact ⟨d', ro', m', h1, fun r kk => sm_table dL_law_32 593 (Or.inr ⟨⟨by omega, by omega⟩, 561, by rw [c13]; rfl, rfl⟩) (h2 r kk)⟩
  by_cases c14 : sm_w x = 14
  · obtain ⟨d', ro', m', h1, h2⟩ := law_c14 (G := G) gd gl gk hz hs hL hi hx hD
    exact ⟨d', ro', m', h1, fun r kk => sm_table dL_law_32 606 (Or.inr ⟨⟨by omega, by omega⟩, 574, by rw [c14]; rfl, rfl⟩) (h2 r kk)⟩
  by_cases c15 : sm_w x = 15
  · obtain ⟨d', ro', m', h1, h2⟩ := law_c15 (G := G) gd gl gk hz hs hL hi hx hD
    exact ⟨d', ro', m', h1, fun r kk => sm_table dL_law_32 619 (Or.inr ⟨⟨by omega, by omega⟩, 587, by rw [c15]; rfl, rfl⟩) (h2 r kk)⟩
  by_cases c16 : sm_w x = 16
  · obtain ⟨d', ro', m', h1, h2⟩ := law_c16 (G := G) gd gl gk hz hs hL hi hx hD
    exact ⟨d', ro', m', h1, fun r kk => sm_table dL_law_32 632 (Or.inr ⟨⟨by omega, by omega⟩, 600, by rw [c16]; rfl, rfl⟩) (h2 r kk)⟩
  by_cases c17 : sm_w x = 17
  · obtain ⟨d', ro', m', h1, h2⟩ := law_c17 (G := G) gd gl gk hz hs hL hi hx hD
    exact ⟨d', ro', m', h1, fun r kk => sm_table dL_law_32 645 (Or.inr ⟨⟨by omega, by omega⟩, 613, by rw [c17]; rfl, rfl⟩) (h2 r kk)⟩
  by_cases c18 : sm_w x = 18
  · obtain ⟨d', ro', m', h1, h2⟩ := law_c18 (G := G) gd gl gk hz hs hL hi hx hD
    exact ⟨d', ro', m', h1, fun r kk => sm_table dL_law_32 658 (Or.inr ⟨⟨by omega, by omega⟩, 626, by rw [c18]; rfl, rfl⟩) (h2 r kk)⟩
  by_cases c19 : sm_w x = 19
  · obtain ⟨d', ro', m', h1, h2⟩ := law_c19 (G := G) gd gl gk hz hs hL hi hx hD
    exact ⟨d', ro', m', h1, fun r kk => sm_table dL_law_32 691 (Or.inr ⟨⟨by omega, by omega⟩, 659, by rw [c19]; rfl, rfl⟩) (h2 r kk)⟩
  by_cases c20 : sm_w x = 20
  · obtain ⟨d', ro', m', h1, h2⟩ := law_c20 (G := G) gd gl gk hz hs hL hi hx hD
    exact ⟨d', ro', m', h1, fun r kk => sm_table dL_law_32 734 (Or.inr ⟨⟨by omega, by omega⟩, 702, by rw [c20]; rfl, rfl⟩) (h2 r kk)⟩
  by_cases c21 : sm_w x = 21
  · obtain ⟨d', ro', m', h1, h2⟩ := law_c21 (G := G) gd gl gk hz hs hL hi hx hD
    exact ⟨d', ro', m', h1, fun r kk => sm_table dL_law_32 767 (Or.inr ⟨⟨by omega, by omega⟩, 735, by rw [c21]; rfl, rfl⟩) (h2 r kk)⟩
  by_cases c22 : sm_w x = 22
  · obtain ⟨d', ro', m', h1, h2⟩ := law_c22 (G := G) gd gl gk hz hs hL hi hx hD
    exact ⟨d', ro', m', h1, fun r kk => sm_table dL_law_32 800 (Or.inr ⟨⟨by omega, by omega⟩, 768, by rw [c22]; rfl, rfl⟩) (h2 r kk)⟩
  by_cases c23 : sm_w x = 23
  · obtain ⟨d', ro', m', h1, h2⟩ := law_c23 (G := G) gd gl gk hz hs hL hi hx hD
    exact ⟨d', ro', m', h1, fun r kk => sm_table dL_law_32 833 (Or.inr ⟨⟨by omega, by omega⟩, 801, by rw [c23]; rfl, rfl⟩) (h2 r kk)⟩
  by_cases c24 : sm_w x = 24
  · obtain ⟨d', ro', m', h1, h2⟩ := law_c24 (G := G) gd gl gk hz hs hL hi hx hD
    exact ⟨d', ro', m', h1, fun r kk => sm_table dL_law_32 866 (Or.inr ⟨⟨by omega, by omega⟩, 834, by rw [c24]; rfl, rfl⟩) (h2 r kk)⟩
  by_cases c25 : sm_w x = 25
  · obtain ⟨d', ro', m', h1, h2⟩ := law_c25 (G := G) gd gl gk hz hs hL hi hx hD
    exact ⟨d', ro', m', h1, fun r kk => sm_table dL_law_32 889 (Or.inr ⟨⟨by omega, by omega⟩, 857, by rw [c25]; rfl, rfl⟩) (h2 r kk)⟩
  by_cases c26 : sm_w x = 26
  · obtain ⟨d', ro', m', h1, h2⟩ := law_c26 (G := G) gd gl gk hz hs hL hi hx hD
    exact ⟨d', ro', m', h1, fun r kk => sm_table dL_law_32 912 (Or.inr ⟨⟨by omega, by omega⟩, 880, by rw [c26]; rfl, rfl⟩) (h2 r kk)⟩
  by_cases c27 : sm_w x = 27
  · obtain ⟨d', ro', m', h1, h2⟩ := law_c27 (G := G) gd gl gk hz hs hL hi hx hD
    exact ⟨d', ro', m', h1, fun r kk => sm_table dL_law_32 935 (Or.inr ⟨⟨by omega, by omega⟩, 903, by rw [c27]; rfl, rfl⟩) (h2 r kk)⟩
  exact ⟨d, ro, m, hD, fun r kk => sm_table dL_law_32 958 (Or.inl ⟨by omega, rfl⟩) kk⟩
theorem law_loop {G : GT} {E2 : ET} {mB : MI} {L : Nat} (gd : gD E2 3) (gl : gL E2 435) (gk : gK E2 mB) (hz : E2.sz = 445) (hs : E2.sh 0 = (20, L)) (hL : L ≤ 2048) (hx : ∀ j, i32 (mB 0 j)) : ∀ (k i : Nat) (d m : MI) (ro : Nat → Nat), L ≤ i + k → i ≤ 2048 → DM d ro m →
    ∃ ro' mi', sM (xLaw G) 18 (lvL i) [] (eD E2 3 ro) (memL d m mB) (some (.inl 1), eD E2 3 ro', mi') := by
  intro k
  induction k with
  | zero =>
    intro i d m ro hk hi hD
    have wi : sm_w (i : Int) = i := tw (by omega) (by omega)
    have wL : sm_w ((L : Int) - 4) = (L : Int) - 4 := tw (by omega) (by omega)
    refine ⟨ro, memL d m mB, ?_⟩
    refine sm_iload_n dL_law_18 rfl ?_
    refine sm_aload_n dL_law_19 rfl ?_
    refine sm_alen hs (by show 0 < E2.sz; omega) dL_law_20 ?_
    refine sm_iconst dL_law_21 ?_
    refine sm_isub dL_law_22 ?_
    refine sm_icmp_gt 964 dL_law_23 rfl (fun _ => ?_) (fun q => absurd (by rw [wi, wL]; omega) q)
    refine sm_iconst dL_law_964 ?_
    exact sm_ireturn dL_law_965 (Or.inr ⟨rfl, Or.inr rfl⟩)
  | succ k ih =>
    intro i d m ro hk hi hD
    have wi : sm_w (i : Int) = i := tw (by omega) (by omega)
    have wL : sm_w ((L : Int) - 4) = (L : Int) - 4 := tw (by omega) (by omega)
    by_cases z : (L : Int) - 4 < (i : Int)
    · refine ⟨ro, memL d m mB, ?_⟩
      refine sm_iload_n dL_law_18 rfl ?_
      refine sm_aload_n dL_law_19 rfl ?_
      refine sm_alen hs (by show 0 < E2.sz; omega) dL_law_20 ?_
      refine sm_iconst dL_law_21 ?_
      refine sm_isub dL_law_22 ?_
      refine sm_icmp_gt 964 dL_law_23 rfl (fun _ => ?_) (fun q => absurd (by rw [wi, wL]; exact z) q)
      refine sm_iconst dL_law_964 ?_
      exact sm_ireturn dL_law_965 (Or.inr ⟨rfl, Or.inr rfl⟩)
    · obtain ⟨d', ro1, m', h1, h2⟩ := law_step (G := G) (i := i) (sm_and (mB 0 i) 31) gd gl gk hz hs hL (by omega) hx hD
      obtain ⟨ro', mi', h3⟩ := ih (i + 4) d' m' ro1 (by omega) (by omega) h1
      have e : memL d m mB 0 (sm_w (i : Int)).toNat = mB 0 i := by
        rw [wi, show ((i : Int)).toNat = i by omega]
        show sm_gl 3 432 d (sm_gl 435 10 m mB) 0 i = _
        rw [gl_o (by omega), gl_o (by omega)]
      refine ⟨ro', mi', ?_⟩
      refine sm_iload_n dL_law_18 rfl ?_
      refine sm_aload_n dL_law_19 rfl ?_
      refine sm_alen hs (by show 0 < E2.sz; omega) dL_law_20 ?_
      refine sm_iconst dL_law_21 ?_
      refine sm_isub dL_law_22 ?_
      refine sm_icmp_gt 964 dL_law_23 rfl (fun q => absurd q (by rw [wi, wL]; exact z)) (fun _ => ?_)
      refine sm_aload_n dL_law_26 rfl ?_
      refine sm_iload_n dL_law_27 rfl ?_
      refine sm_iaload (n := L) hs (by show 0 < E2.sz; omega) (by rw [wi]; omega) (by rw [wi]; omega) dL_law_28 ?_
      rw [e]
      refine sm_bipush dL_law_29 rfl ?_
      refine sm_iand dL_law_31 ?_
      refine h2 _ ?_
      refine sm_iinc dL_law_958 (Nat.le_of_ble_eq_true rfl) rfl ?_
      refine sm_goto 18 dL_law_961 rfl ?_
      exact h3
/-- what a new desk and a new model hold stands for one another -/
theorem DM_new {d m : MI} {ro : Nat → Nat} (hd : ∀ j, d 0 j = 0) (hi : iS (sm_lo 1 d)) (ht : ∀ j, d 185 j = 0) (hro : ∀ i, ro i = i) (m0 : ∀ j, m 0 j = 0) (m1 : ∀ j, m 1 j = if j = 2 then 90 else if j = 3 then 60 else if j = 4 then 40 else 0) (hw : wOK m) : DM d ro m := by
  obtain ⟨i0, i1, i2, i3, i8, i9, i10⟩ := hi
  have z : ∀ j, ¬ j = 2 → ¬ j = 3 → ¬ j = 4 → m 1 j = 0 := fun j a b c => by rw [m1, if_neg a, if_neg b, if_neg c]
  have e2 : m 1 2 = 90 := by rw [m1, if_pos rfl]
  have e3 : m 1 3 = 60 := by rw [m1, if_neg (by omega), if_pos rfl]
  have e4 : m 1 4 = 40 := by rw [m1, if_neg (by omega), if_neg (by omega), if_pos rfl]
  have z5 := z 5 (by omega) (by omega) (by omega)
  have z6 := z 6 (by omega) (by omega) (by omega)
  have z7 := z 7 (by omega) (by omega) (by omega)
  have z8 := z 8 (by omega) (by omega) (by omega)
  have z9 := z 9 (by omega) (by omega) (by omega)
  have z0 := z 0 (by omega) (by omega) (by omega)
  have z1 := z 1 (by omega) (by omega) (by omega)
  have z10 := z 10 (by omega) (by omega) (by omega)
  have z11 := z 11 (by omega) (by omega) (by omega)
  have z12 := z 12 (by omega) (by omega) (by omega)
  have hr0 : rd (m 1) = fun _ _ => 0 := by
    funext x y
    unfold rd
    rw [z5]
    rfl
  have hmR : mR (sm_lo 1 d) (m 1) := by
    unfold mR
    rw [hr0]
    refine ⟨fun x y _ _ => i2 _, fun x hx => ?_, fun x y hx hy => ?_, fun q hq => ?_, fun f hf x q hx hq hlt => ?_⟩
    · show sm_lo 1 d 3 (12 * x + x) = 0
      rw [i3 x x hx hx, if_pos rfl]
    · show 0 ≤ sm_lo 1 d 3 (12 * x + y) ∧ sm_lo 1 d 3 (12 * x + y) ≤ 1000000
      rw [i3 x y hx hy]
      split <;> omega
    · intro x c hx hc hp
      have hp' : (0 : Int) < 0 := hp
      omega
    · have hlt' : sm_lo 1 d 3 (12 * x + q) < 1000000 := hlt
      show f x ≤ sm_lo 1 d 3 (12 * x + q) + f q
      rw [i3 x q hx hq] at hlt' ⊢
      by_cases e : x = q
      · rw [if_pos e, e]
        omega
      · rw [if_neg e] at hlt'
        omega
  have hrok : rOK (m 1) := ⟨by omega, by omega, fun r hr => by omega⟩
  have wp : ∀ j, 14 ≤ j → m 1 j = 0 := fun j hj => z j (by omega) (by omega) (by omega)
  have hRS : RS (sm_lo 1 d) (m 1) := by
    refine ⟨⟨by rw [i0, z6], by rw [i0, z7], by rw [i0, z8], by rw [i0, z9], by rw [i0, z1], by rw [i0, z0], ⟨by rw [i8, e2], by rw [i9, e3], by rw [i10, e4]⟩, by rw [i1, z5]⟩, hmR, fun k hk => absurd hk (by omega), fun k hk => absurd hk (by omega), fun k hk => absurd hk (by omega), fun k hk => absurd hk (by omega), ⟨by omega, by omega, ⟨by omega, by omega, by omega⟩, by omega, by omega, by omega, by omega⟩, hrok, fun k hk => absurd hk (by omega), fun k hk => absurd hk (by omega), fun k hk => absurd hk (by omega), fun k hk => absurd hk (by omega), ⟨fun k hk => absurd hk (by omega), fun k hk => absurd hk (by omega)⟩, ⟨?_, ?_, ?_, fun k hk => absurd hk (by omega)⟩, ⟨fun k hk _ => ?_, fun k hk _ => ?_, fun k hk _ => ?_⟩⟩
    · rw [z10, z9]
      rfl
    · rw [z11, z9]
      rfl
    · rw [z12, z9]
      rfl
    · show (if 1 < 4 then m 1 (106 + 4 * k + 1) else 0) = 0 ∧ (if 2 < 4 then m 1 (106 + 4 * k + 2) else 0) = 0 ∧ (if 3 < 4 then m 1 (106 + 4 * k + 3) else 0) = 0
      rw [wp _ (by omega), wp _ (by omega), wp _ (by omega)]
      exact ⟨rfl, rfl, rfl⟩
    · show (if 7 < 14 then m 1 (186 + 14 * k + 7) else 0) = 0 ∧ (if 8 < 14 then m 1 (186 + 14 * k + 8) else 0) = 0 ∧ (if 9 < 14 then m 1 (186 + 14 * k + 9) else 0) = 0 ∧ (if 10 < 14 then m 1 (186 + 14 * k + 10) else 0) = 0 ∧ (if 11 < 14 then m 1 (186 + 14 * k + 11) else 0) = 0
      rw [wp _ (by omega), wp _ (by omega), wp _ (by omega), wp _ (by omega), wp _ (by omega)]
      exact ⟨rfl, rfl, rfl, rfl, rfl⟩
    · show (if 2 < 4 then m 1 (270 + 4 * k + 2) else 0) = 0 ∧ (if 3 < 4 then m 1 (270 + 4 * k + 3) else 0) = 0
      rw [wp _ (by omega), wp _ (by omega)]
      exact ⟨rfl, rfl⟩
  refine ⟨hRS, ⟨hmR, hw, hrok⟩, ⟨0, by omega, by rw [hd]; rfl, by rw [m0]; rfl, fun i hi => absurd hi (by omega)⟩, ⟨fun i hi => by rw [hro]; exact hi, fun i j _ _ e => by rw [hro, hro] at e; exact e⟩, Or.inl ⟨hd 5, m0 4⟩, 0, by omega, by rw [ht]; rfl, by rw [m0]; rfl, fun k hk => absurd hk (by omega)⟩
