/-! ===== a state is made ===== -/
abbrev xState_init (G : GT) : XT := (G, yX7_init.cls, cX7_init, 2, none, decide (yX7_init.name = "<init>"), 2, 41)
theorem st_put {X : XT} {pc : Nat} {lv : List (Option AV)} {st : List AV} {E : ET} {mi : MI} {a b j kdo idx : Nat} (lk : Cond.fieldLink X.own idx (sm_cC kdo) (sm_cT kdo j).2.1 (sm_cT kdo j).2.2.1 ∈ sm_tb) (h8 : kdo < 8 ∧ j < sm_cN kdo ∧ (sm_cT kdo j).2.2.2 = true ∧ (sm_ty kdo j).isReference = true) (hini : X.ini = true) (hown : sm_cC kdo = X.own) (hk : (E.sh a).1 = kdo) (h3a : 3 ≤ a) (ha : a < E.sz) (hd : decode X.cc pc = .ok (.putfield idx, 3)) :
    ∃ E', FW X pc lv (.inr b :: .inr a :: st) E mi (pc + 3) lv st E' mi ∧ E'.sz = E.sz ∧ E'.us = E.us ∧ (∀ k, E'.sh k = E.sh k) ∧ ∀ c i, E'.mr c i = if c = a ∧ i = j then some b else E.mr c i :=
  ⟨_, fun r kk => sm_putR lk h8 hini hown hk h3a ha hd kk, rfl, rfl, fun _ => rfl, fun _ _ => rfl⟩
theorem gM_fr {E E' : ET} {b : Nat} (h : gM E b) (hz : E.sz ≤ E'.sz) (hs : ∀ k, b ≤ k → k < b + 3 → E'.sh k = E.sh k) (hm : ∀ i, E'.mr b i = E.mr b i) : gM E' b := by
  obtain ⟨h1, h2, h3, ⟨h4, h5⟩, h6, h7⟩ := h
  exact ⟨h1, by omega, by rw [hs b (by omega) (by omega)]; exact h3, ⟨by rw [hs _ (by omega) (by omega)]; exact h4, by rw [hm]; exact h5⟩, by rw [hs _ (by omega) (by omega)]; exact h6, by rw [hm]; exact h7⟩
theorem sl_pats_b {G : GT} {a arr i : Nat} {E : ET} {mi : MI} (hi : i < 6) (hk : (E.sh a).1 = 5) (ha : a < E.sz) (hr : E.mr a 3 = some arr) (hs : E.sh arr = (22, 6)) (h3 : 3 ≤ arr) (hl : arr < E.sz) :
    ∃ E' mi', FW (xState_init G) 81 [some (.inr a), some (.inl (i : Int))] [] E mi 81 [some (.inr a), some (.inl ((i + 1 : Nat) : Int))] [] E' mi' ∧ NA E mi E' mi' arr i 3 0 14 := by
  have wi : sm_w (i : Int) = i := tw (by omega) (by omega)
  have na := na_al E mi arr (sm_w (i : Int)).toNat 3 0 14
  refine ⟨_, _, fun r kk => ?_, by rw [wi] at na; exact na⟩
  refine sm_iload_n dX7_init_81 rfl ?_
  refine sm_bipush dX7_init_82 rfl ?_
  refine sm_icmp_ge 106 dX7_init_84 rfl (fun q => absurd q (by rw [wi, tw (x := 6) (by omega) (by omega)]; omega)) (fun _ => ?_)
  refine sm_aload_n dX7_init_87 rfl ?_
  refine sm_getR lf_RX7_24 fR_5_3 hk ha hr dX7_init_88 ?_
  refine sm_iload_n dX7_init_91 rfl ?_
  refine sm_new (kd := 3) (by decide) ln_RX7_22 dX7_init_92 ?_
  refine sm_dup dX7_init_95 ?_
  refine sm_callI (avs := []) (st := [.inr E.sz, .inl (i : Int), .inr arr]) lk_RX7_46 rfl nf_X4_init bPat_init ⟨Nat.le_of_ble_eq_true rfl, Nat.le_of_ble_eq_true rfl⟩ ⟨rfl, Nat.le_of_ble_eq_true rfl⟩ rfl dX7_init_96 ?_
  refine sm_aastore (kd := 22) (n := 6) (Or.inl rfl) (by rw [al_sh hl]; exact hs) h3 (by show arr < E.1 + 1; exact Nat.lt_succ_of_lt hl) (by rw [wi]; omega) (by rw [wi]; omega) (by show ((if E.1 = E.1 then (3, 0) else E.2.2.1 E.1) : Nat × Nat).1 = 3; rw [if_pos rfl]) (Nat.lt_succ_self _) dX7_init_99 ?_
  refine sm_iinc dX7_init_100 (Nat.le_of_ble_eq_true rfl) rfl ?_
  refine sm_goto 81 dX7_init_103 rfl ?_
  rw [wi]
  exact kk
theorem sl_pats {G : GT} {a arr : Nat} : ∀ (k i : Nat) (E : ET) (mi : MI), i + k = 6 → (E.sh a).1 = 5 → a < E.sz → E.mr a 3 = some arr → E.sh arr = (22, 6) → 3 ≤ arr → arr < E.sz → ¬ arr = a →
    ∃ E' mi', FW (xState_init G) 81 [some (.inr a), some (.inl (i : Int))] [] E mi 106 [some (.inr a), some (.inl 6)] [] E' mi' ∧ E'.sz = E.sz + k ∧ E'.us = E.us + k * 14 ∧ (∀ b, E'.sh b = if E.sz ≤ b ∧ b < E.sz + k then (3, 0) else E.sh b) ∧ (∀ b j, ¬ b = arr → b < E.sz → E'.mr b j = E.mr b j) ∧ (∀ j, E'.mr arr j = if i ≤ j ∧ j < 6 then some (E.sz + (j - i)) else E.mr arr j) ∧ ∀ b, b < E.sz → mi' b = mi b := by
  intro k
  induction k with
  | zero =>
    intro i E mi hi hk ha hr hs h3 hl hne
    have e : i = 6 := by omega
    subst e
    refine ⟨E, mi, fun r kk => ?_, rfl, by omega, fun b => by rw [if_neg (by omega)], fun _ _ _ _ => rfl, fun j => by rw [if_neg (by omega)], fun _ _ => rfl⟩
    refine sm_iload_n dX7_init_81 rfl ?_
    refine sm_bipush dX7_init_82 rfl ?_
    exact sm_icmp_ge 106 dX7_init_84 rfl (fun _ => kk) (fun q => absurd (Int.le_refl _) q)
  | succ k ih =>
    intro i E mi hi hk ha hr hs h3 hl hne
    obtain ⟨E1, m1, s1, n1, u1, p1, q1, v1⟩ := sl_pats_b (G := G) (mi := mi) (by omega : i < 6) hk ha hr hs h3 hl
    obtain ⟨E2, m2, s2, n2, u2, p2, q2, r2, v2⟩ := ih (i + 1) E1 m1 (by omega) (by rw [p1, if_neg (by omega)]; exact hk) (by omega) (by rw [q1, if_neg (by omega), if_neg (by omega)]; exact hr) (by rw [p1, if_neg (by omega)]; exact hs) h3 (by omega) hne
    refine ⟨E2, m2, fun r kk => s1 r (s2 r kk), by omega, by omega, fun b => ?_, fun b j hb hb' => ?_, fun j => ?_, fun b hb => ?_⟩
    · rw [p2, p1, n1]
      by_cases z : b = E.sz
      · rw [if_neg (by omega), if_pos z, if_pos (by omega)]
      · rw [if_neg z]
        by_cases y : E.sz + 1 ≤ b ∧ b < E.sz + 1 + k
        · rw [if_pos y, if_pos (by omega)]
        · rw [if_neg y, if_neg (by omega)]
    · rw [q2 b j hb (by omega), q1, if_neg (by omega), if_neg (by omega)]
    · rw [r2, q1, n1]
      by_cases z : i + 1 ≤ j ∧ j < 6
      · rw [if_pos z, if_pos (by omega), show E.sz + 1 + (j - (i + 1)) = E.sz + (j - i) by omega]
      · rw [if_neg z]
        by_cases y : j = i
        · rw [if_pos ⟨rfl, y⟩, if_pos (by omega), show E.sz + (j - i) = E.sz by omega]
        · rw [if_neg (by omega), if_neg (by omega), if_neg (by omega)]
    · rw [v2 b (by omega)]
      funext i'
      rw [v1, if_neg (by omega)]
theorem sl_gars_b {G : GT} {a arr i : Nat} {E : ET} {mi : MI} (hi : i < 5) (hk : (E.sh a).1 = 5) (ha : a < E.sz) (hr : E.mr a 5 = some arr) (hs : E.sh arr = (23, 5)) (h3 : 3 ≤ arr) (hl : arr < E.sz) :
    ∃ E' mi', FW (xState_init G) 108 [some (.inr a), some (.inl (i : Int))] [] E mi 108 [some (.inr a), some (.inl ((i + 1 : Nat) : Int))] [] E' mi' ∧ NA E mi E' mi' arr i 2 0 5 := by
  have wi : sm_w (i : Int) = i := tw (by omega) (by omega)
  have na := na_al E mi arr (sm_w (i : Int)).toNat 2 0 5
  refine ⟨_, _, fun r kk => ?_, by rw [wi] at na; exact na⟩
  refine sm_iload_n dX7_init_108 rfl ?_
  refine sm_iconst dX7_init_109 ?_
  refine sm_icmp_ge 132 dX7_init_110 rfl (fun q => absurd q (by rw [wi, tw (x := 5) (by omega) (by omega)]; omega)) (fun _ => ?_)
  refine sm_aload_n dX7_init_113 rfl ?_
  refine sm_getR lf_RX7_30 fR_5_5 hk ha hr dX7_init_114 ?_
  refine sm_iload_n dX7_init_117 rfl ?_
  refine sm_new (kd := 2) (by decide) ln_RX7_28 dX7_init_118 ?_
  refine sm_dup dX7_init_121 ?_
  refine sm_callI (avs := []) (st := [.inr E.sz, .inl (i : Int), .inr arr]) lk_RX7_47 rfl nf_X3_init bGar_init ⟨Nat.le_of_ble_eq_true rfl, Nat.le_of_ble_eq_true rfl⟩ ⟨rfl, Nat.le_of_ble_eq_true rfl⟩ rfl dX7_init_122 ?_
  refine sm_aastore (kd := 23) (n := 5) (Or.inr (Or.inl rfl)) (by rw [al_sh hl]; exact hs) h3 (by show arr < E.1 + 1; exact Nat.lt_succ_of_lt hl) (by rw [wi]; omega) (by rw [wi]; omega) (by show ((if E.1 = E.1 then (2, 0) else E.2.2.1 E.1) : Nat × Nat).1 = 2; rw [if_pos rfl]) (Nat.lt_succ_self _) dX7_init_125 ?_
  refine sm_iinc dX7_init_126 (Nat.le_of_ble_eq_true rfl) rfl ?_
  refine sm_goto 108 dX7_init_129 rfl ?_
  rw [wi]
  exact kk
theorem sl_gars {G : GT} {a arr : Nat} : ∀ (k i : Nat) (E : ET) (mi : MI), i + k = 5 → (E.sh a).1 = 5 → a < E.sz → E.mr a 5 = some arr → E.sh arr = (23, 5) → 3 ≤ arr → arr < E.sz → ¬ arr = a →
    ∃ E' mi', FW (xState_init G) 108 [some (.inr a), some (.inl (i : Int))] [] E mi 132 [some (.inr a), some (.inl 5)] [] E' mi' ∧ E'.sz = E.sz + k ∧ E'.us = E.us + k * 5 ∧ (∀ b, E'.sh b = if E.sz ≤ b ∧ b < E.sz + k then (2, 0) else E.sh b) ∧ (∀ b j, ¬ b = arr → b < E.sz → E'.mr b j = E.mr b j) ∧ (∀ j, E'.mr arr j = if i ≤ j ∧ j < 5 then some (E.sz + (j - i)) else E.mr arr j) ∧ ∀ b, b < E.sz → mi' b = mi b := by
  intro k
  induction k with
  | zero =>
    intro i E mi hi hk ha hr hs h3 hl hne
    have e : i = 5 := by omega
    subst e
    refine ⟨E, mi, fun r kk => ?_, rfl, by omega, fun b => by rw [if_neg (by omega)], fun _ _ _ _ => rfl, fun j => by rw [if_neg (by omega)], fun _ _ => rfl⟩
    refine sm_iload_n dX7_init_108 rfl ?_
    refine sm_iconst dX7_init_109 ?_
    exact sm_icmp_ge 132 dX7_init_110 rfl (fun _ => kk) (fun q => absurd (Int.le_refl _) q)
  | succ k ih =>
    intro i E mi hi hk ha hr hs h3 hl hne
    obtain ⟨E1, m1, s1, n1, u1, p1, q1, v1⟩ := sl_gars_b (G := G) (mi := mi) (by omega : i < 5) hk ha hr hs h3 hl
    obtain ⟨E2, m2, s2, n2, u2, p2, q2, r2, v2⟩ := ih (i + 1) E1 m1 (by omega) (by rw [p1, if_neg (by omega)]; exact hk) (by omega) (by rw [q1, if_neg (by omega), if_neg (by omega)]; exact hr) (by rw [p1, if_neg (by omega)]; exact hs) h3 (by omega) hne
    refine ⟨E2, m2, fun r kk => s1 r (s2 r kk), by omega, by omega, fun b => ?_, fun b j hb hb' => ?_, fun j => ?_, fun b hb => ?_⟩
    · rw [p2, p1, n1]
      by_cases z : b = E.sz
      · rw [if_neg (by omega), if_pos z, if_pos (by omega)]
      · rw [if_neg z]
        by_cases y : E.sz + 1 ≤ b ∧ b < E.sz + 1 + k
        · rw [if_pos y, if_pos (by omega)]
        · rw [if_neg y, if_neg (by omega)]
    · rw [q2 b j hb (by omega), q1, if_neg (by omega), if_neg (by omega)]
    · rw [r2, q1, n1]
      by_cases z : i + 1 ≤ j ∧ j < 5
      · rw [if_pos z, if_pos (by omega), show E.sz + 1 + (j - (i + 1)) = E.sz + (j - i) by omega]
      · rw [if_neg z]
        by_cases y : j = i
        · rw [if_pos ⟨rfl, y⟩, if_pos (by omega), show E.sz + (j - i) = E.sz by omega]
        · rw [if_neg (by omega), if_neg (by omega), if_neg (by omega)]
    · rw [v2 b (by omega)]
      funext i'
      rw [v1, if_neg (by omega)]
theorem sl_cals_b {G : GT} {a arr i : Nat} {E : ET} {mi : MI} (hi : i < 40) (hk : (E.sh a).1 = 5) (ha : a < E.sz) (hr : E.mr a 7 = some arr) (hs : E.sh arr = (24, 40)) (h3 : 3 ≤ arr) (hl : arr < E.sz) :
    ∃ E' mi', FW (xState_init G) 134 [some (.inr a), some (.inl (i : Int))] [] E mi 134 [some (.inr a), some (.inl ((i + 1 : Nat) : Int))] [] E' mi' ∧ NA E mi E' mi' arr i 0 0 11 := by
  have wi : sm_w (i : Int) = i := tw (by omega) (by omega)
  have na := na_al E mi arr (sm_w (i : Int)).toNat 0 0 11
  refine ⟨_, _, fun r kk => ?_, by rw [wi] at na; exact na⟩
  refine sm_iload_n dX7_init_134 rfl ?_
  refine sm_bipush dX7_init_135 rfl ?_
  refine sm_icmp_ge 159 dX7_init_137 rfl (fun q => absurd q (by rw [wi, tw (x := 40) (by omega) (by omega)]; omega)) (fun _ => ?_)
  refine sm_aload_n dX7_init_140 rfl ?_
  refine sm_getR lf_RX7_36 fR_5_7 hk ha hr dX7_init_141 ?_
  refine sm_iload_n dX7_init_144 rfl ?_
  refine sm_new (kd := 0) (by decide) ln_RX7_34 dX7_init_145 ?_
  refine sm_dup dX7_init_148 ?_
  refine sm_callI (avs := []) (st := [.inr E.sz, .inl (i : Int), .inr arr]) lk_RX7_48 rfl nf_X1_init bBrk_init ⟨Nat.le_of_ble_eq_true rfl, Nat.le_of_ble_eq_true rfl⟩ ⟨rfl, Nat.le_of_ble_eq_true rfl⟩ rfl dX7_init_149 ?_
  refine sm_aastore (kd := 24) (n := 40) (Or.inr (Or.inr (Or.inl rfl))) (by rw [al_sh hl]; exact hs) h3 (by show arr < E.1 + 1; exact Nat.lt_succ_of_lt hl) (by rw [wi]; omega) (by rw [wi]; omega) (by show ((if E.1 = E.1 then (0, 0) else E.2.2.1 E.1) : Nat × Nat).1 = 0; rw [if_pos rfl]) (Nat.lt_succ_self _) dX7_init_152 ?_
  refine sm_iinc dX7_init_153 (Nat.le_of_ble_eq_true rfl) rfl ?_
  refine sm_goto 134 dX7_init_156 rfl ?_
  rw [wi]
  exact kk
theorem sl_cals {G : GT} {a arr : Nat} : ∀ (k i : Nat) (E : ET) (mi : MI), i + k = 40 → (E.sh a).1 = 5 → a < E.sz → E.mr a 7 = some arr → E.sh arr = (24, 40) → 3 ≤ arr → arr < E.sz → ¬ arr = a →
    ∃ E' mi', FW (xState_init G) 134 [some (.inr a), some (.inl (i : Int))] [] E mi 159 [some (.inr a), some (.inl 40)] [] E' mi' ∧ E'.sz = E.sz + k ∧ E'.us = E.us + k * 11 ∧ (∀ b, E'.sh b = if E.sz ≤ b ∧ b < E.sz + k then (0, 0) else E.sh b) ∧ (∀ b j, ¬ b = arr → b < E.sz → E'.mr b j = E.mr b j) ∧ (∀ j, E'.mr arr j = if i ≤ j ∧ j < 40 then some (E.sz + (j - i)) else E.mr arr j) ∧ ∀ b, b < E.sz → mi' b = mi b := by
  intro k
  induction k with
  | zero =>
    intro i E mi hi hk ha hr hs h3 hl hne
    have e : i = 40 := by omega
    subst e
    refine ⟨E, mi, fun r kk => ?_, rfl, by omega, fun b => by rw [if_neg (by omega)], fun _ _ _ _ => rfl, fun j => by rw [if_neg (by omega)], fun _ _ => rfl⟩
    refine sm_iload_n dX7_init_134 rfl ?_
    refine sm_bipush dX7_init_135 rfl ?_
    exact sm_icmp_ge 159 dX7_init_137 rfl (fun _ => kk) (fun q => absurd (Int.le_refl _) q)
  | succ k ih =>
    intro i E mi hi hk ha hr hs h3 hl hne
    obtain ⟨E1, m1, s1, n1, u1, p1, q1, v1⟩ := sl_cals_b (G := G) (mi := mi) (by omega : i < 40) hk ha hr hs h3 hl
    obtain ⟨E2, m2, s2, n2, u2, p2, q2, r2, v2⟩ := ih (i + 1) E1 m1 (by omega) (by rw [p1, if_neg (by omega)]; exact hk) (by omega) (by rw [q1, if_neg (by omega), if_neg (by omega)]; exact hr) (by rw [p1, if_neg (by omega)]; exact hs) h3 (by omega) hne
    refine ⟨E2, m2, fun r kk => s1 r (s2 r kk), by omega, by omega, fun b => ?_, fun b j hb hb' => ?_, fun j => ?_, fun b hb => ?_⟩
    · rw [p2, p1, n1]
      by_cases z : b = E.sz
      · rw [if_neg (by omega), if_pos z, if_pos (by omega)]
      · rw [if_neg z]
        by_cases y : E.sz + 1 ≤ b ∧ b < E.sz + 1 + k
        · rw [if_pos y, if_pos (by omega)]
        · rw [if_neg y, if_neg (by omega)]
    · rw [q2 b j hb (by omega), q1, if_neg (by omega), if_neg (by omega)]
    · rw [r2, q1, n1]
      by_cases z : i + 1 ≤ j ∧ j < 40
      · rw [if_pos z, if_pos (by omega), show E.sz + 1 + (j - (i + 1)) = E.sz + (j - i) by omega]
      · rw [if_neg z]
        by_cases y : j = i
        · rw [if_pos ⟨rfl, y⟩, if_pos (by omega), show E.sz + (j - i) = E.sz by omega]
        · rw [if_neg (by omega), if_neg (by omega), if_neg (by omega)]
    · rw [v2 b (by omega)]
      funext i'
      rw [v1, if_neg (by omega)]
