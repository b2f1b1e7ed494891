abbrev xModel_laysWays (G : GT) : XT := (G, yX10_laysWays.cls, cX10_laysWays, 4, none, decide (yX10_laysWays.name = "<init>"), 0, 0)
abbrev qModel_laysWays_l2 (G : GT) (E : ET) (o : Nat) (mi : MI)  (r : RT) (t : Int × MI) : Prop := sM (xModel_laysWays G) 2 [some (.inr o), some (.inl t.1), none, none] [] E (sm_gl o 10 t.2 mi) r
abbrev kModel_laysWays_l2 (G : GT) (E : ET) (o : Nat) (mi : MI)  (r : RT) (x : MI) : Prop := sM (xModel_laysWays G) 46 [some (.inr o), none, none, none] [] E (sm_gl o 10 x mi) r
def fModel_laysWays_j39_l2 (z1 : Int) (y1 : Int) (y2 : Int) (s : MI) : Option ((Int × MI) ⊕ (MI)) :=
  if 0 ≤ sm_w y1 ∧ sm_w y1 < 144 then Option.bind (some (sm_up s 7 (sm_w y1).toNat y2)) (fun s5 => some (.inl ((z1 + 1), s5))) else none
set_option maxRecDepth 100000 in
set_option maxHeartbeats 4000000 in
theorem bModel_laysWays_j39_l2 {G : GT} {E : ET} {o : Nat} {s mi : MI} {z1 : Int} {y1 : Int} {y2 : Int} {r : RT} {w : (Int × MI) ⊕ (MI)} (g : gL E o)  (h : fModel_laysWays_j39_l2 z1 y1 y2 s = some w) (hK : Sum.elim (qModel_laysWays_l2 G E o mi r) (kModel_laysWays_l2 G E o mi r) w) : sM (xModel_laysWays G) 39 [some (.inr o), some (.inl z1), none, none] [.inl y2, .inl y1, .inr (o + 7)] E (sm_gl o 10 s mi) r := by
  have hN1 := g.1
  have hN2 := g.2.1
  unfold fModel_laysWays_j39_l2 at h
  obtain ⟨q4, h⟩ := sl_guard h
  have xq4 := (sl_ix (m := 144) q4).2
  refine sl_iastk (D := 7) (k := (sm_w y1).toNat) g.2.2.2.2.2.2.2.2.2.1.1 rfl (by omega) ⟨hN1, hN2⟩ (sl_ix (m := 144) q4) dX10_laysWays_39 ?_
  obtain ⟨s5, hs6, h⟩ := sl_bind h
  rw [Option.some.inj hs6]
  refine sm_iinc dX10_laysWays_40 (Nat.le_of_ble_eq_true rfl) rfl ?_
  refine sm_goto 2 dX10_laysWays_43 rfl ?_
  cases h
  exact sm_less (lv' := [some (.inr o), some (.inl (z1 + 1)), none, none]) ⟨rfl, rfl, trivial⟩ hK
def fModel_laysWays_l2 (z1 : Int) (s : MI) : Option ((Int × MI) ⊕ (MI)) :=
  (if 144 ≤ sm_w z1 then some (.inr s) else if 0 ≤ sm_w z1 ∧ sm_w z1 < 144 then Option.bind (some (sm_up s 6 (sm_w z1).toNat 100000)) (fun s2 => (if sm_w (sm_div z1 12) = sm_w (sm_rem z1 12) then fModel_laysWays_j39_l2 z1 z1 0 s2 else fModel_laysWays_j39_l2 z1 z1 100000 s2)) else none)
set_option maxRecDepth 100000 in
set_option maxHeartbeats 4000000 in
theorem bModel_laysWays_l2 {G : GT} {E : ET} {o : Nat} {s mi : MI} {z1 : Int} {r : RT} {w : (Int × MI) ⊕ (MI)} (g : gL E o)  (h : fModel_laysWays_l2 z1 s = some w) (hK : Sum.elim (qModel_laysWays_l2 G E o mi r) (kModel_laysWays_l2 G E o mi r) w) : qModel_laysWays_l2 G E o mi r (z1, s) := by
  have hN1 := g.1
  have hN2 := g.2.1
  unfold fModel_laysWays_l2 at h
  show sM (xModel_laysWays G) 2 [some (.inr o), some (.inl z1), none, none] [] E (sm_gl o 10 s mi) r
  refine sm_iload_n dX10_laysWays_2 rfl ?_
  refine sm_sipush dX10_laysWays_3 rfl ?_
  refine sc_icmp_ge (X' := sm_w z1) (Y' := 144) 46 dX10_laysWays_6 rfl rfl (by decide) (fun c8 => ?_) (fun c8 => ?_)
  · rw [if_pos c8] at h
    cases h
    exact sm_less (lv' := [some (.inr o), none, none, none]) ⟨rfl, trivial⟩ hK
  · rw [if_neg c8] at h
    refine sm_aload_n dX10_laysWays_9 rfl ?_
    refine sm_getR lf_RX10_25 fR_7_8 g.2.2.1 (by omega) g.2.2.2.2.2.2.2.2.1.2 dX10_laysWays_10 ?_
    refine sm_iload_n dX10_laysWays_13 rfl ?_
    refine sm_ldc (v := 100000) rfl lc_RX10_52 dX10_laysWays_14 ?_
    obtain ⟨q1, h⟩ := sl_guard h
    have xq1 := (sl_ix (m := 144) q1).2
    refine sl_iastk (D := 6) (k := (sm_w z1).toNat) g.2.2.2.2.2.2.2.2.1.1 rfl (by omega) ⟨hN1, hN2⟩ (sl_ix (m := 144) q1) dX10_laysWays_16 ?_
    obtain ⟨s2, hs3, h⟩ := sl_bind h
    rw [Option.some.inj hs3]
    refine sm_aload_n dX10_laysWays_17 rfl ?_
    refine sm_getR lf_RX10_28 fR_7_9 g.2.2.1 (by omega) g.2.2.2.2.2.2.2.2.2.1.2 dX10_laysWays_18 ?_
    refine sm_iload_n dX10_laysWays_21 rfl ?_
    refine sm_iload_n dX10_laysWays_22 rfl ?_
    refine sm_bipush dX10_laysWays_23 rfl ?_
    refine sm_idiv dX10_laysWays_25 (by decide) ?_
    refine sm_iload_n dX10_laysWays_26 rfl ?_
    refine sm_bipush dX10_laysWays_27 rfl ?_
    refine sm_irem dX10_laysWays_29 (by decide) ?_
    refine sc_icmp_ne (X' := sm_w (sm_div z1 12)) (Y' := sm_w (sm_rem z1 12)) 37 dX10_laysWays_30 rfl rfl rfl (fun c7 => ?_) (fun c7 => ?_)
    · rw [if_neg c7] at h
      refine sm_ldc (v := 100000) rfl lc_RX10_52 dX10_laysWays_37 ?_
      exact sm_less (lv' := [some (.inr o), some (.inl z1), none, none]) ⟨rfl, rfl, trivial⟩ (bModel_laysWays_j39_l2 g   h hK)
    · rw [if_pos c7] at h
      refine sm_iconst dX10_laysWays_33 ?_
      refine sm_goto 39 dX10_laysWays_34 rfl ?_
      exact sm_less (lv' := [some (.inr o), some (.inl z1), none, none]) ⟨rfl, rfl, trivial⟩ (bModel_laysWays_j39_l2 g   h hK)
abbrev qModel_laysWays_l48 (G : GT) (E : ET) (o : Nat) (mi : MI)  (r : RT) (t : Int × MI) : Prop := sM (xModel_laysWays G) 48 [some (.inr o), some (.inl t.1), none, none] [] E (sm_gl o 10 t.2 mi) r
abbrev kModel_laysWays_l48 (G : GT) (E : ET) (o : Nat) (mi : MI)  (r : RT) (x : MI) : Prop := sM (xModel_laysWays G) 186 [some (.inr o), none, none, none] [] E (sm_gl o 10 x mi) r
def fModel_laysWays_l48 (z1 : Int) (s : MI) : Option ((Int × MI) ⊕ (MI)) :=
  (if sm_w (s 1 5) ≤ sm_w z1 then some (.inr s) else if 0 ≤ sm_w (16 + (3 * z1)) ∧ sm_w (16 + (3 * z1)) < 810 then if 0 ≤ sm_w ((16 + (3 * z1)) + 1) ∧ sm_w ((16 + (3 * z1)) + 1) < 810 then if 0 ≤ sm_w ((16 + (3 * z1)) + 2) ∧ sm_w ((16 + (3 * z1)) + 2) < 810 then if 0 ≤ sm_w ((12 * (s 1 (sm_w (16 + (3 * z1))).toNat)) + (s 1 (sm_w ((16 + (3 * z1)) + 1)).toNat)) ∧ sm_w ((12 * (s 1 (sm_w (16 + (3 * z1))).toNat)) + (s 1 (sm_w ((16 + (3 * z1)) + 1)).toNat)) < 144 then Option.bind (some (sm_up s 6 (sm_w ((12 * (s 1 (sm_w (16 + (3 * z1))).toNat)) + (s 1 (sm_w ((16 + (3 * z1)) + 1)).toNat))).toNat (s 1 (sm_w ((16 + (3 * z1)) + 2)).toNat))) (fun s16 => if 0 ≤ sm_w ((12 * (s 1 (sm_w ((16 + (3 * z1)) + 1)).toNat)) + (s 1 (sm_w (16 + (3 * z1))).toNat)) ∧ sm_w ((12 * (s 1 (sm_w ((16 + (3 * z1)) + 1)).toNat)) + (s 1 (sm_w (16 + (3 * z1))).toNat)) < 144 then Option.bind (some (sm_up s16 6 (sm_w ((12 * (s 1 (sm_w ((16 + (3 * z1)) + 1)).toNat)) + (s 1 (sm_w (16 + (3 * z1))).toNat))).toNat (s16 1 (sm_w ((16 + (3 * z1)) + 2)).toNat))) (fun s19 => Option.bind (some (sm_up s19 7 (sm_w ((12 * (s 1 (sm_w (16 + (3 * z1))).toNat)) + (s 1 (sm_w ((16 + (3 * z1)) + 1)).toNat))).toNat (s19 1 (sm_w ((16 + (3 * z1)) + 2)).toNat))) (fun s21 => Option.bind (some (sm_up s21 7 (sm_w ((12 * (s 1 (sm_w ((16 + (3 * z1)) + 1)).toNat)) + (s 1 (sm_w (16 + (3 * z1))).toNat))).toNat (s21 1 (sm_w ((16 + (3 * z1)) + 2)).toNat))) (fun s23 => some (.inl ((z1 + 1), s23))))) else none) else none else none else none else none)
set_option maxRecDepth 100000 in
set_option maxHeartbeats 4000000 in
theorem bModel_laysWays_l48 {G : GT} {E : ET} {o : Nat} {s mi : MI} {z1 : Int} {r : RT} {w : (Int × MI) ⊕ (MI)} (g : gL E o)  (h : fModel_laysWays_l48 z1 s = some w) (hK : Sum.elim (qModel_laysWays_l48 G E o mi r) (kModel_laysWays_l48 G E o mi r) w) : qModel_laysWays_l48 G E o mi r (z1, s) := by
  have hN1 := g.1
  have hN2 := g.2.1
  unfold fModel_laysWays_l48 at h
  show sM (xModel_laysWays G) 48 [some (.inr o), some (.inl z1), none, none] [] E (sm_gl o 10 s mi) r
  refine sm_iload_n dX10_laysWays_48 rfl ?_
  refine sm_aload_n dX10_laysWays_49 rfl ?_
  refine sm_getR lf_RX10_7 fR_7_0 g.2.2.1 (by omega) g.2.2.2.1.2 dX10_laysWays_50 ?_
  refine sm_iconst dX10_laysWays_53 ?_
  refine sl_ialdk (D := 1) (k := 5) g.2.2.2.1.1 rfl (by omega) hN2 ⟨by decide, by decide⟩ dX10_laysWays_54 ?_
  refine sc_icmp_ge (X' := sm_w z1) (Y' := sm_w (s 1 5)) 186 dX10_laysWays_55 rfl rfl rfl (fun c25 => ?_) (fun c25 => ?_)
  · rw [if_pos c25] at h
    cases h
    exact sm_less (lv' := [some (.inr o), none, none, none]) ⟨rfl, trivial⟩ hK
  · rw [if_neg c25] at h
    refine sm_aload_n dX10_laysWays_58 rfl ?_
    refine sm_getR lf_RX10_7 fR_7_0 g.2.2.1 (by omega) g.2.2.2.1.2 dX10_laysWays_59 ?_
    refine sm_bipush dX10_laysWays_62 rfl ?_
    refine sm_iconst dX10_laysWays_64 ?_
    refine sm_iload_n dX10_laysWays_65 rfl ?_
    refine sm_imul dX10_laysWays_66 ?_
    refine sm_iadd dX10_laysWays_67 ?_
    obtain ⟨q12, h⟩ := sl_guard h
    have xq12 := (sl_ix (m := 810) q12).2
    refine sl_ialdk (D := 1) (k := (sm_w (16 + (3 * z1))).toNat) g.2.2.2.1.1 rfl (by omega) hN2 (sl_ix (m := 810) q12) dX10_laysWays_68 ?_
    refine sm_istore_n dX10_laysWays_69 (Nat.le_of_ble_eq_true rfl) ?_
    refine sm_aload_n dX10_laysWays_70 rfl ?_
    refine sm_getR lf_RX10_7 fR_7_0 g.2.2.1 (by omega) g.2.2.2.1.2 dX10_laysWays_71 ?_
    refine sm_bipush dX10_laysWays_74 rfl ?_
    refine sm_iconst dX10_laysWays_76 ?_
    refine sm_iload_n dX10_laysWays_77 rfl ?_
    refine sm_imul dX10_laysWays_78 ?_
    refine sm_iadd dX10_laysWays_79 ?_
    refine sm_iconst dX10_laysWays_80 ?_
    refine sm_iadd dX10_laysWays_81 ?_
    obtain ⟨q13, h⟩ := sl_guard h
    have xq13 := (sl_ix (m := 810) q13).2
    refine sl_ialdk (D := 1) (k := (sm_w ((16 + (3 * z1)) + 1)).toNat) g.2.2.2.1.1 rfl (by omega) hN2 (sl_ix (m := 810) q13) dX10_laysWays_82 ?_
    refine sm_istore_n dX10_laysWays_83 (Nat.le_of_ble_eq_true rfl) ?_
    refine sm_aload_n dX10_laysWays_84 rfl ?_
    refine sm_getR lf_RX10_25 fR_7_8 g.2.2.1 (by omega) g.2.2.2.2.2.2.2.2.1.2 dX10_laysWays_85 ?_
    refine sm_bipush dX10_laysWays_88 rfl ?_
    refine sm_iload_n dX10_laysWays_90 rfl ?_
    refine sm_imul dX10_laysWays_91 ?_
    refine sm_iload_n dX10_laysWays_92 rfl ?_
    refine sm_iadd dX10_laysWays_93 ?_
    refine sm_aload_n dX10_laysWays_94 rfl ?_
    refine sm_getR lf_RX10_7 fR_7_0 g.2.2.1 (by omega) g.2.2.2.1.2 dX10_laysWays_95 ?_
    refine sm_bipush dX10_laysWays_98 rfl ?_
    refine sm_iconst dX10_laysWays_100 ?_
    refine sm_iload_n dX10_laysWays_101 rfl ?_
    refine sm_imul dX10_laysWays_102 ?_
    refine sm_iadd dX10_laysWays_103 ?_
    refine sm_iconst dX10_laysWays_104 ?_
    refine sm_iadd dX10_laysWays_105 ?_
    obtain ⟨q14, h⟩ := sl_guard h
    have xq14 := (sl_ix (m := 810) q14).2
    refine sl_ialdk (D := 1) (k := (sm_w ((16 + (3 * z1)) + 2)).toNat) g.2.2.2.1.1 rfl (by omega) hN2 (sl_ix (m := 810) q14) dX10_laysWays_106 ?_
    obtain ⟨q15, h⟩ := sl_guard h
    have xq15 := (sl_ix (m := 144) q15).2
    refine sl_iastk (D := 6) (k := (sm_w ((12 * (s 1 (sm_w (16 + (3 * z1))).toNat)) + (s 1 (sm_w ((16 + (3 * z1)) + 1)).toNat))).toNat) g.2.2.2.2.2.2.2.2.1.1 rfl (by omega) ⟨hN1, hN2⟩ (sl_ix (m := 144) q15) dX10_laysWays_107 ?_
    obtain ⟨s16, hs17, h⟩ := sl_bind h
    rw [Option.some.inj hs17]
    refine sm_aload_n dX10_laysWays_108 rfl ?_
    refine sm_getR lf_RX10_25 fR_7_8 g.2.2.1 (by omega) g.2.2.2.2.2.2.2.2.1.2 dX10_laysWays_109 ?_
    refine sm_bipush dX10_laysWays_112 rfl ?_
    refine sm_iload_n dX10_laysWays_114 rfl ?_
    refine sm_imul dX10_laysWays_115 ?_
    refine sm_iload_n dX10_laysWays_116 rfl ?_
    refine sm_iadd dX10_laysWays_117 ?_
    refine sm_aload_n dX10_laysWays_118 rfl ?_
    refine sm_getR lf_RX10_7 fR_7_0 g.2.2.1 (by omega) g.2.2.2.1.2 dX10_laysWays_119 ?_
    refine sm_bipush dX10_laysWays_122 rfl ?_
    refine sm_iconst dX10_laysWays_124 ?_
    refine sm_iload_n dX10_laysWays_125 rfl ?_
    refine sm_imul dX10_laysWays_126 ?_
    refine sm_iadd dX10_laysWays_127 ?_
    refine sm_iconst dX10_laysWays_128 ?_
    refine sm_iadd dX10_laysWays_129 ?_
    refine sl_ialdk (D := 1) (k := (sm_w ((16 + (3 * z1)) + 2)).toNat) g.2.2.2.1.1 rfl (by omega) hN2 (sl_ix (m := 810) q14) dX10_laysWays_130 ?_
    obtain ⟨q18, h⟩ := sl_guard h
    have xq18 := (sl_ix (m := 144) q18).2
    refine sl_iastk (D := 6) (k := (sm_w ((12 * (s 1 (sm_w ((16 + (3 * z1)) + 1)).toNat)) + (s 1 (sm_w (16 + (3 * z1))).toNat))).toNat) g.2.2.2.2.2.2.2.2.1.1 rfl (by omega) ⟨hN1, hN2⟩ (sl_ix (m := 144) q18) dX10_laysWays_131 ?_
    obtain ⟨s19, hs20, h⟩ := sl_bind h
    rw [Option.some.inj hs20]
    refine sm_aload_n dX10_laysWays_132 rfl ?_
    refine sm_getR lf_RX10_28 fR_7_9 g.2.2.1 (by omega) g.2.2.2.2.2.2.2.2.2.1.2 dX10_laysWays_133 ?_
    refine sm_bipush dX10_laysWays_136 rfl ?_
    refine sm_iload_n dX10_laysWays_138 rfl ?_
    refine sm_imul dX10_laysWays_139 ?_
    refine sm_iload_n dX10_laysWays_140 rfl ?_
    refine sm_iadd dX10_laysWays_141 ?_
    refine sm_aload_n dX10_laysWays_142 rfl ?_
    refine sm_getR lf_RX10_7 fR_7_0 g.2.2.1 (by omega) g.2.2.2.1.2 dX10_laysWays_143 ?_
    refine sm_bipush dX10_laysWays_146 rfl ?_
    refine sm_iconst dX10_laysWays_148 ?_
    refine sm_iload_n dX10_laysWays_149 rfl ?_
    refine sm_imul dX10_laysWays_150 ?_
    refine sm_iadd dX10_laysWays_151 ?_
    refine sm_iconst dX10_laysWays_152 ?_
    refine sm_iadd dX10_laysWays_153 ?_
    refine sl_ialdk (D := 1) (k := (sm_w ((16 + (3 * z1)) + 2)).toNat) g.2.2.2.1.1 rfl (by omega) hN2 (sl_ix (m := 810) q14) dX10_laysWays_154 ?_
    refine sl_iastk (D := 7) (k := (sm_w ((12 * (s 1 (sm_w (16 + (3 * z1))).toNat)) + (s 1 (sm_w ((16 + (3 * z1)) + 1)).toNat))).toNat) g.2.2.2.2.2.2.2.2.2.1.1 rfl (by omega) ⟨hN1, hN2⟩ (sl_ix (m := 144) q15) dX10_laysWays_155 ?_
    obtain ⟨s21, hs22, h⟩ := sl_bind h
    rw [Option.some.inj hs22]
    refine sm_aload_n dX10_laysWays_156 rfl ?_
    refine sm_getR lf_RX10_28 fR_7_9 g.2.2.1 (by omega) g.2.2.2.2.2.2.2.2.2.1.2 dX10_laysWays_157 ?_
    refine sm_bipush dX10_laysWays_160 rfl ?_
    refine sm_iload_n dX10_laysWays_162 rfl ?_
    refine sm_imul dX10_laysWays_163 ?_
    refine sm_iload_n dX10_laysWays_164 rfl ?_
    refine sm_iadd dX10_laysWays_165 ?_
    refine sm_aload_n dX10_laysWays_166 rfl ?_
    refine sm_getR lf_RX10_7 fR_7_0 g.2.2.1 (by omega) g.2.2.2.1.2 dX10_laysWays_167 ?_
    refine sm_bipush dX10_laysWays_170 rfl ?_
    refine sm_iconst dX10_laysWays_172 ?_
    refine sm_iload_n dX10_laysWays_173 rfl ?_
    refine sm_imul dX10_laysWays_174 ?_
    refine sm_iadd dX10_laysWays_175 ?_
    refine sm_iconst dX10_laysWays_176 ?_
    refine sm_iadd dX10_laysWays_177 ?_
    refine sl_ialdk (D := 1) (k := (sm_w ((16 + (3 * z1)) + 2)).toNat) g.2.2.2.1.1 rfl (by omega) hN2 (sl_ix (m := 810) q14) dX10_laysWays_178 ?_
    refine sl_iastk (D := 7) (k := (sm_w ((12 * (s 1 (sm_w ((16 + (3 * z1)) + 1)).toNat)) + (s 1 (sm_w (16 + (3 * z1))).toNat))).toNat) g.2.2.2.2.2.2.2.2.2.1.1 rfl (by omega) ⟨hN1, hN2⟩ (sl_ix (m := 144) q18) dX10_laysWays_179 ?_
    obtain ⟨s23, hs24, h⟩ := sl_bind h
    rw [Option.some.inj hs24]
    refine sm_iinc dX10_laysWays_180 (Nat.le_of_ble_eq_true rfl) rfl ?_
    refine sm_goto 48 dX10_laysWays_183 rfl ?_
    cases h
    exact sm_less (lv' := [some (.inr o), some (.inl (z1 + 1)), none, none]) ⟨rfl, rfl, trivial⟩ hK
abbrev qModel_laysWays_l188 (G : GT) (E : ET) (o : Nat) (mi : MI)  (r : RT) (t : Int × MI) : Prop := sM (xModel_laysWays G) 188 [some (.inr o), some (.inl t.1), none, none] [] E (sm_gl o 10 t.2 mi) r
abbrev kModel_laysWays_l188 (G : GT) (E : ET) (o : Nat) (mi : MI)  (r : RT) (x : MI) : Prop := sM (xModel_laysWays G) 271 [none, none, none, none] [] E (sm_gl o 10 x mi) r
abbrev qModel_laysWays_l196 (G : GT) (E : ET) (o : Nat) (mi : MI) (z1 : Int) (r : RT) (t : Int × MI) : Prop := sM (xModel_laysWays G) 196 [some (.inr o), some (.inl z1), some (.inl t.1), none] [] E (sm_gl o 10 t.2 mi) r
abbrev kModel_laysWays_l196 (G : GT) (E : ET) (o : Nat) (mi : MI) (z1 : Int) (r : RT) (x : MI) : Prop := sM (xModel_laysWays G) 265 [some (.inr o), some (.inl z1), none, none] [] E (sm_gl o 10 x mi) r
def fModel_laysWays_j258_l196 (z1 : Int) (z2 : Int) (y1 : Int) (y2 : Int) (s : MI) : Option ((Int × MI) ⊕ (MI)) :=
  if 0 ≤ sm_w y1 ∧ sm_w y1 < 144 then Option.bind (some (sm_up s 7 (sm_w y1).toNat y2)) (fun s33 => some (.inl ((z2 + 1), s33))) else none
set_option maxRecDepth 100000 in
set_option maxHeartbeats 4000000 in
theorem bModel_laysWays_j258_l196 {G : GT} {E : ET} {o : Nat} {s mi : MI} {z1 : Int} {z2 : Int} {y1 : Int} {y2 : Int} {r : RT} {w : (Int × MI) ⊕ (MI)} (g : gL E o)  (h : fModel_laysWays_j258_l196 z1 z2 y1 y2 s = some w) (hK : Sum.elim (qModel_laysWays_l196 G E o mi z1 r) (kModel_laysWays_l196 G E o mi z1 r) w) : sM (xModel_laysWays G) 258 [some (.inr o), some (.inl z1), some (.inl z2), none] [.inl y2, .inl y1, .inr (o + 7)] E (sm_gl o 10 s mi) r := by
  have hN1 := g.1
  have hN2 := g.2.1
  unfold fModel_laysWays_j258_l196 at h
  obtain ⟨q32, h⟩ := sl_guard h
  have xq32 := (sl_ix (m := 144) q32).2
  refine sl_iastk (D := 7) (k := (sm_w y1).toNat) g.2.2.2.2.2.2.2.2.2.1.1 rfl (by omega) ⟨hN1, hN2⟩ (sl_ix (m := 144) q32) dX10_laysWays_258 ?_
  obtain ⟨s33, hs34, h⟩ := sl_bind h
  rw [Option.some.inj hs34]
  refine sm_iinc dX10_laysWays_259 (Nat.le_of_ble_eq_true rfl) rfl ?_
  refine sm_goto 196 dX10_laysWays_262 rfl ?_
  cases h
  exact sm_less (lv' := [some (.inr o), some (.inl z1), some (.inl (z2 + 1)), none]) ⟨rfl, rfl, rfl, trivial⟩ hK
def fModel_laysWays_l196 (z1 : Int) (z2 : Int) (s : MI) : Option ((Int × MI) ⊕ (MI)) :=
  (if 144 ≤ sm_w z2 then some (.inr s) else if 0 ≤ sm_w (((sm_div z2 12) * 12) + z1) ∧ sm_w (((sm_div z2 12) * 12) + z1) < 144 then if 0 ≤ sm_w ((12 * z1) + (sm_rem z2 12)) ∧ sm_w ((12 * z1) + (sm_rem z2 12)) < 144 then if 0 ≤ sm_w z2 ∧ sm_w z2 < 144 then (if sm_w (s 7 (sm_w z2).toNat) ≤ sm_w ((s 7 (sm_w (((sm_div z2 12) * 12) + z1)).toNat) + (s 7 (sm_w ((12 * z1) + (sm_rem z2 12))).toNat)) then fModel_laysWays_j258_l196 z1 z2 z2 (s 7 (sm_w z2).toNat) s else fModel_laysWays_j258_l196 z1 z2 z2 ((s 7 (sm_w (((sm_div z2 12) * 12) + z1)).toNat) + (s 7 (sm_w ((12 * z1) + (sm_rem z2 12))).toNat)) s) else none else none else none)
set_option maxRecDepth 100000 in
set_option maxHeartbeats 4000000 in
theorem bModel_laysWays_l196 {G : GT} {E : ET} {o : Nat} {s mi : MI} {z1 : Int} {z2 : Int} {r : RT} {w : (Int × MI) ⊕ (MI)} (g : gL E o)  (h : fModel_laysWays_l196 z1 z2 s = some w) (hK : Sum.elim (qModel_laysWays_l196 G E o mi z1 r) (kModel_laysWays_l196 G E o mi z1 r) w) : qModel_laysWays_l196 G E o mi z1 r (z2, s) := by
  have hN1 := g.1
  have hN2 := g.2.1
  unfold fModel_laysWays_l196 at h
  show sM (xModel_laysWays G) 196 [some (.inr o), some (.inl z1), some (.inl z2), none] [] E (sm_gl o 10 s mi) r
  refine sm_iload_n dX10_laysWays_196 rfl ?_
  refine sm_sipush dX10_laysWays_197 rfl ?_
  refine sc_icmp_ge (X' := sm_w z2) (Y' := 144) 265 dX10_laysWays_200 rfl rfl (by decide) (fun c36 => ?_) (fun c36 => ?_)
  · rw [if_pos c36] at h
    cases h
    exact sm_less (lv' := [some (.inr o), some (.inl z1), none, none]) ⟨rfl, rfl, trivial⟩ hK
  · rw [if_neg c36] at h
    refine sm_aload_n dX10_laysWays_203 rfl ?_
    refine sm_getR lf_RX10_28 fR_7_9 g.2.2.1 (by omega) g.2.2.2.2.2.2.2.2.2.1.2 dX10_laysWays_204 ?_
    refine sm_iload_n dX10_laysWays_207 rfl ?_
    refine sm_bipush dX10_laysWays_208 rfl ?_
    refine sm_idiv dX10_laysWays_210 (by decide) ?_
    refine sm_bipush dX10_laysWays_211 rfl ?_
    refine sm_imul dX10_laysWays_213 ?_
    refine sm_iload_n dX10_laysWays_214 rfl ?_
    refine sm_iadd dX10_laysWays_215 ?_
    obtain ⟨q29, h⟩ := sl_guard h
    have xq29 := (sl_ix (m := 144) q29).2
    refine sl_ialdk (D := 7) (k := (sm_w (((sm_div z2 12) * 12) + z1)).toNat) g.2.2.2.2.2.2.2.2.2.1.1 rfl (by omega) hN2 (sl_ix (m := 144) q29) dX10_laysWays_216 ?_
    refine sm_aload_n dX10_laysWays_217 rfl ?_
    refine sm_getR lf_RX10_28 fR_7_9 g.2.2.1 (by omega) g.2.2.2.2.2.2.2.2.2.1.2 dX10_laysWays_218 ?_
    refine sm_bipush dX10_laysWays_221 rfl ?_
    refine sm_iload_n dX10_laysWays_223 rfl ?_
    refine sm_imul dX10_laysWays_224 ?_
    refine sm_iload_n dX10_laysWays_225 rfl ?_
    refine sm_bipush dX10_laysWays_226 rfl ?_
    refine sm_irem dX10_laysWays_228 (by decide) ?_
    refine sm_iadd dX10_laysWays_229 ?_
    obtain ⟨q30, h⟩ := sl_guard h
    have xq30 := (sl_ix (m := 144) q30).2
    refine sl_ialdk (D := 7) (k := (sm_w ((12 * z1) + (sm_rem z2 12))).toNat) g.2.2.2.2.2.2.2.2.2.1.1 rfl (by omega) hN2 (sl_ix (m := 144) q30) dX10_laysWays_230 ?_
    refine sm_iadd dX10_laysWays_231 ?_
    refine sm_istore_n dX10_laysWays_232 (Nat.le_of_ble_eq_true rfl) ?_
    refine sm_aload_n dX10_laysWays_233 rfl ?_
    refine sm_getR lf_RX10_28 fR_7_9 g.2.2.1 (by omega) g.2.2.2.2.2.2.2.2.2.1.2 dX10_laysWays_234 ?_
    refine sm_iload_n dX10_laysWays_237 rfl ?_
    refine sm_iload_n dX10_laysWays_238 rfl ?_
    refine sm_aload_n dX10_laysWays_239 rfl ?_
    refine sm_getR lf_RX10_28 fR_7_9 g.2.2.1 (by omega) g.2.2.2.2.2.2.2.2.2.1.2 dX10_laysWays_240 ?_
    refine sm_iload_n dX10_laysWays_243 rfl ?_
    obtain ⟨q31, h⟩ := sl_guard h
    have xq31 := (sl_ix (m := 144) q31).2
    refine sl_ialdk (D := 7) (k := (sm_w z2).toNat) g.2.2.2.2.2.2.2.2.2.1.1 rfl (by omega) hN2 (sl_ix (m := 144) q31) dX10_laysWays_244 ?_
    refine sc_icmp_ge (X' := sm_w ((s 7 (sm_w (((sm_div z2 12) * 12) + z1)).toNat) + (s 7 (sm_w ((12 * z1) + (sm_rem z2 12))).toNat))) (Y' := sm_w (s 7 (sm_w z2).toNat)) 252 dX10_laysWays_245 rfl rfl rfl (fun c35 => ?_) (fun c35 => ?_)
    · rw [if_pos c35] at h
      refine sm_aload_n dX10_laysWays_252 rfl ?_
      refine sm_getR lf_RX10_28 fR_7_9 g.2.2.1 (by omega) g.2.2.2.2.2.2.2.2.2.1.2 dX10_laysWays_253 ?_
      refine sm_iload_n dX10_laysWays_256 rfl ?_
      refine sl_ialdk (D := 7) (k := (sm_w z2).toNat) g.2.2.2.2.2.2.2.2.2.1.1 rfl (by omega) hN2 (sl_ix (m := 144) q31) dX10_laysWays_257 ?_
      exact sm_less (lv' := [some (.inr o), some (.inl z1), some (.inl z2), none]) ⟨rfl, rfl, rfl, trivial⟩ (bModel_laysWays_j258_l196 g   h hK)
    · rw [if_neg c35] at h
      refine sm_iload_n dX10_laysWays_248 rfl ?_
      refine sm_goto 258 dX10_laysWays_249 rfl ?_
      exact sm_less (lv' := [some (.inr o), some (.inl z1), some (.inl z2), none]) ⟨rfl, rfl, rfl, trivial⟩ (bModel_laysWays_j258_l196 g   h hK)
def fModel_laysWays_l188 (z1 : Int) (s : MI) : Option ((Int × MI) ⊕ (MI)) :=
  (if 12 ≤ sm_w z1 then some (.inr s) else Option.bind (sl_it (fun (t : Int × MI) => fModel_laysWays_l196 z1 t.1 t.2) sl_fu (0, s)) (fun x39 => some (.inl ((z1 + 1), x39))))
set_option maxRecDepth 100000 in
set_option maxHeartbeats 4000000 in
theorem bModel_laysWays_l188 {G : GT} {E : ET} {o : Nat} {s mi : MI} {z1 : Int} {r : RT} {w : (Int × MI) ⊕ (MI)} (g : gL E o)  (h : fModel_laysWays_l188 z1 s = some w) (hK : Sum.elim (qModel_laysWays_l188 G E o mi r) (kModel_laysWays_l188 G E o mi r) w) : qModel_laysWays_l188 G E o mi r (z1, s) := by
  have hN1 := g.1
  have hN2 := g.2.1
  unfold fModel_laysWays_l188 at h
  show sM (xModel_laysWays G) 188 [some (.inr o), some (.inl z1), none, none] [] E (sm_gl o 10 s mi) r
  refine sm_iload_n dX10_laysWays_188 rfl ?_
  refine sm_bipush dX10_laysWays_189 rfl ?_
  refine sc_icmp_ge (X' := sm_w z1) (Y' := 12) 271 dX10_laysWays_191 rfl rfl (by decide) (fun c40 => ?_) (fun c40 => ?_)
  · rw [if_pos c40] at h
    cases h
    exact sm_less (lv' := [none, none, none, none]) trivial hK
  · rw [if_neg c40] at h
    refine sm_iconst dX10_laysWays_194 ?_
    refine sm_istore_n dX10_laysWays_195 (Nat.le_of_ble_eq_true rfl) ?_
    obtain ⟨x39, hy38, h⟩ := sl_bind h
    refine sm_less (lv' := [some (.inr o), some (.inl z1), some (.inl 0), none]) ⟨rfl, rfl, rfl, trivial⟩ (sl_itE (P := qModel_laysWays_l196 G E o mi z1 _) (K := kModel_laysWays_l196 G E o mi z1 _) (fun t q hq hk => bModel_laysWays_l196 g  hq hk) sl_fu _ x39 hy38 ?_)
    show sM (xModel_laysWays G) 265 [some (.inr o), some (.inl z1), none, none] [] E (sm_gl o 10 x39 mi) _
    refine sm_iinc dX10_laysWays_265 (Nat.le_of_ble_eq_true rfl) rfl ?_
    refine sm_goto 188 dX10_laysWays_268 rfl ?_
    cases h
    exact sm_less (lv' := [some (.inr o), some (.inl (z1 + 1)), none, none]) ⟨rfl, rfl, trivial⟩ hK
def fModel_laysWays  (s : MI) : Option (MI) :=
  Option.bind (sl_it (fun (t : Int × MI) => fModel_laysWays_l2 t.1 t.2) sl_fu (0, s)) (fun x11 => Option.bind (sl_it (fun (t : Int × MI) => fModel_laysWays_l48 t.1 t.2) sl_fu (0, x11)) (fun x28 => Option.bind (sl_it (fun (t : Int × MI) => fModel_laysWays_l188 t.1 t.2) sl_fu (0, x28)) (fun x43 => some x43)))
set_option maxRecDepth 100000 in
set_option maxHeartbeats 4000000 in
theorem bModel_laysWays {G : GT} {E : ET} {o : Nat} {s mi : MI}  {w : MI} (g : gL E o)  (h : fModel_laysWays s = some w) : cN G yX10_laysWays cX10_laysWays 4 none 0 0 [.inr o] E (sm_gl o 10 s mi) (none, E, sm_gl o 10 w mi) := by
  have hN1 := g.1
  have hN2 := g.2.1
  unfold fModel_laysWays at h
  refine sm_meth (by decide +kernel) (Nat.le_of_ble_eq_true rfl) ?_
  show sM (xModel_laysWays G) 0 [some (.inr o), none, none, none] [] E (sm_gl o 10 s mi) _
  refine sm_iconst dX10_laysWays_0 ?_
  refine sm_istore_n dX10_laysWays_1 (Nat.le_of_ble_eq_true rfl) ?_
  obtain ⟨x11, hy10, h⟩ := sl_bind h
  refine sm_less (lv' := [some (.inr o), some (.inl 0), none, none]) ⟨rfl, rfl, trivial⟩ (sl_itE (P := qModel_laysWays_l2 G E o mi _) (K := kModel_laysWays_l2 G E o mi _) (fun t q hq hk => bModel_laysWays_l2 g  hq hk) sl_fu _ x11 hy10 ?_)
  show sM (xModel_laysWays G) 46 [some (.inr o), none, none, none] [] E (sm_gl o 10 x11 mi) _
  refine sm_iconst dX10_laysWays_46 ?_
  refine sm_istore_n dX10_laysWays_47 (Nat.le_of_ble_eq_true rfl) ?_
  obtain ⟨x28, hy27, h⟩ := sl_bind h
  refine sm_less (lv' := [some (.inr o), some (.inl 0), none, none]) ⟨rfl, rfl, trivial⟩ (sl_itE (P := qModel_laysWays_l48 G E o mi _) (K := kModel_laysWays_l48 G E o mi _) (fun t q hq hk => bModel_laysWays_l48 g  hq hk) sl_fu _ x28 hy27 ?_)
  show sM (xModel_laysWays G) 186 [some (.inr o), none, none, none] [] E (sm_gl o 10 x28 mi) _
  refine sm_iconst dX10_laysWays_186 ?_
  refine sm_istore_n dX10_laysWays_187 (Nat.le_of_ble_eq_true rfl) ?_
  obtain ⟨x43, hy42, h⟩ := sl_bind h
  refine sm_less (lv' := [some (.inr o), some (.inl 0), none, none]) ⟨rfl, rfl, trivial⟩ (sl_itE (P := qModel_laysWays_l188 G E o mi _) (K := kModel_laysWays_l188 G E o mi _) (fun t q hq hk => bModel_laysWays_l188 g  hq hk) sl_fu _ x43 hy42 ?_)
  show sM (xModel_laysWays G) 271 [none, none, none, none] [] E (sm_gl o 10 x43 mi) _
  cases h
  exact sm_return rfl dX10_laysWays_271
abbrev xModel_in (G : GT) : XT := (G, yX10_in.cls, cX10_in, 3, (some .boolean), decide (yX10_in.name = "<init>"), 0, 0)
def fModel_in (z0 : Int) (z1 : Int) (z2 : Int) : Option (Int) :=
  (if sm_w z0 < sm_w z1 then some 0 else (if sm_w z2 < sm_w z0 then some 0 else some 1))
set_option maxRecDepth 100000 in
set_option maxHeartbeats 4000000 in
theorem bModel_in {G : GT} {E : ET} {mi : MI} {z0 : Int} {z1 : Int} {z2 : Int} {w : Int}   (h : fModel_in z0 z1 z2 = some w) : cN G yX10_in cX10_in 3 (some .boolean) 0 0 [.inl z0, .inl z1, .inl z2] E mi (some (.inl w), E, mi) := by
  unfold fModel_in at h
  refine sm_meth (by decide +kernel) (Nat.le_of_ble_eq_true rfl) ?_
  show sM (xModel_in G) 0 [some (.inl z0), some (.inl z1), some (.inl z2)] [] E mi _
  refine sm_iload_n dX10_in_0 rfl ?_
  refine sm_iload_n dX10_in_1 rfl ?_
  refine sc_icmp_lt (X' := sm_w z0) (Y' := sm_w z1) 14 dX10_in_2 rfl rfl rfl (fun c2 => ?_) (fun c2 => ?_)
  · rw [if_pos c2] at h
    refine sm_iconst dX10_in_14 ?_
    cases h
    exact sm_ireturn dX10_in_15 (Or.inr ⟨rfl, Or.inl rfl⟩)
  · rw [if_neg c2] at h
    refine sm_iload_n dX10_in_5 rfl ?_
    refine sm_iload_n dX10_in_6 rfl ?_
    refine sc_icmp_gt (X' := sm_w z0) (Y' := sm_w z2) 14 dX10_in_7 rfl rfl rfl (fun c1 => ?_) (fun c1 => ?_)
    · rw [if_pos c1] at h
      refine sm_iconst dX10_in_14 ?_
      cases h
      exact sm_ireturn dX10_in_15 (Or.inr ⟨rfl, Or.inl rfl⟩)
    · rw [if_neg c1] at h
      refine sm_iconst dX10_in_10 ?_
      refine sm_goto 15 dX10_in_11 rfl ?_
      cases h
      exact sm_ireturn dX10_in_15 (Or.inr ⟨rfl, Or.inr rfl⟩)
abbrev xModel_copies (G : GT) : XT := (G, yX10_copies.cls, cX10_copies, 5, none, decide (yX10_copies.name = "<init>"), 0, 0)
abbrev qModel_copies_l3 (G : GT) (E : ET) (o : Nat) (mi : MI) (d0 : Nat) (m0 : Nat) (z1 : Int) (d2 : Nat) (m2 : Nat) (z3 : Int) (r : RT) (t : Int × MI) : Prop := sM (xModel_copies G) 3 [some (.inr (o + d0)), some (.inl z1), some (.inr (o + d2)), some (.inl z3), some (.inl t.1)] [] E (sm_gl o 10 t.2 mi) r
abbrev kModel_copies_l3 (G : GT) (E : ET) (o : Nat) (mi : MI) (d0 : Nat) (m0 : Nat) (z1 : Int) (d2 : Nat) (m2 : Nat) (z3 : Int) (r : RT) (x : MI) : Prop := sM (xModel_copies G) 29 [none, none, none, none, none] [] E (sm_gl o 10 x mi) r
def fModel_copies_l3 (d0 : Nat) (m0 : Nat) (z1 : Int) (d2 : Nat) (m2 : Nat) (z3 : Int) (z4 : Int) (s : MI) : Option ((Int × MI) ⊕ (MI)) :=
  (if 810 ≤ sm_w z4 then some (.inr s) else if 0 ≤ sm_w (z1 + z4) ∧ sm_w (z1 + z4) < (m0 : Int) then if 0 ≤ sm_w (z3 + z4) ∧ sm_w (z3 + z4) < (m2 : Int) then Option.bind (some (sm_up s d2 (sm_w (z3 + z4)).toNat (s d0 (sm_w (z1 + z4)).toNat))) (fun s3 => some (.inl ((z4 + 1), s3))) else none else none)
set_option maxRecDepth 100000 in
set_option maxHeartbeats 4000000 in
theorem bModel_copies_l3 {G : GT} {E : ET} {o : Nat} {s mi : MI} {d0 : Nat} {m0 : Nat} {z1 : Int} {d2 : Nat} {m2 : Nat} {z3 : Int} {z4 : Int} {r : RT} {w : (Int × MI) ⊕ (MI)} (hN1 : 3 ≤ o) (hN2 : o + 10 ≤ E.sz) (gd0 : E.sh (o + d0) = (20, m0)) (hd0 : d0 + 1 ≤ 10) (gd2 : E.sh (o + d2) = (20, m2)) (hd2 : d2 + 1 ≤ 10) (h : fModel_copies_l3 d0 m0 z1 d2 m2 z3 z4 s = some w) (hK : Sum.elim (qModel_copies_l3 G E o mi d0 m0 z1 d2 m2 z3 r) (kModel_copies_l3 G E o mi d0 m0 z1 d2 m2 z3 r) w) : qModel_copies_l3 G E o mi d0 m0 z1 d2 m2 z3 r (z4, s) := by
  unfold fModel_copies_l3 at h
  show sM (xModel_copies G) 3 [some (.inr (o + d0)), some (.inl z1), some (.inr (o + d2)), some (.inl z3), some (.inl z4)] [] E (sm_gl o 10 s mi) r
  refine sm_iload dX10_copies_3 rfl ?_
  refine sm_sipush dX10_copies_5 rfl ?_
  refine sc_icmp_ge (X' := sm_w z4) (Y' := 810) 29 dX10_copies_8 rfl rfl (by decide) (fun c5 => ?_) (fun c5 => ?_)
  · rw [if_pos c5] at h
    cases h
    exact sm_less (lv' := [none, none, none, none, none]) trivial hK
  · rw [if_neg c5] at h
    refine sm_aload_n dX10_copies_11 rfl ?_
    refine sm_iload_n dX10_copies_12 rfl ?_
    refine sm_iload dX10_copies_13 rfl ?_
    refine sm_iadd dX10_copies_15 ?_
    refine sm_aload_n dX10_copies_16 rfl ?_
    refine sm_iload_n dX10_copies_17 rfl ?_
    refine sm_iload dX10_copies_18 rfl ?_
    refine sm_iadd dX10_copies_20 ?_
    obtain ⟨q1, h⟩ := sl_guard h
    have xq1 := (sl_ix (m := m0) q1).2
    refine sl_ialdk (D := d0) (k := (sm_w (z1 + z4)).toNat) (And.intro gd0 True.intro).1 rfl (by omega) hN2 (sl_ix (m := m0) q1) dX10_copies_21 ?_
    obtain ⟨q2, h⟩ := sl_guard h
    have xq2 := (sl_ix (m := m2) q2).2
    refine sl_iastk (D := d2) (k := (sm_w (z3 + z4)).toNat) (And.intro gd2 True.intro).1 rfl (by omega) ⟨hN1, hN2⟩ (sl_ix (m := m2) q2) dX10_copies_22 ?_
    obtain ⟨s3, hs4, h⟩ := sl_bind h
    rw [Option.some.inj hs4]
    refine sm_iinc dX10_copies_23 (Nat.le_of_ble_eq_true rfl) rfl ?_
    refine sm_goto 3 dX10_copies_26 rfl ?_
    cases h
    exact sm_less (lv' := [some (.inr (o + d0)), some (.inl z1), some (.inr (o + d2)), some (.inl z3), some (.inl (z4 + 1))]) ⟨rfl, rfl, rfl, rfl, rfl, trivial⟩ hK
def fModel_copies (d0 : Nat) (m0 : Nat) (z1 : Int) (d2 : Nat) (m2 : Nat) (z3 : Int) (s : MI) : Option (MI) :=
  Option.bind (sl_it (fun (t : Int × MI) => fModel_copies_l3 d0 m0 z1 d2 m2 z3 t.1 t.2) sl_fu (0, s)) (fun x8 => some x8)
set_option maxRecDepth 100000 in
set_option maxHeartbeats 4000000 in
theorem bModel_copies {G : GT} {E : ET} {o : Nat} {s mi : MI} {d0 : Nat} {m0 : Nat} {z1 : Int} {d2 : Nat} {m2 : Nat} {z3 : Int} {w : MI} (hN1 : 3 ≤ o) (hN2 : o + 10 ≤ E.sz) (gd0 : E.sh (o + d0) = (20, m0)) (hd0 : d0 + 1 ≤ 10) (gd2 : E.sh (o + d2) = (20, m2)) (hd2 : d2 + 1 ≤ 10) (h : fModel_copies d0 m0 z1 d2 m2 z3 s = some w) : cN G yX10_copies cX10_copies 5 none 0 0 [.inr (o + d0), .inl z1, .inr (o + d2), .inl z3] E (sm_gl o 10 s mi) (none, E, sm_gl o 10 w mi) := by
  unfold fModel_copies at h
  refine sm_meth (by decide +kernel) (Nat.le_of_ble_eq_true rfl) ?_
  show sM (xModel_copies G) 0 [some (.inr (o + d0)), some (.inl z1), some (.inr (o + d2)), some (.inl z3), none] [] E (sm_gl o 10 s mi) _
  refine sm_iconst dX10_copies_0 ?_
  refine sm_istore dX10_copies_1 (Nat.le_of_ble_eq_true rfl) ?_
  obtain ⟨x8, hy7, h⟩ := sl_bind h
  refine sm_less (lv' := [some (.inr (o + d0)), some (.inl z1), some (.inr (o + d2)), some (.inl z3), some (.inl 0)]) ⟨rfl, rfl, rfl, rfl, rfl, trivial⟩ (sl_itE (P := qModel_copies_l3 G E o mi d0 m0 z1 d2 m2 z3 _) (K := kModel_copies_l3 G E o mi d0 m0 z1 d2 m2 z3 _) (fun t q hq hk => bModel_copies_l3 hN1 hN2 gd0 hd0 gd2 hd2 hq hk) sl_fu _ x8 hy7 ?_)
  show sM (xModel_copies G) 29 [none, none, none, none, none] [] E (sm_gl o 10 x8 mi) _
  cases h
  exact sm_return rfl dX10_copies_29
abbrev xModel_records (G : GT) : XT := (G, yX10_records.cls, cX10_records, 2, none, decide (yX10_records.name = "<init>"), 1, 24)
def fModel_records_j44  (s : MI) : Option (MI) :=
  Option.bind (fModel_copies 1 810 0 2 3240 ((s 0 2) * 810) s) (fun p1 => Option.bind (some (sm_up p1 0 2 ((p1 0 2) + 1))) (fun s4 => some s4))
set_option maxRecDepth 100000 in
set_option maxHeartbeats 4000000 in
theorem bModel_records_j44 {G : GT} {E : ET} {o : Nat} {s mi : MI}  {w : MI} (g : gL E o)  (h : fModel_records_j44 s = some w) : sM (xModel_records G) 44 [some (.inr o), none] [] E (sm_gl o 10 s mi) (none, E, sm_gl o 10 w mi) := by
  have hN1 := g.1
  have hN2 := g.2.1
  unfold fModel_records_j44 at h
  refine sm_aload_n dX10_records_44 rfl ?_
  refine sm_getR lf_RX10_7 fR_7_0 g.2.2.1 (by omega) g.2.2.2.1.2 dX10_records_45 ?_
  refine sm_iconst dX10_records_48 ?_
  refine sm_aload_n dX10_records_49 rfl ?_
  refine sm_getR lf_RX10_13 fR_7_1 g.2.2.1 (by omega) g.2.2.2.2.1.2 dX10_records_50 ?_
  refine sm_aload_n dX10_records_53 rfl ?_
  refine sl_getI (D := 0) lf_RX10_40 fI_7_2 g.2.2.1 rfl (by omega) hN2 dX10_records_54 ?_
  refine sm_sipush dX10_records_57 rfl ?_
  refine sm_imul dX10_records_60 ?_
  obtain ⟨p1, hp2, h⟩ := sl_bind h
  have hc3 := bModel_copies (G := G) (E := E) (o := o) (s := s) (mi := mi) (by omega) (by omega) g.2.2.2.1.1 (by omega) g.2.2.2.2.1.1 (by omega) hp2
  refine sc_callS0 (avs := [.inr (o + 1), .inl 0, .inr (o + 2), .inl ((s 0 2) * 810)]) (st := []) lk_RX10_44 rfl sf_X10_copies hc3 ⟨(Nat.le_of_ble_eq_true rfl), (Nat.le_of_ble_eq_true rfl)⟩ ⟨rfl, (Nat.le_of_ble_eq_true rfl)⟩ rfl dX10_records_61 ?_
  refine sm_aload_n dX10_records_64 rfl ?_
  refine sm_dup dX10_records_65 ?_
  refine sl_getI (D := 0) lf_RX10_40 fI_7_2 g.2.2.1 rfl (by omega) hN2 dX10_records_66 ?_
  refine sm_iconst dX10_records_69 ?_
  refine sm_iadd dX10_records_70 ?_
  refine sl_putI (D := 0) lf_RX10_40 fP_7_2 (Or.inl rfl) g.2.2.1 rfl (by omega) ⟨hN1, hN2⟩ dX10_records_71 ?_
  obtain ⟨s4, hs5, h⟩ := sl_bind h
  rw [Option.some.inj hs5]
  cases h
  exact sm_return rfl dX10_records_74
abbrev qModel_records_l10 (G : GT) (E : ET) (o : Nat) (mi : MI)  (r : RT) (t : Int × MI) : Prop := sM (xModel_records G) 10 [some (.inr o), some (.inl t.1)] [] E (sm_gl o 10 t.2 mi) r
abbrev kModel_records_l10 (G : GT) (E : ET) (o : Nat) (mi : MI)  (r : RT) (x : MI) : Prop := sM (xModel_records G) 39 [some (.inr o), none] [] E (sm_gl o 10 x mi) r
def fModel_records_l10 (z1 : Int) (s : MI) : Option ((Int × MI) ⊕ (MI)) :=
  (if 2430 ≤ sm_w z1 then some (.inr s) else if 0 ≤ sm_w (z1 + 810) ∧ sm_w (z1 + 810) < 3240 then if 0 ≤ sm_w z1 ∧ sm_w z1 < 3240 then Option.bind (some (sm_up s 2 (sm_w z1).toNat (s 2 (sm_w (z1 + 810)).toNat))) (fun s8 => some (.inl ((z1 + 1), s8))) else none else none)
set_option maxRecDepth 100000 in
set_option maxHeartbeats 4000000 in
theorem bModel_records_l10 {G : GT} {E : ET} {o : Nat} {s mi : MI} {z1 : Int} {r : RT} {w : (Int × MI) ⊕ (MI)} (g : gL E o)  (h : fModel_records_l10 z1 s = some w) (hK : Sum.elim (qModel_records_l10 G E o mi r) (kModel_records_l10 G E o mi r) w) : qModel_records_l10 G E o mi r (z1, s) := by
  have hN1 := g.1
  have hN2 := g.2.1
  unfold fModel_records_l10 at h
  show sM (xModel_records G) 10 [some (.inr o), some (.inl z1)] [] E (sm_gl o 10 s mi) r
  refine sm_iload_n dX10_records_10 rfl ?_
  refine sm_sipush dX10_records_11 rfl ?_
  refine sc_icmp_ge (X' := sm_w z1) (Y' := 2430) 39 dX10_records_14 rfl rfl (by decide) (fun c10 => ?_) (fun c10 => ?_)
  · rw [if_pos c10] at h
    cases h
    exact sm_less (lv' := [some (.inr o), none]) ⟨rfl, trivial⟩ hK
  · rw [if_neg c10] at h
    refine sm_aload_n dX10_records_17 rfl ?_
    refine sm_getR lf_RX10_13 fR_7_1 g.2.2.1 (by omega) g.2.2.2.2.1.2 dX10_records_18 ?_
    refine sm_iload_n dX10_records_21 rfl ?_
    refine sm_aload_n dX10_records_22 rfl ?_
    refine sm_getR lf_RX10_13 fR_7_1 g.2.2.1 (by omega) g.2.2.2.2.1.2 dX10_records_23 ?_
    refine sm_iload_n dX10_records_26 rfl ?_
    refine sm_sipush dX10_records_27 rfl ?_
    refine sm_iadd dX10_records_30 ?_
    obtain ⟨q6, h⟩ := sl_guard h
    have xq6 := (sl_ix (m := 3240) q6).2
    refine sl_ialdk (D := 2) (k := (sm_w (z1 + 810)).toNat) g.2.2.2.2.1.1 rfl (by omega) hN2 (sl_ix (m := 3240) q6) dX10_records_31 ?_
    obtain ⟨q7, h⟩ := sl_guard h
    have xq7 := (sl_ix (m := 3240) q7).2
    refine sl_iastk (D := 2) (k := (sm_w z1).toNat) g.2.2.2.2.1.1 rfl (by omega) ⟨hN1, hN2⟩ (sl_ix (m := 3240) q7) dX10_records_32 ?_
    obtain ⟨s8, hs9, h⟩ := sl_bind h
    rw [Option.some.inj hs9]
    refine sm_iinc dX10_records_33 (Nat.le_of_ble_eq_true rfl) rfl ?_
    refine sm_goto 10 dX10_records_36 rfl ?_
    cases h
    exact sm_less (lv' := [some (.inr o), some (.inl (z1 + 1))]) ⟨rfl, rfl, trivial⟩ hK
def fModel_records  (s : MI) : Option (MI) :=
  (if sm_w (s 0 2) = 4 then Option.bind (sl_it (fun (t : Int × MI) => fModel_records_l10 t.1 t.2) sl_fu (0, s)) (fun x13 => Option.bind (some (sm_up x13 0 2 3)) (fun s14 => fModel_records_j44 s14)) else fModel_records_j44 s)
set_option maxRecDepth 100000 in
set_option maxHeartbeats 4000000 in
theorem bModel_records {G : GT} {E : ET} {o : Nat} {s mi : MI}  {w : MI} (g : gL E o)  (h : fModel_records s = some w) : cN G yX10_records cX10_records 2 none 1 24 [.inr o] E (sm_gl o 10 s mi) (none, E, sm_gl o 10 w mi) := by
  have hN1 := g.1
  have hN2 := g.2.1
  unfold fModel_records at h
  refine sm_meth (by decide +kernel) (Nat.le_of_ble_eq_true rfl) ?_
  show sM (xModel_records G) 0 [some (.inr o), none] [] E (sm_gl o 10 s mi) _
  refine sm_aload_n dX10_records_0 rfl ?_
  refine sl_getI (D := 0) lf_RX10_40 fI_7_2 g.2.2.1 rfl (by omega) hN2 dX10_records_1 ?_
  refine sm_iconst dX10_records_4 ?_
  refine sc_icmp_ne (X' := sm_w (s 0 2)) (Y' := 4) 44 dX10_records_5 rfl rfl (by decide) (fun c16 => ?_) (fun c16 => ?_)
  · rw [if_neg c16] at h
    exact sm_less (lv' := [some (.inr o), none]) ⟨rfl, trivial⟩ (bModel_records_j44 g   h)
  · rw [if_pos c16] at h
    refine sm_iconst dX10_records_8 ?_
    refine sm_istore_n dX10_records_9 (Nat.le_of_ble_eq_true rfl) ?_
    obtain ⟨x13, hy12, h⟩ := sl_bind h
    refine sm_less (lv' := [some (.inr o), some (.inl 0)]) ⟨rfl, rfl, trivial⟩ (sl_itE (P := qModel_records_l10 G E o mi _) (K := kModel_records_l10 G E o mi _) (fun t q hq hk => bModel_records_l10 g  hq hk) sl_fu _ x13 hy12 ?_)
    show sM (xModel_records G) 39 [some (.inr o), none] [] E (sm_gl o 10 x13 mi) _
    refine sm_aload_n dX10_records_39 rfl ?_
    refine sm_iconst dX10_records_40 ?_
    refine sl_putI (D := 0) lf_RX10_40 fP_7_2 (Or.inl rfl) g.2.2.1 rfl (by omega) ⟨hN1, hN2⟩ dX10_records_41 ?_
    obtain ⟨s14, hs15, h⟩ := sl_bind h
    rw [Option.some.inj hs15]
    exact sm_less (lv' := [some (.inr o), none]) ⟨rfl, trivial⟩ (bModel_records_j44 g   h)
abbrev xModel_isArea (G : GT) : XT := (G, yX10_isArea.cls, cX10_isArea, 1, (some .boolean), decide (yX10_isArea.name = "<init>"), 1, 22)
def fModel_isArea (z0 : Int) : Option (Int) :=
  Option.bind (fModel_in z0 0 11) (fun p1 => if p1 = 0 ∨ p1 = 1 then some p1 else none)
set_option maxRecDepth 100000 in
set_option maxHeartbeats 4000000 in
theorem bModel_isArea {G : GT} {E : ET} {mi : MI} {z0 : Int} {w : Int}   (h : fModel_isArea z0 = some w) : cN G yX10_isArea cX10_isArea 1 (some .boolean) 1 22 [.inl z0] E mi (some (.inl w), E, mi) := by
  unfold fModel_isArea at h
  refine sm_meth (by decide +kernel) (Nat.le_of_ble_eq_true rfl) ?_
  show sM (xModel_isArea G) 0 [some (.inl z0)] [] E mi _
  refine sm_iload_n dX10_isArea_0 rfl ?_
  refine sm_iconst dX10_isArea_1 ?_
  refine sm_bipush dX10_isArea_2 rfl ?_
  obtain ⟨p1, hp2, h⟩ := sl_bind h
  have hc3 := bModel_in (G := G) (E := E) (mi := mi)   hp2
  refine sc_callS1 (avs := [.inl z0, .inl 0, .inl 11]) (st := []) lk_RX10_48 rfl sf_X10_in hc3 ⟨(Nat.le_of_ble_eq_true rfl), (Nat.le_of_ble_eq_true rfl)⟩ ⟨rfl, (Nat.le_of_ble_eq_true rfl)⟩ rfl dX10_isArea_4 ?_
  obtain ⟨q4, h⟩ := sl_guard h
  cases h
  exact sm_ireturn dX10_isArea_7 (Or.inr ⟨rfl, q4⟩)
abbrev xModel_region (G : GT) : XT := (G, yX10_region.cls, cX10_region, 1, (some .int), decide (yX10_region.name = "<init>"), 0, 0)
def fModel_region (z0 : Int) : Option (Int) :=
  some (sm_div z0 4)
set_option maxRecDepth 100000 in
set_option maxHeartbeats 4000000 in
theorem bModel_region {G : GT} {E : ET} {mi : MI} {z0 : Int} {w : Int}   (h : fModel_region z0 = some w) : cN G yX10_region cX10_region 1 (some .int) 0 0 [.inl z0] E mi (some (.inl w), E, mi) := by
  unfold fModel_region at h
  refine sm_meth (by decide +kernel) (Nat.le_of_ble_eq_true rfl) ?_
  show sM (xModel_region G) 0 [some (.inl z0)] [] E mi _
  refine sm_iload_n dX10_region_0 rfl ?_
  refine sm_iconst dX10_region_1 ?_
  refine sm_idiv dX10_region_2 (by decide) ?_
  cases h
  exact sm_ireturn dX10_region_3 (Or.inl rfl)
abbrev xModel_isMember (G : GT) : XT := (G, yX10_isMember.cls, cX10_isMember, 2, (some .boolean), decide (yX10_isMember.name = "<init>"), 1, 22)
def fModel_isMember (z1 : Int) (s : MI) : Option (Int) :=
  Option.bind (fModel_in z1 0 ((s 1 6) - 1)) (fun p1 => if p1 = 0 ∨ p1 = 1 then some p1 else none)
set_option maxRecDepth 100000 in
set_option maxHeartbeats 4000000 in
theorem bModel_isMember {G : GT} {E : ET} {o : Nat} {s mi : MI} {z1 : Int} {w : Int} (g : gL E o)  (h : fModel_isMember z1 s = some w) : cN G yX10_isMember cX10_isMember 2 (some .boolean) 1 22 [.inr o, .inl z1] E (sm_gl o 10 s mi) (some (.inl w), E, (sm_gl o 10 s mi)) := by
  have hN1 := g.1
  have hN2 := g.2.1
  unfold fModel_isMember at h
  refine sm_meth (by decide +kernel) (Nat.le_of_ble_eq_true rfl) ?_
  show sM (xModel_isMember G) 0 [some (.inr o), some (.inl z1)] [] E (sm_gl o 10 s mi) _
  refine sm_iload_n dX10_isMember_0 rfl ?_
  refine sm_iconst dX10_isMember_1 ?_
  refine sm_aload_n dX10_isMember_2 rfl ?_
  refine sm_getR lf_RX10_7 fR_7_0 g.2.2.1 (by omega) g.2.2.2.1.2 dX10_isMember_3 ?_
  refine sm_bipush dX10_isMember_6 rfl ?_
  refine sl_ialdk (D := 1) (k := 6) g.2.2.2.1.1 rfl (by omega) hN2 ⟨by decide, by decide⟩ dX10_isMember_8 ?_
  refine sm_iconst dX10_isMember_9 ?_
  refine sm_isub dX10_isMember_10 ?_
  obtain ⟨p1, hp2, h⟩ := sl_bind h
  have hc3 := bModel_in (G := G) (E := E) (mi := (sm_gl o 10 s mi))   hp2
  refine sc_callS1 (avs := [.inl z1, .inl 0, .inl ((s 1 6) - 1)]) (st := []) lk_RX10_48 rfl sf_X10_in hc3 ⟨(Nat.le_of_ble_eq_true rfl), (Nat.le_of_ble_eq_true rfl)⟩ ⟨rfl, (Nat.le_of_ble_eq_true rfl)⟩ rfl dX10_isMember_11 ?_
  obtain ⟨q4, h⟩ := sl_guard h
  cases h
  exact sm_ireturn dX10_isMember_14 (Or.inr ⟨rfl, q4⟩)
abbrev xModel_isPatrol (G : GT) : XT := (G, yX10_isPatrol.cls, cX10_isPatrol, 2, (some .boolean), decide (yX10_isPatrol.name = "<init>"), 1, 22)
def fModel_isPatrol (z1 : Int) (s : MI) : Option (Int) :=
  Option.bind (fModel_in z1 0 ((s 1 7) - 1)) (fun p1 => if p1 = 0 ∨ p1 = 1 then some p1 else none)
set_option maxRecDepth 100000 in
set_option maxHeartbeats 4000000 in
theorem bModel_isPatrol {G : GT} {E : ET} {o : Nat} {s mi : MI} {z1 : Int} {w : Int} (g : gL E o)  (h : fModel_isPatrol z1 s = some w) : cN G yX10_isPatrol cX10_isPatrol 2 (some .boolean) 1 22 [.inr o, .inl z1] E (sm_gl o 10 s mi) (some (.inl w), E, (sm_gl o 10 s mi)) := by
  have hN1 := g.1
  have hN2 := g.2.1
  unfold fModel_isPatrol at h
  refine sm_meth (by decide +kernel) (Nat.le_of_ble_eq_true rfl) ?_
  show sM (xModel_isPatrol G) 0 [some (.inr o), some (.inl z1)] [] E (sm_gl o 10 s mi) _
  refine sm_iload_n dX10_isPatrol_0 rfl ?_
  refine sm_iconst dX10_isPatrol_1 ?_
  refine sm_aload_n dX10_isPatrol_2 rfl ?_
  refine sm_getR lf_RX10_7 fR_7_0 g.2.2.1 (by omega) g.2.2.2.1.2 dX10_isPatrol_3 ?_
  refine sm_bipush dX10_isPatrol_6 rfl ?_
  refine sl_ialdk (D := 1) (k := 7) g.2.2.2.1.1 rfl (by omega) hN2 ⟨by decide, by decide⟩ dX10_isPatrol_8 ?_
  refine sm_iconst dX10_isPatrol_9 ?_
  refine sm_isub dX10_isPatrol_10 ?_
  obtain ⟨p1, hp2, h⟩ := sl_bind h
  have hc3 := bModel_in (G := G) (E := E) (mi := (sm_gl o 10 s mi))   hp2
  refine sc_callS1 (avs := [.inl z1, .inl 0, .inl ((s 1 7) - 1)]) (st := []) lk_RX10_48 rfl sf_X10_in hc3 ⟨(Nat.le_of_ble_eq_true rfl), (Nat.le_of_ble_eq_true rfl)⟩ ⟨rfl, (Nat.le_of_ble_eq_true rfl)⟩ rfl dX10_isPatrol_11 ?_
  obtain ⟨q4, h⟩ := sl_guard h
  cases h
  exact sm_ireturn dX10_isPatrol_14 (Or.inr ⟨rfl, q4⟩)
abbrev xModel_isGarage (G : GT) : XT := (G, yX10_isGarage.cls, cX10_isGarage, 2, (some .boolean), decide (yX10_isGarage.name = "<init>"), 1, 22)
def fModel_isGarage (z1 : Int) (s : MI) : Option (Int) :=
  Option.bind (fModel_in z1 0 ((s 1 8) - 1)) (fun p1 => if p1 = 0 ∨ p1 = 1 then some p1 else none)
set_option maxRecDepth 100000 in
set_option maxHeartbeats 4000000 in
theorem bModel_isGarage {G : GT} {E : ET} {o : Nat} {s mi : MI} {z1 : Int} {w : Int} (g : gL E o)  (h : fModel_isGarage z1 s = some w) : cN G yX10_isGarage cX10_isGarage 2 (some .boolean) 1 22 [.inr o, .inl z1] E (sm_gl o 10 s mi) (some (.inl w), E, (sm_gl o 10 s mi)) := by
  have hN1 := g.1
  have hN2 := g.2.1
  unfold fModel_isGarage at h
  refine sm_meth (by decide +kernel) (Nat.le_of_ble_eq_true rfl) ?_
  show sM (xModel_isGarage G) 0 [some (.inr o), some (.inl z1)] [] E (sm_gl o 10 s mi) _
  refine sm_iload_n dX10_isGarage_0 rfl ?_
  refine sm_iconst dX10_isGarage_1 ?_
  refine sm_aload_n dX10_isGarage_2 rfl ?_
  refine sm_getR lf_RX10_7 fR_7_0 g.2.2.1 (by omega) g.2.2.2.1.2 dX10_isGarage_3 ?_
  refine sm_bipush dX10_isGarage_6 rfl ?_
  refine sl_ialdk (D := 1) (k := 8) g.2.2.2.1.1 rfl (by omega) hN2 ⟨by decide, by decide⟩ dX10_isGarage_8 ?_
  refine sm_iconst dX10_isGarage_9 ?_
  refine sm_isub dX10_isGarage_10 ?_
  obtain ⟨p1, hp2, h⟩ := sl_bind h
  have hc3 := bModel_in (G := G) (E := E) (mi := (sm_gl o 10 s mi))   hp2
  refine sc_callS1 (avs := [.inl z1, .inl 0, .inl ((s 1 8) - 1)]) (st := []) lk_RX10_48 rfl sf_X10_in hc3 ⟨(Nat.le_of_ble_eq_true rfl), (Nat.le_of_ble_eq_true rfl)⟩ ⟨rfl, (Nat.le_of_ble_eq_true rfl)⟩ rfl dX10_isGarage_11 ?_
  obtain ⟨q4, h⟩ := sl_guard h
  cases h
  exact sm_ireturn dX10_isGarage_14 (Or.inr ⟨rfl, q4⟩)
abbrev xModel_isCall (G : GT) : XT := (G, yX10_isCall.cls, cX10_isCall, 2, (some .boolean), decide (yX10_isCall.name = "<init>"), 1, 22)
def fModel_isCall (z1 : Int) (s : MI) : Option (Int) :=
  Option.bind (fModel_in z1 0 ((s 1 9) - 1)) (fun p1 => if p1 = 0 ∨ p1 = 1 then some p1 else none)
set_option maxRecDepth 100000 in
set_option maxHeartbeats 4000000 in
theorem bModel_isCall {G : GT} {E : ET} {o : Nat} {s mi : MI} {z1 : Int} {w : Int} (g : gL E o)  (h : fModel_isCall z1 s = some w) : cN G yX10_isCall cX10_isCall 2 (some .boolean) 1 22 [.inr o, .inl z1] E (sm_gl o 10 s mi) (some (.inl w), E, (sm_gl o 10 s mi)) := by
  have hN1 := g.1
  have hN2 := g.2.1
  unfold fModel_isCall at h
  refine sm_meth (by decide +kernel) (Nat.le_of_ble_eq_true rfl) ?_
  show sM (xModel_isCall G) 0 [some (.inr o), some (.inl z1)] [] E (sm_gl o 10 s mi) _
  refine sm_iload_n dX10_isCall_0 rfl ?_
  refine sm_iconst dX10_isCall_1 ?_
  refine sm_aload_n dX10_isCall_2 rfl ?_
  refine sm_getR lf_RX10_7 fR_7_0 g.2.2.1 (by omega) g.2.2.2.1.2 dX10_isCall_3 ?_
  refine sm_bipush dX10_isCall_6 rfl ?_
  refine sl_ialdk (D := 1) (k := 9) g.2.2.2.1.1 rfl (by omega) hN2 ⟨by decide, by decide⟩ dX10_isCall_8 ?_
  refine sm_iconst dX10_isCall_9 ?_
  refine sm_isub dX10_isCall_10 ?_
  obtain ⟨p1, hp2, h⟩ := sl_bind h
  have hc3 := bModel_in (G := G) (E := E) (mi := (sm_gl o 10 s mi))   hp2
  refine sc_callS1 (avs := [.inl z1, .inl 0, .inl ((s 1 9) - 1)]) (st := []) lk_RX10_48 rfl sf_X10_in hc3 ⟨(Nat.le_of_ble_eq_true rfl), (Nat.le_of_ble_eq_true rfl)⟩ ⟨rfl, (Nat.le_of_ble_eq_true rfl)⟩ rfl dX10_isCall_11 ?_
  obtain ⟨q4, h⟩ := sl_guard h
  cases h
  exact sm_ireturn dX10_isCall_14 (Or.inr ⟨rfl, q4⟩)
abbrev xModel_ofMember (G : GT) : XT := (G, yX10_ofMember.cls, cX10_ofMember, 3, (some .int), decide (yX10_ofMember.name = "<init>"), 0, 0)
def fModel_ofMember (z1 : Int) (z2 : Int) (s : MI) : Option (Int) :=
  if 0 ≤ sm_w ((106 + (4 * z1)) + z2) ∧ sm_w ((106 + (4 * z1)) + z2) < 810 then some (s 1 (sm_w ((106 + (4 * z1)) + z2)).toNat) else none
set_option maxRecDepth 100000 in
set_option maxHeartbeats 4000000 in
theorem bModel_ofMember {G : GT} {E : ET} {o : Nat} {s mi : MI} {z1 : Int} {z2 : Int} {w : Int} (g : gL E o)  (h : fModel_ofMember z1 z2 s = some w) : cN G yX10_ofMember cX10_ofMember 3 (some .int) 0 0 [.inr o, .inl z1, .inl z2] E (sm_gl o 10 s mi) (some (.inl w), E, (sm_gl o 10 s mi)) := by
  have hN1 := g.1
  have hN2 := g.2.1
  unfold fModel_ofMember at h
  refine sm_meth (by decide +kernel) (Nat.le_of_ble_eq_true rfl) ?_
  show sM (xModel_ofMember G) 0 [some (.inr o), some (.inl z1), some (.inl z2)] [] E (sm_gl o 10 s mi) _
  refine sm_aload_n dX10_ofMember_0 rfl ?_
  refine sm_getR lf_RX10_7 fR_7_0 g.2.2.1 (by omega) g.2.2.2.1.2 dX10_ofMember_1 ?_
  refine sm_bipush dX10_ofMember_4 rfl ?_
  refine sm_iconst dX10_ofMember_6 ?_
  refine sm_iload_n dX10_ofMember_7 rfl ?_
  refine sm_imul dX10_ofMember_8 ?_
  refine sm_iadd dX10_ofMember_9 ?_
  refine sm_iload_n dX10_ofMember_10 rfl ?_
  refine sm_iadd dX10_ofMember_11 ?_
  obtain ⟨q1, h⟩ := sl_guard h
  have xq1 := (sl_ix (m := 810) q1).2
  refine sl_ialdk (D := 1) (k := (sm_w ((106 + (4 * z1)) + z2)).toNat) g.2.2.2.1.1 rfl (by omega) hN2 (sl_ix (m := 810) q1) dX10_ofMember_12 ?_
  cases h
  exact sm_ireturn dX10_ofMember_13 (Or.inl rfl)
abbrev xModel_addsMember (G : GT) : XT := (G, yX10_addsMember.cls, cX10_addsMember, 4, none, decide (yX10_addsMember.name = "<init>"), 0, 0)
def fModel_addsMember (z1 : Int) (z2 : Int) (z3 : Int) (s : MI) : Option (MI) :=
  if 0 ≤ sm_w ((106 + (4 * z1)) + z2) ∧ sm_w ((106 + (4 * z1)) + z2) < 810 then Option.bind (some (sm_up s 1 (sm_w ((106 + (4 * z1)) + z2)).toNat ((s 1 (sm_w ((106 + (4 * z1)) + z2)).toNat) + z3))) (fun s2 => some s2) else none
set_option maxRecDepth 100000 in
set_option maxHeartbeats 4000000 in
theorem bModel_addsMember {G : GT} {E : ET} {o : Nat} {s mi : MI} {z1 : Int} {z2 : Int} {z3 : Int} {w : MI} (g : gL E o)  (h : fModel_addsMember z1 z2 z3 s = some w) : cN G yX10_addsMember cX10_addsMember 4 none 0 0 [.inr o, .inl z1, .inl z2, .inl z3] E (sm_gl o 10 s mi) (none, E, sm_gl o 10 w mi) := by
  have hN1 := g.1
  have hN2 := g.2.1
  unfold fModel_addsMember at h
  refine sm_meth (by decide +kernel) (Nat.le_of_ble_eq_true rfl) ?_
  show sM (xModel_addsMember G) 0 [some (.inr o), some (.inl z1), some (.inl z2), some (.inl z3)] [] E (sm_gl o 10 s mi) _
  refine sm_aload_n dX10_addsMember_0 rfl ?_
  refine sm_getR lf_RX10_7 fR_7_0 g.2.2.1 (by omega) g.2.2.2.1.2 dX10_addsMember_1 ?_
  refine sm_bipush dX10_addsMember_4 rfl ?_
  refine sm_iconst dX10_addsMember_6 ?_
  refine sm_iload_n dX10_addsMember_7 rfl ?_
  refine sm_imul dX10_addsMember_8 ?_
  refine sm_iadd dX10_addsMember_9 ?_
  refine sm_iload_n dX10_addsMember_10 rfl ?_
  refine sm_iadd dX10_addsMember_11 ?_
  refine sm_dup2 dX10_addsMember_12 ?_
  obtain ⟨q1, h⟩ := sl_guard h
  have xq1 := (sl_ix (m := 810) q1).2
  refine sl_ialdk (D := 1) (k := (sm_w ((106 + (4 * z1)) + z2)).toNat) g.2.2.2.1.1 rfl (by omega) hN2 (sl_ix (m := 810) q1) dX10_addsMember_13 ?_
  refine sm_iload_n dX10_addsMember_14 rfl ?_
  refine sm_iadd dX10_addsMember_15 ?_
  refine sl_iastk (D := 1) (k := (sm_w ((106 + (4 * z1)) + z2)).toNat) g.2.2.2.1.1 rfl (by omega) ⟨hN1, hN2⟩ (sl_ix (m := 810) q1) dX10_addsMember_16 ?_
  obtain ⟨s2, hs3, h⟩ := sl_bind h
  rw [Option.some.inj hs3]
  cases h
  exact sm_return rfl dX10_addsMember_17
abbrev xModel_ofPatrol (G : GT) : XT := (G, yX10_ofPatrol.cls, cX10_ofPatrol, 3, (some .int), decide (yX10_ofPatrol.name = "<init>"), 0, 0)
def fModel_ofPatrol (z1 : Int) (z2 : Int) (s : MI) : Option (Int) :=
  if 0 ≤ sm_w ((186 + (14 * z1)) + z2) ∧ sm_w ((186 + (14 * z1)) + z2) < 810 then some (s 1 (sm_w ((186 + (14 * z1)) + z2)).toNat) else none
set_option maxRecDepth 100000 in
set_option maxHeartbeats 4000000 in
theorem bModel_ofPatrol {G : GT} {E : ET} {o : Nat} {s mi : MI} {z1 : Int} {z2 : Int} {w : Int} (g : gL E o)  (h : fModel_ofPatrol z1 z2 s = some w) : cN G yX10_ofPatrol cX10_ofPatrol 3 (some .int) 0 0 [.inr o, .inl z1, .inl z2] E (sm_gl o 10 s mi) (some (.inl w), E, (sm_gl o 10 s mi)) := by
  have hN1 := g.1
  have hN2 := g.2.1
  unfold fModel_ofPatrol at h
  refine sm_meth (by decide +kernel) (Nat.le_of_ble_eq_true rfl) ?_
  show sM (xModel_ofPatrol G) 0 [some (.inr o), some (.inl z1), some (.inl z2)] [] E (sm_gl o 10 s mi) _
  refine sm_aload_n dX10_ofPatrol_0 rfl ?_
  refine sm_getR lf_RX10_7 fR_7_0 g.2.2.1 (by omega) g.2.2.2.1.2 dX10_ofPatrol_1 ?_
  refine sm_sipush dX10_ofPatrol_4 rfl ?_
  refine sm_bipush dX10_ofPatrol_7 rfl ?_
  refine sm_iload_n dX10_ofPatrol_9 rfl ?_
  refine sm_imul dX10_ofPatrol_10 ?_
  refine sm_iadd dX10_ofPatrol_11 ?_
  refine sm_iload_n dX10_ofPatrol_12 rfl ?_
  refine sm_iadd dX10_ofPatrol_13 ?_
  obtain ⟨q1, h⟩ := sl_guard h
  have xq1 := (sl_ix (m := 810) q1).2
  refine sl_ialdk (D := 1) (k := (sm_w ((186 + (14 * z1)) + z2)).toNat) g.2.2.2.1.1 rfl (by omega) hN2 (sl_ix (m := 810) q1) dX10_ofPatrol_14 ?_
  cases h
  exact sm_ireturn dX10_ofPatrol_15 (Or.inl rfl)
abbrev xModel_laysPatrol (G : GT) : XT := (G, yX10_laysPatrol.cls, cX10_laysPatrol, 4, none, decide (yX10_laysPatrol.name = "<init>"), 0, 0)
def fModel_laysPatrol (z1 : Int) (z2 : Int) (z3 : Int) (s : MI) : Option (MI) :=
  if 0 ≤ sm_w ((186 + (14 * z1)) + z2) ∧ sm_w ((186 + (14 * z1)) + z2) < 810 then Option.bind (some (sm_up s 1 (sm_w ((186 + (14 * z1)) + z2)).toNat z3)) (fun s2 => some s2) else none
set_option maxRecDepth 100000 in
set_option maxHeartbeats 4000000 in
theorem bModel_laysPatrol {G : GT} {E : ET} {o : Nat} {s mi : MI} {z1 : Int} {z2 : Int} {z3 : Int} {w : MI} (g : gL E o)  (h : fModel_laysPatrol z1 z2 z3 s = some w) : cN G yX10_laysPatrol cX10_laysPatrol 4 none 0 0 [.inr o, .inl z1, .inl z2, .inl z3] E (sm_gl o 10 s mi) (none, E, sm_gl o 10 w mi) := by
  have hN1 := g.1
  have hN2 := g.2.1
  unfold fModel_laysPatrol at h
  refine sm_meth (by decide +kernel) (Nat.le_of_ble_eq_true rfl) ?_
  show sM (xModel_laysPatrol G) 0 [some (.inr o), some (.inl z1), some (.inl z2), some (.inl z3)] [] E (sm_gl o 10 s mi) _
  refine sm_aload_n dX10_laysPatrol_0 rfl ?_
  refine sm_getR lf_RX10_7 fR_7_0 g.2.2.1 (by omega) g.2.2.2.1.2 dX10_laysPatrol_1 ?_
  refine sm_sipush dX10_laysPatrol_4 rfl ?_
  refine sm_bipush dX10_laysPatrol_7 rfl ?_
  refine sm_iload_n dX10_laysPatrol_9 rfl ?_
  refine sm_imul dX10_laysPatrol_10 ?_
  refine sm_iadd dX10_laysPatrol_11 ?_
  refine sm_iload_n dX10_laysPatrol_12 rfl ?_
  refine sm_iadd dX10_laysPatrol_13 ?_
  refine sm_iload_n dX10_laysPatrol_14 rfl ?_
  obtain ⟨q1, h⟩ := sl_guard h
  have xq1 := (sl_ix (m := 810) q1).2
  refine sl_iastk (D := 1) (k := (sm_w ((186 + (14 * z1)) + z2)).toNat) g.2.2.2.1.1 rfl (by omega) ⟨hN1, hN2⟩ (sl_ix (m := 810) q1) dX10_laysPatrol_15 ?_
  obtain ⟨s2, hs3, h⟩ := sl_bind h
  rw [Option.some.inj hs3]
  cases h
  exact sm_return rfl dX10_laysPatrol_16
abbrev xModel_ofGarage (G : GT) : XT := (G, yX10_ofGarage.cls, cX10_ofGarage, 3, (some .int), decide (yX10_ofGarage.name = "<init>"), 0, 0)
def fModel_ofGarage (z1 : Int) (z2 : Int) (s : MI) : Option (Int) :=
  if 0 ≤ sm_w ((270 + (4 * z1)) + z2) ∧ sm_w ((270 + (4 * z1)) + z2) < 810 then some (s 1 (sm_w ((270 + (4 * z1)) + z2)).toNat) else none
set_option maxRecDepth 100000 in
set_option maxHeartbeats 4000000 in
theorem bModel_ofGarage {G : GT} {E : ET} {o : Nat} {s mi : MI} {z1 : Int} {z2 : Int} {w : Int} (g : gL E o)  (h : fModel_ofGarage z1 z2 s = some w) : cN G yX10_ofGarage cX10_ofGarage 3 (some .int) 0 0 [.inr o, .inl z1, .inl z2] E (sm_gl o 10 s mi) (some (.inl w), E, (sm_gl o 10 s mi)) := by
  have hN1 := g.1
  have hN2 := g.2.1
  unfold fModel_ofGarage at h
  refine sm_meth (by decide +kernel) (Nat.le_of_ble_eq_true rfl) ?_
  show sM (xModel_ofGarage G) 0 [some (.inr o), some (.inl z1), some (.inl z2)] [] E (sm_gl o 10 s mi) _
  refine sm_aload_n dX10_ofGarage_0 rfl ?_
  refine sm_getR lf_RX10_7 fR_7_0 g.2.2.1 (by omega) g.2.2.2.1.2 dX10_ofGarage_1 ?_
  refine sm_sipush dX10_ofGarage_4 rfl ?_
  refine sm_iconst dX10_ofGarage_7 ?_
  refine sm_iload_n dX10_ofGarage_8 rfl ?_
  refine sm_imul dX10_ofGarage_9 ?_
  refine sm_iadd dX10_ofGarage_10 ?_
  refine sm_iload_n dX10_ofGarage_11 rfl ?_
  refine sm_iadd dX10_ofGarage_12 ?_
  obtain ⟨q1, h⟩ := sl_guard h
  have xq1 := (sl_ix (m := 810) q1).2
  refine sl_ialdk (D := 1) (k := (sm_w ((270 + (4 * z1)) + z2)).toNat) g.2.2.2.1.1 rfl (by omega) hN2 (sl_ix (m := 810) q1) dX10_ofGarage_13 ?_
  cases h
  exact sm_ireturn dX10_ofGarage_14 (Or.inl rfl)
abbrev xModel_ofCall (G : GT) : XT := (G, yX10_ofCall.cls, cX10_ofCall, 3, (some .int), decide (yX10_ofCall.name = "<init>"), 0, 0)
def fModel_ofCall (z1 : Int) (z2 : Int) (s : MI) : Option (Int) :=
  if 0 ≤ sm_w ((290 + (13 * z1)) + z2) ∧ sm_w ((290 + (13 * z1)) + z2) < 810 then some (s 1 (sm_w ((290 + (13 * z1)) + z2)).toNat) else none
set_option maxRecDepth 100000 in
set_option maxHeartbeats 4000000 in
theorem bModel_ofCall {G : GT} {E : ET} {o : Nat} {s mi : MI} {z1 : Int} {z2 : Int} {w : Int} (g : gL E o)  (h : fModel_ofCall z1 z2 s = some w) : cN G yX10_ofCall cX10_ofCall 3 (some .int) 0 0 [.inr o, .inl z1, .inl z2] E (sm_gl o 10 s mi) (some (.inl w), E, (sm_gl o 10 s mi)) := by
  have hN1 := g.1
  have hN2 := g.2.1
  unfold fModel_ofCall at h
  refine sm_meth (by decide +kernel) (Nat.le_of_ble_eq_true rfl) ?_
  show sM (xModel_ofCall G) 0 [some (.inr o), some (.inl z1), some (.inl z2)] [] E (sm_gl o 10 s mi) _
  refine sm_aload_n dX10_ofCall_0 rfl ?_
  refine sm_getR lf_RX10_7 fR_7_0 g.2.2.1 (by omega) g.2.2.2.1.2 dX10_ofCall_1 ?_
  refine sm_sipush dX10_ofCall_4 rfl ?_
  refine sm_bipush dX10_ofCall_7 rfl ?_
  refine sm_iload_n dX10_ofCall_9 rfl ?_
  refine sm_imul dX10_ofCall_10 ?_
  refine sm_iadd dX10_ofCall_11 ?_
  refine sm_iload_n dX10_ofCall_12 rfl ?_
  refine sm_iadd dX10_ofCall_13 ?_
  obtain ⟨q1, h⟩ := sl_guard h
  have xq1 := (sl_ix (m := 810) q1).2
  refine sl_ialdk (D := 1) (k := (sm_w ((290 + (13 * z1)) + z2)).toNat) g.2.2.2.1.1 rfl (by omega) hN2 (sl_ix (m := 810) q1) dX10_ofCall_14 ?_
  cases h
  exact sm_ireturn dX10_ofCall_15 (Or.inl rfl)
abbrev xModel_laysCall (G : GT) : XT := (G, yX10_laysCall.cls, cX10_laysCall, 4, none, decide (yX10_laysCall.name = "<init>"), 0, 0)
def fModel_laysCall (z1 : Int) (z2 : Int) (z3 : Int) (s : MI) : Option (MI) :=
  if 0 ≤ sm_w ((290 + (13 * z1)) + z2) ∧ sm_w ((290 + (13 * z1)) + z2) < 810 then Option.bind (some (sm_up s 1 (sm_w ((290 + (13 * z1)) + z2)).toNat z3)) (fun s2 => some s2) else none
set_option maxRecDepth 100000 in
set_option maxHeartbeats 4000000 in
theorem bModel_laysCall {G : GT} {E : ET} {o : Nat} {s mi : MI} {z1 : Int} {z2 : Int} {z3 : Int} {w : MI} (g : gL E o)  (h : fModel_laysCall z1 z2 z3 s = some w) : cN G yX10_laysCall cX10_laysCall 4 none 0 0 [.inr o, .inl z1, .inl z2, .inl z3] E (sm_gl o 10 s mi) (none, E, sm_gl o 10 w mi) := by
  have hN1 := g.1
  have hN2 := g.2.1
  unfold fModel_laysCall at h
  refine sm_meth (by decide +kernel) (Nat.le_of_ble_eq_true rfl) ?_
  show sM (xModel_laysCall G) 0 [some (.inr o), some (.inl z1), some (.inl z2), some (.inl z3)] [] E (sm_gl o 10 s mi) _
  refine sm_aload_n dX10_laysCall_0 rfl ?_
  refine sm_getR lf_RX10_7 fR_7_0 g.2.2.1 (by omega) g.2.2.2.1.2 dX10_laysCall_1 ?_
  refine sm_sipush dX10_laysCall_4 rfl ?_
  refine sm_bipush dX10_laysCall_7 rfl ?_
  refine sm_iload_n dX10_laysCall_9 rfl ?_
  refine sm_imul dX10_laysCall_10 ?_
  refine sm_iadd dX10_laysCall_11 ?_
  refine sm_iload_n dX10_laysCall_12 rfl ?_
  refine sm_iadd dX10_laysCall_13 ?_
  refine sm_iload_n dX10_laysCall_14 rfl ?_
  obtain ⟨q1, h⟩ := sl_guard h
  have xq1 := (sl_ix (m := 810) q1).2
  refine sl_iastk (D := 1) (k := (sm_w ((290 + (13 * z1)) + z2)).toNat) g.2.2.2.1.1 rfl (by omega) ⟨hN1, hN2⟩ (sl_ix (m := 810) q1) dX10_laysCall_15 ?_
  obtain ⟨s2, hs3, h⟩ := sl_bind h
  rw [Option.some.inj hs3]
  cases h
  exact sm_return rfl dX10_laysCall_16
abbrev xModel_way (G : GT) : XT := (G, yX10_way.cls, cX10_way, 3, (some .int), decide (yX10_way.name = "<init>"), 0, 0)
def fModel_way (z1 : Int) (z2 : Int) (s : MI) : Option (Int) :=
  if 0 ≤ sm_w ((12 * z1) + z2) ∧ sm_w ((12 * z1) + z2) < 144 then some (s 7 (sm_w ((12 * z1) + z2)).toNat) else none
set_option maxRecDepth 100000 in
set_option maxHeartbeats 4000000 in
theorem bModel_way {G : GT} {E : ET} {o : Nat} {s mi : MI} {z1 : Int} {z2 : Int} {w : Int} (g : gL E o)  (h : fModel_way z1 z2 s = some w) : cN G yX10_way cX10_way 3 (some .int) 0 0 [.inr o, .inl z1, .inl z2] E (sm_gl o 10 s mi) (some (.inl w), E, (sm_gl o 10 s mi)) := by
  have hN1 := g.1
  have hN2 := g.2.1
  unfold fModel_way at h
  refine sm_meth (by decide +kernel) (Nat.le_of_ble_eq_true rfl) ?_
  show sM (xModel_way G) 0 [some (.inr o), some (.inl z1), some (.inl z2)] [] E (sm_gl o 10 s mi) _
  refine sm_aload_n dX10_way_0 rfl ?_
  refine sm_getR lf_RX10_28 fR_7_9 g.2.2.1 (by omega) g.2.2.2.2.2.2.2.2.2.1.2 dX10_way_1 ?_
  refine sm_bipush dX10_way_4 rfl ?_
  refine sm_iload_n dX10_way_6 rfl ?_
  refine sm_imul dX10_way_7 ?_
  refine sm_iload_n dX10_way_8 rfl ?_
  refine sm_iadd dX10_way_9 ?_
  obtain ⟨q1, h⟩ := sl_guard h
  have xq1 := (sl_ix (m := 144) q1).2
  refine sl_ialdk (D := 7) (k := (sm_w ((12 * z1) + z2)).toNat) g.2.2.2.2.2.2.2.2.2.1.1 rfl (by omega) hN2 (sl_ix (m := 144) q1) dX10_way_10 ?_
  cases h
  exact sm_ireturn dX10_way_11 (Or.inl rfl)
abbrev xModel_nextOn (G : GT) : XT := (G, yX10_nextOn.cls, cX10_nextOn, 4, (some .int), decide (yX10_nextOn.name = "<init>"), 1, 22)
abbrev qModel_nextOn_l2 (G : GT) (E : ET) (o : Nat) (mi : MI) (z1 : Int) (z2 : Int) (s : MI) (r : RT) (t : Int) : Prop := sM (xModel_nextOn G) 2 [some (.inr o), some (.inl z1), some (.inl z2), some (.inl t)] [] E (sm_gl o 10 s mi) r
abbrev kModel_nextOn_l2 (G : GT) (E : ET) (o : Nat) (mi : MI) (z1 : Int) (z2 : Int) (s : MI) (r : RT) : (Unit) ⊕ (Int) → Prop := Sum.elim (fun x => sM (xModel_nextOn G) 59 [none, none, some (.inl z2), none] [] E (sm_gl o 10 s mi) r) (fun v => (some (.inl v), E, (sm_gl o 10 s mi)) = r)
def fModel_nextOn_j53_l2 (z1 : Int) (z2 : Int) (z3 : Int) (s : MI) : Option ((Int) ⊕ ((Unit) ⊕ (Int))) :=
  some (.inl (z3 + 1))
set_option maxRecDepth 100000 in
set_option maxHeartbeats 4000000 in
theorem bModel_nextOn_j53_l2 {G : GT} {E : ET} {o : Nat} {s mi : MI} {z1 : Int} {z2 : Int} {z3 : Int} {r : RT} {w : (Int) ⊕ ((Unit) ⊕ (Int))} (g : gL E o)  (h : fModel_nextOn_j53_l2 z1 z2 z3 s = some w) (hK : Sum.elim (qModel_nextOn_l2 G E o mi z1 z2 s r) (kModel_nextOn_l2 G E o mi z1 z2 s r) w) : sM (xModel_nextOn G) 53 [some (.inr o), some (.inl z1), some (.inl z2), some (.inl z3)] [] E (sm_gl o 10 s mi) r := by
  have hN1 := g.1
  have hN2 := g.2.1
  unfold fModel_nextOn_j53_l2 at h
  refine sm_iinc dX10_nextOn_53 (Nat.le_of_ble_eq_true rfl) rfl ?_
  refine sm_goto 2 dX10_nextOn_56 rfl ?_
  cases h
  exact sm_less (lv' := [some (.inr o), some (.inl z1), some (.inl z2), some (.inl (z3 + 1))]) ⟨rfl, rfl, rfl, rfl, trivial⟩ hK
def fModel_nextOn_l2 (z1 : Int) (z2 : Int) (z3 : Int) (s : MI) : Option ((Int) ⊕ ((Unit) ⊕ (Int))) :=
  (if 12 ≤ sm_w z3 then some (.inr (.inl ())) else if 0 ≤ sm_w ((12 * z1) + z3) ∧ sm_w ((12 * z1) + z3) < 144 then (if 100000 ≤ sm_w (s 6 (sm_w ((12 * z1) + z3)).toNat) then fModel_nextOn_j53_l2 z1 z2 z3 s else Option.bind (fModel_way z3 z2 s) (fun p9 => Option.bind (fModel_way z1 z2 s) (fun p12 => (if sm_w ((s 6 (sm_w ((12 * z1) + z3)).toNat) + p9) = sm_w p12 then some (.inr (.inr z3)) else fModel_nextOn_j53_l2 z1 z2 z3 s)))) else none)
set_option maxRecDepth 100000 in
set_option maxHeartbeats 4000000 in
theorem bModel_nextOn_l2 {G : GT} {E : ET} {o : Nat} {s mi : MI} {z1 : Int} {z2 : Int} {z3 : Int} {r : RT} {w : (Int) ⊕ ((Unit) ⊕ (Int))} (g : gL E o)  (h : fModel_nextOn_l2 z1 z2 z3 s = some w) (hK : Sum.elim (qModel_nextOn_l2 G E o mi z1 z2 s r) (kModel_nextOn_l2 G E o mi z1 z2 s r) w) : qModel_nextOn_l2 G E o mi z1 z2 s r z3 := by
  have hN1 := g.1
  have hN2 := g.2.1
  unfold fModel_nextOn_l2 at h
  show sM (xModel_nextOn G) 2 [some (.inr o), some (.inl z1), some (.inl z2), some (.inl z3)] [] E (sm_gl o 10 s mi) r
  refine sm_iload_n dX10_nextOn_2 rfl ?_
  refine sm_bipush dX10_nextOn_3 rfl ?_
  refine sc_icmp_ge (X' := sm_w z3) (Y' := 12) 59 dX10_nextOn_5 rfl rfl (by decide) (fun c17 => ?_) (fun c17 => ?_)
  · rw [if_pos c17] at h
    cases h
    exact sm_less (lv' := [none, none, some (.inl z2), none]) ⟨rfl, trivial⟩ hK
  · rw [if_neg c17] at h
    refine sm_aload_n dX10_nextOn_8 rfl ?_
    refine sm_getR lf_RX10_25 fR_7_8 g.2.2.1 (by omega) g.2.2.2.2.2.2.2.2.1.2 dX10_nextOn_9 ?_
    refine sm_bipush dX10_nextOn_12 rfl ?_
    refine sm_iload_n dX10_nextOn_14 rfl ?_
    refine sm_imul dX10_nextOn_15 ?_
    refine sm_iload_n dX10_nextOn_16 rfl ?_
    refine sm_iadd dX10_nextOn_17 ?_
    obtain ⟨q8, h⟩ := sl_guard h
    have xq8 := (sl_ix (m := 144) q8).2
    refine sl_ialdk (D := 6) (k := (sm_w ((12 * z1) + z3)).toNat) g.2.2.2.2.2.2.2.2.1.1 rfl (by omega) hN2 (sl_ix (m := 144) q8) dX10_nextOn_18 ?_
    refine sm_ldc (v := 100000) rfl lc_RX10_52 dX10_nextOn_19 ?_
    refine sc_icmp_ge (X' := sm_w (s 6 (sm_w ((12 * z1) + z3)).toNat)) (Y' := 100000) 53 dX10_nextOn_21 rfl rfl (by decide) (fun c16 => ?_) (fun c16 => ?_)
    · rw [if_pos c16] at h
      exact sm_less (lv' := [some (.inr o), some (.inl z1), some (.inl z2), some (.inl z3)]) ⟨rfl, rfl, rfl, rfl, trivial⟩ (bModel_nextOn_j53_l2 g   h hK)
    · rw [if_neg c16] at h
      refine sm_aload_n dX10_nextOn_24 rfl ?_
      refine sm_getR lf_RX10_25 fR_7_8 g.2.2.1 (by omega) g.2.2.2.2.2.2.2.2.1.2 dX10_nextOn_25 ?_
      refine sm_bipush dX10_nextOn_28 rfl ?_
      refine sm_iload_n dX10_nextOn_30 rfl ?_
      refine sm_imul dX10_nextOn_31 ?_
      refine sm_iload_n dX10_nextOn_32 rfl ?_
      refine sm_iadd dX10_nextOn_33 ?_
      refine sl_ialdk (D := 6) (k := (sm_w ((12 * z1) + z3)).toNat) g.2.2.2.2.2.2.2.2.1.1 rfl (by omega) hN2 (sl_ix (m := 144) q8) dX10_nextOn_34 ?_
      refine sm_aload_n dX10_nextOn_35 rfl ?_
      refine sm_iload_n dX10_nextOn_36 rfl ?_
      refine sm_iload_n dX10_nextOn_37 rfl ?_
      obtain ⟨p9, hp10, h⟩ := sl_bind h
      have hc11 := bModel_way (G := G) (E := E) (o := o) (s := s) (mi := mi) g  hp10
      refine sc_callV1 (avs := [.inl z3, .inl z2]) (st := [.inl (s 6 (sm_w ((12 * z1) + z3)).toNat)]) lk_RX10_53 rfl vf_X10_way hc11 ⟨(Nat.le_of_ble_eq_true rfl), (Nat.le_of_ble_eq_true rfl)⟩ ⟨rfl, (Nat.le_of_ble_eq_true rfl)⟩ g.2.2.1 (by omega) rfl dX10_nextOn_38 ?_
      refine sm_iadd dX10_nextOn_41 ?_
      refine sm_aload_n dX10_nextOn_42 rfl ?_
      refine sm_iload_n dX10_nextOn_43 rfl ?_
      refine sm_iload_n dX10_nextOn_44 rfl ?_
      obtain ⟨p12, hp13, h⟩ := sl_bind h
      have hc14 := bModel_way (G := G) (E := E) (o := o) (s := s) (mi := mi) g  hp13
      refine sc_callV1 (avs := [.inl z1, .inl z2]) (st := [.inl ((s 6 (sm_w ((12 * z1) + z3)).toNat) + p9)]) lk_RX10_53 rfl vf_X10_way hc14 ⟨(Nat.le_of_ble_eq_true rfl), (Nat.le_of_ble_eq_true rfl)⟩ ⟨rfl, (Nat.le_of_ble_eq_true rfl)⟩ g.2.2.1 (by omega) rfl dX10_nextOn_45 ?_
      refine sc_icmp_ne (X' := sm_w ((s 6 (sm_w ((12 * z1) + z3)).toNat) + p9)) (Y' := sm_w p12) 53 dX10_nextOn_48 rfl rfl rfl (fun c15 => ?_) (fun c15 => ?_)
      · rw [if_neg c15] at h
        exact sm_less (lv' := [some (.inr o), some (.inl z1), some (.inl z2), some (.inl z3)]) ⟨rfl, rfl, rfl, rfl, trivial⟩ (bModel_nextOn_j53_l2 g   h hK)
      · rw [if_pos c15] at h
        refine sm_iload_n dX10_nextOn_51 rfl ?_
        cases h
        have hK : (some (.inl z3), E, (sm_gl o 10 s mi)) = r := hK
        subst hK
        exact sm_ireturn dX10_nextOn_52 (Or.inl rfl)
def fModel_nextOn (z1 : Int) (z2 : Int) (s : MI) : Option (Int) :=
  Option.bind (sl_it (fun (t : Int) => fModel_nextOn_l2 z1 z2 t s) sl_fu 0) (fun y18 => Sum.elim (fun x20 => some z2) (fun v21 => some v21) y18)
set_option maxRecDepth 100000 in
set_option maxHeartbeats 4000000 in
theorem bModel_nextOn {G : GT} {E : ET} {o : Nat} {s mi : MI} {z1 : Int} {z2 : Int} {w : Int} (g : gL E o)  (h : fModel_nextOn z1 z2 s = some w) : cN G yX10_nextOn cX10_nextOn 4 (some .int) 1 22 [.inr o, .inl z1, .inl z2] E (sm_gl o 10 s mi) (some (.inl w), E, (sm_gl o 10 s mi)) := by
  have hN1 := g.1
  have hN2 := g.2.1
  unfold fModel_nextOn at h
  refine sm_meth (by decide +kernel) (Nat.le_of_ble_eq_true rfl) ?_
  show sM (xModel_nextOn G) 0 [some (.inr o), some (.inl z1), some (.inl z2), none] [] E (sm_gl o 10 s mi) _
  refine sm_iconst dX10_nextOn_0 ?_
  refine sm_istore_n dX10_nextOn_1 (Nat.le_of_ble_eq_true rfl) ?_
  obtain ⟨y18, hy19, h⟩ := sl_bind h
  refine sm_less (lv' := [some (.inr o), some (.inl z1), some (.inl z2), some (.inl 0)]) ⟨rfl, rfl, rfl, rfl, trivial⟩ (sl_itE (P := qModel_nextOn_l2 G E o mi z1 z2 s _) (K := kModel_nextOn_l2 G E o mi z1 z2 s _) (fun t q hq hk => bModel_nextOn_l2 g  hq hk) sl_fu _ y18 hy19 ?_)
  rcases y18 with x20 | v21
  · show sM (xModel_nextOn G) 59 [none, none, some (.inl z2), none] [] E (sm_gl o 10 s mi) _
    dsimp only [Sum.elim_inl] at h
    refine sm_iload_n dX10_nextOn_59 rfl ?_
    cases h
    exact sm_ireturn dX10_nextOn_60 (Or.inl rfl)
  · dsimp only [Sum.elim_inr] at h
    cases h
    exact rfl
abbrev xModel_addRoad (G : GT) : XT := (G, yX10_addRoad.cls, cX10_addRoad, 5, (some .int), decide (yX10_addRoad.name = "<init>"), 2, 45)
def fModel_addRoad (z1 : Int) (z2 : Int) (z3 : Int) (s : MI) : Option (Int × MI) :=
  Option.bind (fModel_isArea z1) (fun p1 => (if sm_w p1 = 0 then some ((-1), s) else Option.bind (fModel_isArea z2) (fun p4 => (if sm_w p4 = 0 then some ((-1), s) else Option.bind (fModel_in z3 1 60) (fun p7 => (if sm_w p7 = 0 then some ((-2), s) else (if sm_w z1 = sm_w z2 then some ((-2), s) else if 0 ≤ sm_w ((12 * z1) + z2) ∧ sm_w ((12 * z1) + z2) < 144 then (if 100000 ≤ sm_w (s 6 (sm_w ((12 * z1) + z2)).toNat) then (if sm_w (s 1 5) = 30 then some ((-3), s) else Option.bind (fModel_records s) (fun p11 => if 0 ≤ sm_w (16 + (3 * (p11 1 5))) ∧ sm_w (16 + (3 * (p11 1 5))) < 810 then Option.bind (some (sm_up p11 1 (sm_w (16 + (3 * (p11 1 5)))).toNat z1)) (fun s15 => if 0 ≤ sm_w ((16 + (3 * (p11 1 5))) + 1) ∧ sm_w ((16 + (3 * (p11 1 5))) + 1) < 810 then Option.bind (some (sm_up s15 1 (sm_w ((16 + (3 * (p11 1 5))) + 1)).toNat z2)) (fun s18 => if 0 ≤ sm_w ((16 + (3 * (p11 1 5))) + 2) ∧ sm_w ((16 + (3 * (p11 1 5))) + 2) < 810 then Option.bind (some (sm_up s18 1 (sm_w ((16 + (3 * (p11 1 5))) + 2)).toNat z3)) (fun s21 => Option.bind (some (sm_up s21 1 5 ((s21 1 5) + 1))) (fun s23 => Option.bind (fModel_laysWays s23) (fun p25 => some ((p11 1 5), p25)))) else none) else none) else none)) else some ((-4), s)) else none)))))))
set_option maxRecDepth 100000 in
set_option maxHeartbeats 4000000 in
theorem bModel_addRoad {G : GT} {E : ET} {o : Nat} {s mi : MI} {z1 : Int} {z2 : Int} {z3 : Int} {w : Int × MI} (g : gL E o)  (h : fModel_addRoad z1 z2 z3 s = some w) : cN G yX10_addRoad cX10_addRoad 5 (some .int) 2 45 [.inr o, .inl z1, .inl z2, .inl z3] E (sm_gl o 10 s mi) (some (.inl w.1), E, sm_gl o 10 w.2 mi) := by
  have hN1 := g.1
  have hN2 := g.2.1
  unfold fModel_addRoad at h
  refine sm_meth (by decide +kernel) (Nat.le_of_ble_eq_true rfl) ?_
  show sM (xModel_addRoad G) 0 [some (.inr o), some (.inl z1), some (.inl z2), some (.inl z3), none] [] E (sm_gl o 10 s mi) _
  refine sm_iload_n dX10_addRoad_0 rfl ?_
  obtain ⟨p1, hp2, h⟩ := sl_bind h
  have hc3 := bModel_isArea (G := G) (E := E) (mi := (sm_gl o 10 s mi))   hp2
  refine sc_callS1 (avs := [.inl z1]) (st := []) lk_RX10_57 rfl sf_X10_isArea hc3 ⟨(Nat.le_of_ble_eq_true rfl), (Nat.le_of_ble_eq_true rfl)⟩ ⟨rfl, (Nat.le_of_ble_eq_true rfl)⟩ rfl dX10_addRoad_1 ?_
  refine sm_if_eq 14 dX10_addRoad_4 rfl (fun c33 => ?_) (fun c33 => ?_)
  · rw [if_pos c33] at h
    refine sm_iconst dX10_addRoad_14 ?_
    cases h
    exact sm_ireturn dX10_addRoad_15 (Or.inl rfl)
  · rw [if_neg c33] at h
    refine sm_iload_n dX10_addRoad_7 rfl ?_
    obtain ⟨p4, hp5, h⟩ := sl_bind h
    have hc6 := bModel_isArea (G := G) (E := E) (mi := (sm_gl o 10 s mi))   hp5
    refine sc_callS1 (avs := [.inl z2]) (st := []) lk_RX10_57 rfl sf_X10_isArea hc6 ⟨(Nat.le_of_ble_eq_true rfl), (Nat.le_of_ble_eq_true rfl)⟩ ⟨rfl, (Nat.le_of_ble_eq_true rfl)⟩ rfl dX10_addRoad_8 ?_
    refine sm_if_ne 16 dX10_addRoad_11 rfl (fun c32 => ?_) (fun c32 => ?_)
    · rw [if_neg c32] at h
      refine sm_iload_n dX10_addRoad_16 rfl ?_
      refine sm_iconst dX10_addRoad_17 ?_
      refine sm_bipush dX10_addRoad_18 rfl ?_
      obtain ⟨p7, hp8, h⟩ := sl_bind h
      have hc9 := bModel_in (G := G) (E := E) (mi := (sm_gl o 10 s mi))   hp8
      refine sc_callS1 (avs := [.inl z3, .inl 1, .inl 60]) (st := []) lk_RX10_48 rfl sf_X10_in hc9 ⟨(Nat.le_of_ble_eq_true rfl), (Nat.le_of_ble_eq_true rfl)⟩ ⟨rfl, (Nat.le_of_ble_eq_true rfl)⟩ rfl dX10_addRoad_20 ?_
      refine sm_if_eq 31 dX10_addRoad_23 rfl (fun c31 => ?_) (fun c31 => ?_)
      · rw [if_pos c31] at h
        refine sm_bipush dX10_addRoad_31 rfl ?_
        cases h
        exact sm_ireturn dX10_addRoad_33 (Or.inl rfl)
      · rw [if_neg c31] at h
        refine sm_iload_n dX10_addRoad_26 rfl ?_
        refine sm_iload_n dX10_addRoad_27 rfl ?_
        refine sc_icmp_ne (X' := sm_w z1) (Y' := sm_w z2) 34 dX10_addRoad_28 rfl rfl rfl (fun c30 => ?_) (fun c30 => ?_)
        · rw [if_neg c30] at h
          refine sm_aload_n dX10_addRoad_34 rfl ?_
          refine sm_getR lf_RX10_25 fR_7_8 g.2.2.1 (by omega) g.2.2.2.2.2.2.2.2.1.2 dX10_addRoad_35 ?_
          refine sm_bipush dX10_addRoad_38 rfl ?_
          refine sm_iload_n dX10_addRoad_40 rfl ?_
          refine sm_imul dX10_addRoad_41 ?_
          refine sm_iload_n dX10_addRoad_42 rfl ?_
          refine sm_iadd dX10_addRoad_43 ?_
          obtain ⟨q10, h⟩ := sl_guard h
          have xq10 := (sl_ix (m := 144) q10).2
          refine sl_ialdk (D := 6) (k := (sm_w ((12 * z1) + z2)).toNat) g.2.2.2.2.2.2.2.2.1.1 rfl (by omega) hN2 (sl_ix (m := 144) q10) dX10_addRoad_44 ?_
          refine sm_ldc (v := 100000) rfl lc_RX10_52 dX10_addRoad_45 ?_
          refine sc_icmp_ge (X' := sm_w (s 6 (sm_w ((12 * z1) + z2)).toNat)) (Y' := 100000) 53 dX10_addRoad_47 rfl rfl (by decide) (fun c29 => ?_) (fun c29 => ?_)
          · rw [if_pos c29] at h
            refine sm_aload_n dX10_addRoad_53 rfl ?_
            refine sm_getR lf_RX10_7 fR_7_0 g.2.2.1 (by omega) g.2.2.2.1.2 dX10_addRoad_54 ?_
            refine sm_iconst dX10_addRoad_57 ?_
            refine sl_ialdk (D := 1) (k := 5) g.2.2.2.1.1 rfl (by omega) hN2 ⟨by decide, by decide⟩ dX10_addRoad_58 ?_
            refine sm_bipush dX10_addRoad_59 rfl ?_
            refine sc_icmp_ne (X' := sm_w (s 1 5)) (Y' := 30) 67 dX10_addRoad_61 rfl rfl (by decide) (fun c28 => ?_) (fun c28 => ?_)
            · rw [if_neg c28] at h
              refine sm_aload_n dX10_addRoad_67 rfl ?_
              obtain ⟨p11, hp12, h⟩ := sl_bind h
              have hc13 := bModel_records (G := G) (E := E) (o := o) (s := s) (mi := mi) g  hp12
              refine sc_callV0 (avs := []) (st := []) lk_RX10_61 rfl vf_X10_records hc13 ⟨(Nat.le_of_ble_eq_true rfl), (Nat.le_of_ble_eq_true rfl)⟩ ⟨rfl, (Nat.le_of_ble_eq_true rfl)⟩ g.2.2.1 (by omega) rfl dX10_addRoad_68 ?_
              refine sm_aload_n dX10_addRoad_71 rfl ?_
              refine sm_getR lf_RX10_7 fR_7_0 g.2.2.1 (by omega) g.2.2.2.1.2 dX10_addRoad_72 ?_
              refine sm_iconst dX10_addRoad_75 ?_
              refine sl_ialdk (D := 1) (k := 5) g.2.2.2.1.1 rfl (by omega) hN2 ⟨by decide, by decide⟩ dX10_addRoad_76 ?_
              refine sm_istore dX10_addRoad_77 (Nat.le_of_ble_eq_true rfl) ?_
              refine sm_aload_n dX10_addRoad_79 rfl ?_
              refine sm_getR lf_RX10_7 fR_7_0 g.2.2.1 (by omega) g.2.2.2.1.2 dX10_addRoad_80 ?_
              refine sm_bipush dX10_addRoad_83 rfl ?_
              refine sm_iconst dX10_addRoad_85 ?_
              refine sm_iload dX10_addRoad_86 rfl ?_
              refine sm_imul dX10_addRoad_88 ?_
              refine sm_iadd dX10_addRoad_89 ?_
              refine sm_iload_n dX10_addRoad_90 rfl ?_
              obtain ⟨q14, h⟩ := sl_guard h
              have xq14 := (sl_ix (m := 810) q14).2
              refine sl_iastk (D := 1) (k := (sm_w (16 + (3 * (p11 1 5)))).toNat) g.2.2.2.1.1 rfl (by omega) ⟨hN1, hN2⟩ (sl_ix (m := 810) q14) dX10_addRoad_91 ?_
              obtain ⟨s15, hs16, h⟩ := sl_bind h
              rw [Option.some.inj hs16]
              refine sm_aload_n dX10_addRoad_92 rfl ?_
              refine sm_getR lf_RX10_7 fR_7_0 g.2.2.1 (by omega) g.2.2.2.1.2 dX10_addRoad_93 ?_
              refine sm_bipush dX10_addRoad_96 rfl ?_
              refine sm_iconst dX10_addRoad_98 ?_
              refine sm_iload dX10_addRoad_99 rfl ?_
              refine sm_imul dX10_addRoad_101 ?_
              refine sm_iadd dX10_addRoad_102 ?_
              refine sm_iconst dX10_addRoad_103 ?_
              refine sm_iadd dX10_addRoad_104 ?_
              refine sm_iload_n dX10_addRoad_105 rfl ?_
              obtain ⟨q17, h⟩ := sl_guard h
              have xq17 := (sl_ix (m := 810) q17).2
              refine sl_iastk (D := 1) (k := (sm_w ((16 + (3 * (p11 1 5))) + 1)).toNat) g.2.2.2.1.1 rfl (by omega) ⟨hN1, hN2⟩ (sl_ix (m := 810) q17) dX10_addRoad_106 ?_
              obtain ⟨s18, hs19, h⟩ := sl_bind h
              rw [Option.some.inj hs19]
              refine sm_aload_n dX10_addRoad_107 rfl ?_
              refine sm_getR lf_RX10_7 fR_7_0 g.2.2.1 (by omega) g.2.2.2.1.2 dX10_addRoad_108 ?_
              refine sm_bipush dX10_addRoad_111 rfl ?_
              refine sm_iconst dX10_addRoad_113 ?_
              refine sm_iload dX10_addRoad_114 rfl ?_
              refine sm_imul dX10_addRoad_116 ?_
              refine sm_iadd dX10_addRoad_117 ?_
              refine sm_iconst dX10_addRoad_118 ?_
              refine sm_iadd dX10_addRoad_119 ?_
              refine sm_iload_n dX10_addRoad_120 rfl ?_
              obtain ⟨q20, h⟩ := sl_guard h
              have xq20 := (sl_ix (m := 810) q20).2
              refine sl_iastk (D := 1) (k := (sm_w ((16 + (3 * (p11 1 5))) + 2)).toNat) g.2.2.2.1.1 rfl (by omega) ⟨hN1, hN2⟩ (sl_ix (m := 810) q20) dX10_addRoad_121 ?_
              obtain ⟨s21, hs22, h⟩ := sl_bind h
              rw [Option.some.inj hs22]
              refine sm_aload_n dX10_addRoad_122 rfl ?_
              refine sm_getR lf_RX10_7 fR_7_0 g.2.2.1 (by omega) g.2.2.2.1.2 dX10_addRoad_123 ?_
              refine sm_iconst dX10_addRoad_126 ?_
              refine sm_dup2 dX10_addRoad_127 ?_
              refine sl_ialdk (D := 1) (k := 5) g.2.2.2.1.1 rfl (by omega) hN2 ⟨by decide, by decide⟩ dX10_addRoad_128 ?_
              refine sm_iconst dX10_addRoad_129 ?_
              refine sm_iadd dX10_addRoad_130 ?_
              refine sl_iastk (D := 1) (k := 5) g.2.2.2.1.1 rfl (by omega) ⟨hN1, hN2⟩ ⟨by decide, by decide⟩ dX10_addRoad_131 ?_
              obtain ⟨s23, hs24, h⟩ := sl_bind h
              rw [Option.some.inj hs24]
              refine sm_aload_n dX10_addRoad_132 rfl ?_
              obtain ⟨p25, hp26, h⟩ := sl_bind h
              have hc27 := bModel_laysWays (G := G) (E := E) (o := o) (s := s23) (mi := mi) g  hp26
              refine sc_callV0 (avs := []) (st := []) lk_RX10_37 rfl vf_X10_laysWays hc27 ⟨(Nat.le_of_ble_eq_true rfl), (Nat.le_of_ble_eq_true rfl)⟩ ⟨rfl, (Nat.le_of_ble_eq_true rfl)⟩ g.2.2.1 (by omega) rfl dX10_addRoad_133 ?_
              refine sm_iload dX10_addRoad_136 rfl ?_
              cases h
              exact sm_ireturn dX10_addRoad_138 (Or.inl rfl)
            · rw [if_pos c28] at h
              refine sm_bipush dX10_addRoad_64 rfl ?_
              cases h
              exact sm_ireturn dX10_addRoad_66 (Or.inl rfl)
          · rw [if_neg c29] at h
            refine sm_bipush dX10_addRoad_50 rfl ?_
            cases h
            exact sm_ireturn dX10_addRoad_52 (Or.inl rfl)
        · rw [if_pos c30] at h
          refine sm_bipush dX10_addRoad_31 rfl ?_
          cases h
          exact sm_ireturn dX10_addRoad_33 (Or.inl rfl)
    · rw [if_pos c32] at h
      refine sm_iconst dX10_addRoad_14 ?_
      cases h
      exact sm_ireturn dX10_addRoad_15 (Or.inl rfl)
abbrev xModel_addMember (G : GT) : XT := (G, yX10_addMember.cls, cX10_addMember, 2, (some .int), decide (yX10_addMember.name = "<init>"), 2, 45)
def fModel_addMember (z1 : Int) (s : MI) : Option (Int × MI) :=
  Option.bind (fModel_in z1 0 2) (fun p1 => (if sm_w p1 = 0 then some ((-2), s) else (if sm_w (s 1 6) = 20 then some ((-3), s) else Option.bind (fModel_records s) (fun p4 => if 0 ≤ sm_w (106 + (4 * (p4 1 6))) ∧ sm_w (106 + (4 * (p4 1 6))) < 810 then Option.bind (some (sm_up p4 1 (sm_w (106 + (4 * (p4 1 6)))).toNat z1)) (fun s8 => Option.bind (some (sm_up s8 1 6 ((s8 1 6) + 1))) (fun s10 => some (((s10 1 6) - 1), s10))) else none))))
set_option maxRecDepth 100000 in
set_option maxHeartbeats 4000000 in
theorem bModel_addMember {G : GT} {E : ET} {o : Nat} {s mi : MI} {z1 : Int} {w : Int × MI} (g : gL E o)  (h : fModel_addMember z1 s = some w) : cN G yX10_addMember cX10_addMember 2 (some .int) 2 45 [.inr o, .inl z1] E (sm_gl o 10 s mi) (some (.inl w.1), E, sm_gl o 10 w.2 mi) := by
  have hN1 := g.1
  have hN2 := g.2.1
  unfold fModel_addMember at h
  refine sm_meth (by decide +kernel) (Nat.le_of_ble_eq_true rfl) ?_
  show sM (xModel_addMember G) 0 [some (.inr o), some (.inl z1)] [] E (sm_gl o 10 s mi) _
  refine sm_iload_n dX10_addMember_0 rfl ?_
  refine sm_iconst dX10_addMember_1 ?_
  refine sm_iconst dX10_addMember_2 ?_
  obtain ⟨p1, hp2, h⟩ := sl_bind h
  have hc3 := bModel_in (G := G) (E := E) (mi := (sm_gl o 10 s mi))   hp2
  refine sc_callS1 (avs := [.inl z1, .inl 0, .inl 2]) (st := []) lk_RX10_48 rfl sf_X10_in hc3 ⟨(Nat.le_of_ble_eq_true rfl), (Nat.le_of_ble_eq_true rfl)⟩ ⟨rfl, (Nat.le_of_ble_eq_true rfl)⟩ rfl dX10_addMember_3 ?_
  refine sm_if_ne 12 dX10_addMember_6 rfl (fun c13 => ?_) (fun c13 => ?_)
  · rw [if_neg c13] at h
    refine sm_aload_n dX10_addMember_12 rfl ?_
    refine sm_getR lf_RX10_7 fR_7_0 g.2.2.1 (by omega) g.2.2.2.1.2 dX10_addMember_13 ?_
    refine sm_bipush dX10_addMember_16 rfl ?_
    refine sl_ialdk (D := 1) (k := 6) g.2.2.2.1.1 rfl (by omega) hN2 ⟨by decide, by decide⟩ dX10_addMember_18 ?_
    refine sm_bipush dX10_addMember_19 rfl ?_
    refine sc_icmp_ne (X' := sm_w (s 1 6)) (Y' := 20) 27 dX10_addMember_21 rfl rfl (by decide) (fun c12 => ?_) (fun c12 => ?_)
    · rw [if_neg c12] at h
      refine sm_aload_n dX10_addMember_27 rfl ?_
      obtain ⟨p4, hp5, h⟩ := sl_bind h
      have hc6 := bModel_records (G := G) (E := E) (o := o) (s := s) (mi := mi) g  hp5
      refine sc_callV0 (avs := []) (st := []) lk_RX10_61 rfl vf_X10_records hc6 ⟨(Nat.le_of_ble_eq_true rfl), (Nat.le_of_ble_eq_true rfl)⟩ ⟨rfl, (Nat.le_of_ble_eq_true rfl)⟩ g.2.2.1 (by omega) rfl dX10_addMember_28 ?_
      refine sm_aload_n dX10_addMember_31 rfl ?_
      refine sm_getR lf_RX10_7 fR_7_0 g.2.2.1 (by omega) g.2.2.2.1.2 dX10_addMember_32 ?_
      refine sm_bipush dX10_addMember_35 rfl ?_
      refine sm_iconst dX10_addMember_37 ?_
      refine sm_aload_n dX10_addMember_38 rfl ?_
      refine sm_getR lf_RX10_7 fR_7_0 g.2.2.1 (by omega) g.2.2.2.1.2 dX10_addMember_39 ?_
      refine sm_bipush dX10_addMember_42 rfl ?_
      refine sl_ialdk (D := 1) (k := 6) g.2.2.2.1.1 rfl (by omega) hN2 ⟨by decide, by decide⟩ dX10_addMember_44 ?_
      refine sm_imul dX10_addMember_45 ?_
      refine sm_iadd dX10_addMember_46 ?_
      refine sm_iload_n dX10_addMember_47 rfl ?_
      obtain ⟨q7, h⟩ := sl_guard h
      have xq7 := (sl_ix (m := 810) q7).2
      refine sl_iastk (D := 1) (k := (sm_w (106 + (4 * (p4 1 6)))).toNat) g.2.2.2.1.1 rfl (by omega) ⟨hN1, hN2⟩ (sl_ix (m := 810) q7) dX10_addMember_48 ?_
      obtain ⟨s8, hs9, h⟩ := sl_bind h
      rw [Option.some.inj hs9]
      refine sm_aload_n dX10_addMember_49 rfl ?_
      refine sm_getR lf_RX10_7 fR_7_0 g.2.2.1 (by omega) g.2.2.2.1.2 dX10_addMember_50 ?_
      refine sm_bipush dX10_addMember_53 rfl ?_
      refine sm_dup2 dX10_addMember_55 ?_
      refine sl_ialdk (D := 1) (k := 6) g.2.2.2.1.1 rfl (by omega) hN2 ⟨by decide, by decide⟩ dX10_addMember_56 ?_
      refine sm_iconst dX10_addMember_57 ?_
      refine sm_iadd dX10_addMember_58 ?_
      refine sl_iastk (D := 1) (k := 6) g.2.2.2.1.1 rfl (by omega) ⟨hN1, hN2⟩ ⟨by decide, by decide⟩ dX10_addMember_59 ?_
      obtain ⟨s10, hs11, h⟩ := sl_bind h
      rw [Option.some.inj hs11]
      refine sm_aload_n dX10_addMember_60 rfl ?_
      refine sm_getR lf_RX10_7 fR_7_0 g.2.2.1 (by omega) g.2.2.2.1.2 dX10_addMember_61 ?_
      refine sm_bipush dX10_addMember_64 rfl ?_
      refine sl_ialdk (D := 1) (k := 6) g.2.2.2.1.1 rfl (by omega) hN2 ⟨by decide, by decide⟩ dX10_addMember_66 ?_
      refine sm_iconst dX10_addMember_67 ?_
      refine sm_isub dX10_addMember_68 ?_
      cases h
      exact sm_ireturn dX10_addMember_69 (Or.inl rfl)
    · rw [if_pos c12] at h
      refine sm_bipush dX10_addMember_24 rfl ?_
      cases h
      exact sm_ireturn dX10_addMember_26 (Or.inl rfl)
  · rw [if_pos c13] at h
    refine sm_bipush dX10_addMember_9 rfl ?_
    cases h
    exact sm_ireturn dX10_addMember_11 (Or.inl rfl)
abbrev xModel_frees (G : GT) : XT := (G, yX10_frees.cls, cX10_frees, 2, none, decide (yX10_frees.name = "<init>"), 1, 23)
def fModel_frees (z1 : Int) (s : MI) : Option (MI) :=
  Option.bind (fModel_laysPatrol z1 3 0 s) (fun p1 => Option.bind (fModel_laysPatrol z1 5 (-5) p1) (fun p4 => Option.bind (fModel_laysPatrol z1 6 (-5) p4) (fun p7 => some p7)))
set_option maxRecDepth 100000 in
set_option maxHeartbeats 4000000 in
theorem bModel_frees {G : GT} {E : ET} {o : Nat} {s mi : MI} {z1 : Int} {w : MI} (g : gL E o)  (h : fModel_frees z1 s = some w) : cN G yX10_frees cX10_frees 2 none 1 23 [.inr o, .inl z1] E (sm_gl o 10 s mi) (none, E, sm_gl o 10 w mi) := by
  have hN1 := g.1
  have hN2 := g.2.1
  unfold fModel_frees at h
  refine sm_meth (by decide +kernel) (Nat.le_of_ble_eq_true rfl) ?_
  show sM (xModel_frees G) 0 [some (.inr o), some (.inl z1)] [] E (sm_gl o 10 s mi) _
  refine sm_aload_n dX10_frees_0 rfl ?_
  refine sm_iload_n dX10_frees_1 rfl ?_
  refine sm_iconst dX10_frees_2 ?_
  refine sm_iconst dX10_frees_3 ?_
  obtain ⟨p1, hp2, h⟩ := sl_bind h
  have hc3 := bModel_laysPatrol (G := G) (E := E) (o := o) (s := s) (mi := mi) g  hp2
  refine sc_callV0 (avs := [.inl z1, .inl 3, .inl 0]) (st := []) lk_RX10_64 rfl vf_X10_laysPatrol hc3 ⟨(Nat.le_of_ble_eq_true rfl), (Nat.le_of_ble_eq_true rfl)⟩ ⟨rfl, (Nat.le_of_ble_eq_true rfl)⟩ g.2.2.1 (by omega) rfl dX10_frees_4 ?_
  refine sm_aload_n dX10_frees_7 rfl ?_
  refine sm_iload_n dX10_frees_8 rfl ?_
  refine sm_iconst dX10_frees_9 ?_
  refine sm_bipush dX10_frees_10 rfl ?_
  obtain ⟨p4, hp5, h⟩ := sl_bind h
  have hc6 := bModel_laysPatrol (G := G) (E := E) (o := o) (s := p1) (mi := mi) g  hp5
  refine sc_callV0 (avs := [.inl z1, .inl 5, .inl (-5)]) (st := []) lk_RX10_64 rfl vf_X10_laysPatrol hc6 ⟨(Nat.le_of_ble_eq_true rfl), (Nat.le_of_ble_eq_true rfl)⟩ ⟨rfl, (Nat.le_of_ble_eq_true rfl)⟩ g.2.2.1 (by omega) rfl dX10_frees_12 ?_
  refine sm_aload_n dX10_frees_15 rfl ?_
  refine sm_iload_n dX10_frees_16 rfl ?_
  refine sm_bipush dX10_frees_17 rfl ?_
  refine sm_bipush dX10_frees_19 rfl ?_
  obtain ⟨p7, hp8, h⟩ := sl_bind h
  have hc9 := bModel_laysPatrol (G := G) (E := E) (o := o) (s := p4) (mi := mi) g  hp8
  refine sc_callV0 (avs := [.inl z1, .inl 6, .inl (-5)]) (st := []) lk_RX10_64 rfl vf_X10_laysPatrol hc9 ⟨(Nat.le_of_ble_eq_true rfl), (Nat.le_of_ble_eq_true rfl)⟩ ⟨rfl, (Nat.le_of_ble_eq_true rfl)⟩ g.2.2.1 (by omega) rfl dX10_frees_21 ?_
  cases h
  exact sm_return rfl dX10_frees_24
abbrev xModel_addPatrol (G : GT) : XT := (G, yX10_addPatrol.cls, cX10_addPatrol, 5, (some .int), decide (yX10_addPatrol.name = "<init>"), 2, 45)
def fModel_addPatrol_j79 (z1 : Int) (z4 : Int) (y1 : Int) (y2 : Int) (y3 : Int) (s : MI) : Option (Int × MI) :=
  Option.bind (fModel_laysPatrol y1 y2 y3 s) (fun p16 => Option.bind (fModel_laysPatrol z4 4 z1 p16) (fun p19 => Option.bind (fModel_frees z4 p19) (fun p22 => Option.bind (some (sm_up p22 1 7 ((p22 1 7) + 1))) (fun s25 => some (z4, s25)))))
set_option maxRecDepth 100000 in
set_option maxHeartbeats 4000000 in
theorem bModel_addPatrol_j79 {G : GT} {E : ET} {o : Nat} {s mi : MI} {z1 : Int} {z4 : Int} {y1 : Int} {y2 : Int} {y3 : Int} {w : Int × MI} (g : gL E o)  (h : fModel_addPatrol_j79 z1 z4 y1 y2 y3 s = some w) : sM (xModel_addPatrol G) 79 [some (.inr o), some (.inl z1), none, none, some (.inl z4)] [.inl y3, .inl y2, .inl y1, .inr o] E (sm_gl o 10 s mi) (some (.inl w.1), E, sm_gl o 10 w.2 mi) := by
  have hN1 := g.1
  have hN2 := g.2.1
  unfold fModel_addPatrol_j79 at h
  obtain ⟨p16, hp17, h⟩ := sl_bind h
  have hc18 := bModel_laysPatrol (G := G) (E := E) (o := o) (s := s) (mi := mi) g  hp17
  refine sc_callV0 (avs := [.inl y1, .inl y2, .inl y3]) (st := []) lk_RX10_64 rfl vf_X10_laysPatrol hc18 ⟨(Nat.le_of_ble_eq_true rfl), (Nat.le_of_ble_eq_true rfl)⟩ ⟨rfl, (Nat.le_of_ble_eq_true rfl)⟩ g.2.2.1 (by omega) rfl dX10_addPatrol_79 ?_
  refine sm_aload_n dX10_addPatrol_82 rfl ?_
  refine sm_iload dX10_addPatrol_83 rfl ?_
  refine sm_iconst dX10_addPatrol_85 ?_
  refine sm_iload_n dX10_addPatrol_86 rfl ?_
  obtain ⟨p19, hp20, h⟩ := sl_bind h
  have hc21 := bModel_laysPatrol (G := G) (E := E) (o := o) (s := p16) (mi := mi) g  hp20
  refine sc_callV0 (avs := [.inl z4, .inl 4, .inl z1]) (st := []) lk_RX10_64 rfl vf_X10_laysPatrol hc21 ⟨(Nat.le_of_ble_eq_true rfl), (Nat.le_of_ble_eq_true rfl)⟩ ⟨rfl, (Nat.le_of_ble_eq_true rfl)⟩ g.2.2.1 (by omega) rfl dX10_addPatrol_87 ?_
  refine sm_aload_n dX10_addPatrol_90 rfl ?_
  refine sm_iload dX10_addPatrol_91 rfl ?_
  obtain ⟨p22, hp23, h⟩ := sl_bind h
  have hc24 := bModel_frees (G := G) (E := E) (o := o) (s := p19) (mi := mi) g  hp23
  refine sc_callV0 (avs := [.inl z4]) (st := []) lk_RX10_68 rfl vf_X10_frees hc24 ⟨(Nat.le_of_ble_eq_true rfl), (Nat.le_of_ble_eq_true rfl)⟩ ⟨rfl, (Nat.le_of_ble_eq_true rfl)⟩ g.2.2.1 (by omega) rfl dX10_addPatrol_93 ?_
  refine sm_aload_n dX10_addPatrol_96 rfl ?_
  refine sm_getR lf_RX10_7 fR_7_0 g.2.2.1 (by omega) g.2.2.2.1.2 dX10_addPatrol_97 ?_
  refine sm_bipush dX10_addPatrol_100 rfl ?_
  refine sm_dup2 dX10_addPatrol_102 ?_
  refine sl_ialdk (D := 1) (k := 7) g.2.2.2.1.1 rfl (by omega) hN2 ⟨by decide, by decide⟩ dX10_addPatrol_103 ?_
  refine sm_iconst dX10_addPatrol_104 ?_
  refine sm_iadd dX10_addPatrol_105 ?_
  refine sl_iastk (D := 1) (k := 7) g.2.2.2.1.1 rfl (by omega) ⟨hN1, hN2⟩ ⟨by decide, by decide⟩ dX10_addPatrol_106 ?_
  obtain ⟨s25, hs26, h⟩ := sl_bind h
  rw [Option.some.inj hs26]
  refine sm_iload dX10_addPatrol_107 rfl ?_
  cases h
  exact sm_ireturn dX10_addPatrol_109 (Or.inl rfl)
def fModel_addPatrol (z1 : Int) (z2 : Int) (z3 : Int) (s : MI) : Option (Int × MI) :=
  Option.bind (fModel_isArea z1) (fun p1 => (if sm_w p1 = 0 then some ((-1), s) else Option.bind (fModel_in z2 1 9) (fun p4 => (if sm_w p4 = 0 then some ((-2), s) else (if sm_w (s 1 7) = 6 then some ((-3), s) else Option.bind (fModel_records s) (fun p7 => Option.bind (fModel_laysPatrol (p7 1 7) 0 z1 p7) (fun p10 => Option.bind (fModel_laysPatrol (p7 1 7) 1 z2 p10) (fun p13 => (if sm_w z3 = 0 then fModel_addPatrol_j79 z1 (p7 1 7) (p7 1 7) 2 0 p13 else fModel_addPatrol_j79 z1 (p7 1 7) (p7 1 7) 2 1 p13)))))))))
set_option maxRecDepth 100000 in
set_option maxHeartbeats 4000000 in
theorem bModel_addPatrol {G : GT} {E : ET} {o : Nat} {s mi : MI} {z1 : Int} {z2 : Int} {z3 : Int} {w : Int × MI} (g : gL E o)  (h : fModel_addPatrol z1 z2 z3 s = some w) : cN G yX10_addPatrol cX10_addPatrol 5 (some .int) 2 45 [.inr o, .inl z1, .inl z2, .inl z3] E (sm_gl o 10 s mi) (some (.inl w.1), E, sm_gl o 10 w.2 mi) := by
  have hN1 := g.1
  have hN2 := g.2.1
  unfold fModel_addPatrol at h
  refine sm_meth (by decide +kernel) (Nat.le_of_ble_eq_true rfl) ?_
  show sM (xModel_addPatrol G) 0 [some (.inr o), some (.inl z1), some (.inl z2), some (.inl z3), none] [] E (sm_gl o 10 s mi) _
  refine sm_iload_n dX10_addPatrol_0 rfl ?_
  obtain ⟨p1, hp2, h⟩ := sl_bind h
  have hc3 := bModel_isArea (G := G) (E := E) (mi := (sm_gl o 10 s mi))   hp2
  refine sc_callS1 (avs := [.inl z1]) (st := []) lk_RX10_57 rfl sf_X10_isArea hc3 ⟨(Nat.le_of_ble_eq_true rfl), (Nat.le_of_ble_eq_true rfl)⟩ ⟨rfl, (Nat.le_of_ble_eq_true rfl)⟩ rfl dX10_addPatrol_1 ?_
  refine sm_if_ne 9 dX10_addPatrol_4 rfl (fun c30 => ?_) (fun c30 => ?_)
  · rw [if_neg c30] at h
    refine sm_iload_n dX10_addPatrol_9 rfl ?_
    refine sm_iconst dX10_addPatrol_10 ?_
    refine sm_bipush dX10_addPatrol_11 rfl ?_
    obtain ⟨p4, hp5, h⟩ := sl_bind h
    have hc6 := bModel_in (G := G) (E := E) (mi := (sm_gl o 10 s mi))   hp5
    refine sc_callS1 (avs := [.inl z2, .inl 1, .inl 9]) (st := []) lk_RX10_48 rfl sf_X10_in hc6 ⟨(Nat.le_of_ble_eq_true rfl), (Nat.le_of_ble_eq_true rfl)⟩ ⟨rfl, (Nat.le_of_ble_eq_true rfl)⟩ rfl dX10_addPatrol_13 ?_
    refine sm_if_ne 22 dX10_addPatrol_16 rfl (fun c29 => ?_) (fun c29 => ?_)
    · rw [if_neg c29] at h
      refine sm_aload_n dX10_addPatrol_22 rfl ?_
      refine sm_getR lf_RX10_7 fR_7_0 g.2.2.1 (by omega) g.2.2.2.1.2 dX10_addPatrol_23 ?_
      refine sm_bipush dX10_addPatrol_26 rfl ?_
      refine sl_ialdk (D := 1) (k := 7) g.2.2.2.1.1 rfl (by omega) hN2 ⟨by decide, by decide⟩ dX10_addPatrol_28 ?_
      refine sm_bipush dX10_addPatrol_29 rfl ?_
      refine sc_icmp_ne (X' := sm_w (s 1 7)) (Y' := 6) 37 dX10_addPatrol_31 rfl rfl (by decide) (fun c28 => ?_) (fun c28 => ?_)
      · rw [if_neg c28] at h
        refine sm_aload_n dX10_addPatrol_37 rfl ?_
        obtain ⟨p7, hp8, h⟩ := sl_bind h
        have hc9 := bModel_records (G := G) (E := E) (o := o) (s := s) (mi := mi) g  hp8
        refine sc_callV0 (avs := []) (st := []) lk_RX10_61 rfl vf_X10_records hc9 ⟨(Nat.le_of_ble_eq_true rfl), (Nat.le_of_ble_eq_true rfl)⟩ ⟨rfl, (Nat.le_of_ble_eq_true rfl)⟩ g.2.2.1 (by omega) rfl dX10_addPatrol_38 ?_
        refine sm_aload_n dX10_addPatrol_41 rfl ?_
        refine sm_getR lf_RX10_7 fR_7_0 g.2.2.1 (by omega) g.2.2.2.1.2 dX10_addPatrol_42 ?_
        refine sm_bipush dX10_addPatrol_45 rfl ?_
        refine sl_ialdk (D := 1) (k := 7) g.2.2.2.1.1 rfl (by omega) hN2 ⟨by decide, by decide⟩ dX10_addPatrol_47 ?_
        refine sm_istore dX10_addPatrol_48 (Nat.le_of_ble_eq_true rfl) ?_
        refine sm_aload_n dX10_addPatrol_50 rfl ?_
        refine sm_iload dX10_addPatrol_51 rfl ?_
        refine sm_iconst dX10_addPatrol_53 ?_
        refine sm_iload_n dX10_addPatrol_54 rfl ?_
        obtain ⟨p10, hp11, h⟩ := sl_bind h
        have hc12 := bModel_laysPatrol (G := G) (E := E) (o := o) (s := p7) (mi := mi) g  hp11
        refine sc_callV0 (avs := [.inl (p7 1 7), .inl 0, .inl z1]) (st := []) lk_RX10_64 rfl vf_X10_laysPatrol hc12 ⟨(Nat.le_of_ble_eq_true rfl), (Nat.le_of_ble_eq_true rfl)⟩ ⟨rfl, (Nat.le_of_ble_eq_true rfl)⟩ g.2.2.1 (by omega) rfl dX10_addPatrol_55 ?_
        refine sm_aload_n dX10_addPatrol_58 rfl ?_
        refine sm_iload dX10_addPatrol_59 rfl ?_
        refine sm_iconst dX10_addPatrol_61 ?_
        refine sm_iload_n dX10_addPatrol_62 rfl ?_
        obtain ⟨p13, hp14, h⟩ := sl_bind h
        have hc15 := bModel_laysPatrol (G := G) (E := E) (o := o) (s := p10) (mi := mi) g  hp14
        refine sc_callV0 (avs := [.inl (p7 1 7), .inl 1, .inl z2]) (st := []) lk_RX10_64 rfl vf_X10_laysPatrol hc15 ⟨(Nat.le_of_ble_eq_true rfl), (Nat.le_of_ble_eq_true rfl)⟩ ⟨rfl, (Nat.le_of_ble_eq_true rfl)⟩ g.2.2.1 (by omega) rfl dX10_addPatrol_63 ?_
        refine sm_aload_n dX10_addPatrol_66 rfl ?_
        refine sm_iload dX10_addPatrol_67 rfl ?_
        refine sm_iconst dX10_addPatrol_69 ?_
        refine sm_iload_n dX10_addPatrol_70 rfl ?_
        refine sm_if_eq 78 dX10_addPatrol_71 rfl (fun c27 => ?_) (fun c27 => ?_)
        · rw [if_pos c27] at h
          refine sm_iconst dX10_addPatrol_78 ?_
          exact sm_less (lv' := [some (.inr o), some (.inl z1), none, none, some (.inl (p7 1 7))]) ⟨rfl, rfl, rfl, trivial⟩ (bModel_addPatrol_j79 g   h)
        · rw [if_neg c27] at h
          refine sm_iconst dX10_addPatrol_74 ?_
          refine sm_goto 79 dX10_addPatrol_75 rfl ?_
          exact sm_less (lv' := [some (.inr o), some (.inl z1), none, none, some (.inl (p7 1 7))]) ⟨rfl, rfl, rfl, trivial⟩ (bModel_addPatrol_j79 g   h)
      · rw [if_pos c28] at h
        refine sm_bipush dX10_addPatrol_34 rfl ?_
        cases h
        exact sm_ireturn dX10_addPatrol_36 (Or.inl rfl)
    · rw [if_pos c29] at h
      refine sm_bipush dX10_addPatrol_19 rfl ?_
      cases h
      exact sm_ireturn dX10_addPatrol_21 (Or.inl rfl)
  · rw [if_pos c30] at h
    refine sm_iconst dX10_addPatrol_7 ?_
    cases h
    exact sm_ireturn dX10_addPatrol_8 (Or.inl rfl)
abbrev xModel_addGarage (G : GT) : XT := (G, yX10_addGarage.cls, cX10_addGarage, 4, (some .int), decide (yX10_addGarage.name = "<init>"), 2, 45)
def fModel_addGarage (z1 : Int) (z2 : Int) (s : MI) : Option (Int × MI) :=
  Option.bind (fModel_isArea z1) (fun p1 => (if sm_w p1 = 0 then some ((-1), s) else Option.bind (fModel_in z2 1 9) (fun p4 => (if sm_w p4 = 0 then some ((-2), s) else (if sm_w (s 1 8) = 5 then some ((-3), s) else Option.bind (fModel_records s) (fun p7 => if 0 ≤ sm_w (270 + (4 * (p7 1 8))) ∧ sm_w (270 + (4 * (p7 1 8))) < 810 then Option.bind (some (sm_up p7 1 (sm_w (270 + (4 * (p7 1 8)))).toNat z1)) (fun s11 => if 0 ≤ sm_w ((270 + (4 * (p7 1 8))) + 1) ∧ sm_w ((270 + (4 * (p7 1 8))) + 1) < 810 then Option.bind (some (sm_up s11 1 (sm_w ((270 + (4 * (p7 1 8))) + 1)).toNat z2)) (fun s14 => Option.bind (some (sm_up s14 1 8 ((s14 1 8) + 1))) (fun s16 => some (((s16 1 8) - 1), s16))) else none) else none))))))
set_option maxRecDepth 100000 in
set_option maxHeartbeats 4000000 in
theorem bModel_addGarage {G : GT} {E : ET} {o : Nat} {s mi : MI} {z1 : Int} {z2 : Int} {w : Int × MI} (g : gL E o)  (h : fModel_addGarage z1 z2 s = some w) : cN G yX10_addGarage cX10_addGarage 4 (some .int) 2 45 [.inr o, .inl z1, .inl z2] E (sm_gl o 10 s mi) (some (.inl w.1), E, sm_gl o 10 w.2 mi) := by
  have hN1 := g.1
  have hN2 := g.2.1
  unfold fModel_addGarage at h
  refine sm_meth (by decide +kernel) (Nat.le_of_ble_eq_true rfl) ?_
  show sM (xModel_addGarage G) 0 [some (.inr o), some (.inl z1), some (.inl z2), none] [] E (sm_gl o 10 s mi) _
  refine sm_iload_n dX10_addGarage_0 rfl ?_
  obtain ⟨p1, hp2, h⟩ := sl_bind h
  have hc3 := bModel_isArea (G := G) (E := E) (mi := (sm_gl o 10 s mi))   hp2
  refine sc_callS1 (avs := [.inl z1]) (st := []) lk_RX10_57 rfl sf_X10_isArea hc3 ⟨(Nat.le_of_ble_eq_true rfl), (Nat.le_of_ble_eq_true rfl)⟩ ⟨rfl, (Nat.le_of_ble_eq_true rfl)⟩ rfl dX10_addGarage_1 ?_
  refine sm_if_ne 9 dX10_addGarage_4 rfl (fun c20 => ?_) (fun c20 => ?_)
  · rw [if_neg c20] at h
    refine sm_iload_n dX10_addGarage_9 rfl ?_
    refine sm_iconst dX10_addGarage_10 ?_
    refine sm_bipush dX10_addGarage_11 rfl ?_
    obtain ⟨p4, hp5, h⟩ := sl_bind h
    have hc6 := bModel_in (G := G) (E := E) (mi := (sm_gl o 10 s mi))   hp5
    refine sc_callS1 (avs := [.inl z2, .inl 1, .inl 9]) (st := []) lk_RX10_48 rfl sf_X10_in hc6 ⟨(Nat.le_of_ble_eq_true rfl), (Nat.le_of_ble_eq_true rfl)⟩ ⟨rfl, (Nat.le_of_ble_eq_true rfl)⟩ rfl dX10_addGarage_13 ?_
    refine sm_if_ne 22 dX10_addGarage_16 rfl (fun c19 => ?_) (fun c19 => ?_)
    · rw [if_neg c19] at h
      refine sm_aload_n dX10_addGarage_22 rfl ?_
      refine sm_getR lf_RX10_7 fR_7_0 g.2.2.1 (by omega) g.2.2.2.1.2 dX10_addGarage_23 ?_
      refine sm_bipush dX10_addGarage_26 rfl ?_
      refine sl_ialdk (D := 1) (k := 8) g.2.2.2.1.1 rfl (by omega) hN2 ⟨by decide, by decide⟩ dX10_addGarage_28 ?_
      refine sm_iconst dX10_addGarage_29 ?_
      refine sc_icmp_ne (X' := sm_w (s 1 8)) (Y' := 5) 36 dX10_addGarage_30 rfl rfl (by decide) (fun c18 => ?_) (fun c18 => ?_)
      · rw [if_neg c18] at h
        refine sm_aload_n dX10_addGarage_36 rfl ?_
        obtain ⟨p7, hp8, h⟩ := sl_bind h
        have hc9 := bModel_records (G := G) (E := E) (o := o) (s := s) (mi := mi) g  hp8
        refine sc_callV0 (avs := []) (st := []) lk_RX10_61 rfl vf_X10_records hc9 ⟨(Nat.le_of_ble_eq_true rfl), (Nat.le_of_ble_eq_true rfl)⟩ ⟨rfl, (Nat.le_of_ble_eq_true rfl)⟩ g.2.2.1 (by omega) rfl dX10_addGarage_37 ?_
        refine sm_sipush dX10_addGarage_40 rfl ?_
        refine sm_iconst dX10_addGarage_43 ?_
        refine sm_aload_n dX10_addGarage_44 rfl ?_
        refine sm_getR lf_RX10_7 fR_7_0 g.2.2.1 (by omega) g.2.2.2.1.2 dX10_addGarage_45 ?_
        refine sm_bipush dX10_addGarage_48 rfl ?_
        refine sl_ialdk (D := 1) (k := 8) g.2.2.2.1.1 rfl (by omega) hN2 ⟨by decide, by decide⟩ dX10_addGarage_50 ?_
        refine sm_imul dX10_addGarage_51 ?_
        refine sm_iadd dX10_addGarage_52 ?_
        refine sm_istore_n dX10_addGarage_53 (Nat.le_of_ble_eq_true rfl) ?_
        refine sm_aload_n dX10_addGarage_54 rfl ?_
        refine sm_getR lf_RX10_7 fR_7_0 g.2.2.1 (by omega) g.2.2.2.1.2 dX10_addGarage_55 ?_
        refine sm_iload_n dX10_addGarage_58 rfl ?_
        refine sm_iload_n dX10_addGarage_59 rfl ?_
        obtain ⟨q10, h⟩ := sl_guard h
        have xq10 := (sl_ix (m := 810) q10).2
        refine sl_iastk (D := 1) (k := (sm_w (270 + (4 * (p7 1 8)))).toNat) g.2.2.2.1.1 rfl (by omega) ⟨hN1, hN2⟩ (sl_ix (m := 810) q10) dX10_addGarage_60 ?_
        obtain ⟨s11, hs12, h⟩ := sl_bind h
        rw [Option.some.inj hs12]
        refine sm_aload_n dX10_addGarage_61 rfl ?_
        refine sm_getR lf_RX10_7 fR_7_0 g.2.2.1 (by omega) g.2.2.2.1.2 dX10_addGarage_62 ?_
        refine sm_iload_n dX10_addGarage_65 rfl ?_
        refine sm_iconst dX10_addGarage_66 ?_
        refine sm_iadd dX10_addGarage_67 ?_
        refine sm_iload_n dX10_addGarage_68 rfl ?_
        obtain ⟨q13, h⟩ := sl_guard h
        have xq13 := (sl_ix (m := 810) q13).2
        refine sl_iastk (D := 1) (k := (sm_w ((270 + (4 * (p7 1 8))) + 1)).toNat) g.2.2.2.1.1 rfl (by omega) ⟨hN1, hN2⟩ (sl_ix (m := 810) q13) dX10_addGarage_69 ?_
        obtain ⟨s14, hs15, h⟩ := sl_bind h
        rw [Option.some.inj hs15]
        refine sm_aload_n dX10_addGarage_70 rfl ?_
        refine sm_getR lf_RX10_7 fR_7_0 g.2.2.1 (by omega) g.2.2.2.1.2 dX10_addGarage_71 ?_
        refine sm_bipush dX10_addGarage_74 rfl ?_
        refine sm_dup2 dX10_addGarage_76 ?_
        refine sl_ialdk (D := 1) (k := 8) g.2.2.2.1.1 rfl (by omega) hN2 ⟨by decide, by decide⟩ dX10_addGarage_77 ?_
        refine sm_iconst dX10_addGarage_78 ?_
        refine sm_iadd dX10_addGarage_79 ?_
        refine sl_iastk (D := 1) (k := 8) g.2.2.2.1.1 rfl (by omega) ⟨hN1, hN2⟩ ⟨by decide, by decide⟩ dX10_addGarage_80 ?_
        obtain ⟨s16, hs17, h⟩ := sl_bind h
        rw [Option.some.inj hs17]
        refine sm_aload_n dX10_addGarage_81 rfl ?_
        refine sm_getR lf_RX10_7 fR_7_0 g.2.2.1 (by omega) g.2.2.2.1.2 dX10_addGarage_82 ?_
        refine sm_bipush dX10_addGarage_85 rfl ?_
        refine sl_ialdk (D := 1) (k := 8) g.2.2.2.1.1 rfl (by omega) hN2 ⟨by decide, by decide⟩ dX10_addGarage_87 ?_
        refine sm_iconst dX10_addGarage_88 ?_
        refine sm_isub dX10_addGarage_89 ?_
        cases h
        exact sm_ireturn dX10_addGarage_90 (Or.inl rfl)
      · rw [if_pos c18] at h
        refine sm_bipush dX10_addGarage_33 rfl ?_
        cases h
        exact sm_ireturn dX10_addGarage_35 (Or.inl rfl)
    · rw [if_pos c19] at h
      refine sm_bipush dX10_addGarage_19 rfl ?_
      cases h
      exact sm_ireturn dX10_addGarage_21 (Or.inl rfl)
  · rw [if_pos c20] at h
    refine sm_iconst dX10_addGarage_7 ?_
    cases h
    exact sm_ireturn dX10_addGarage_8 (Or.inl rfl)
abbrev xModel_setPromise (G : GT) : XT := (G, yX10_setPromise.cls, cX10_setPromise, 4, (some .int), decide (yX10_setPromise.name = "<init>"), 2, 45)
def fModel_setPromise (z1 : Int) (z2 : Int) (s : MI) : Option (Int × MI) :=
  Option.bind (fModel_in z1 0 2) (fun p1 => (if sm_w p1 = 0 then some ((-2), s) else Option.bind (fModel_in z2 10 240) (fun p4 => (if sm_w p4 = 0 then some ((-2), s) else if 0 ≤ sm_w (2 + z1) ∧ sm_w (2 + z1) < 810 then (if sm_w (s 1 (sm_w (2 + z1)).toNat) = sm_w z2 then some ((-5), s) else Option.bind (fModel_records s) (fun p8 => Option.bind (some (sm_up p8 1 (sm_w (2 + z1)).toNat z2)) (fun s11 => some ((s 1 (sm_w (2 + z1)).toNat), s11)))) else none))))
set_option maxRecDepth 100000 in
set_option maxHeartbeats 4000000 in
theorem bModel_setPromise {G : GT} {E : ET} {o : Nat} {s mi : MI} {z1 : Int} {z2 : Int} {w : Int × MI} (g : gL E o)  (h : fModel_setPromise z1 z2 s = some w) : cN G yX10_setPromise cX10_setPromise 4 (some .int) 2 45 [.inr o, .inl z1, .inl z2] E (sm_gl o 10 s mi) (some (.inl w.1), E, sm_gl o 10 w.2 mi) := by
  have hN1 := g.1
  have hN2 := g.2.1
  unfold fModel_setPromise at h
  refine sm_meth (by decide +kernel) (Nat.le_of_ble_eq_true rfl) ?_
  show sM (xModel_setPromise G) 0 [some (.inr o), some (.inl z1), some (.inl z2), none] [] E (sm_gl o 10 s mi) _
  refine sm_iload_n dX10_setPromise_0 rfl ?_
  refine sm_iconst dX10_setPromise_1 ?_
  refine sm_iconst dX10_setPromise_2 ?_
  obtain ⟨p1, hp2, h⟩ := sl_bind h
  have hc3 := bModel_in (G := G) (E := E) (mi := (sm_gl o 10 s mi))   hp2
  refine sc_callS1 (avs := [.inl z1, .inl 0, .inl 2]) (st := []) lk_RX10_48 rfl sf_X10_in hc3 ⟨(Nat.le_of_ble_eq_true rfl), (Nat.le_of_ble_eq_true rfl)⟩ ⟨rfl, (Nat.le_of_ble_eq_true rfl)⟩ rfl dX10_setPromise_3 ?_
  refine sm_if_eq 21 dX10_setPromise_6 rfl (fun c15 => ?_) (fun c15 => ?_)
  · rw [if_pos c15] at h
    refine sm_bipush dX10_setPromise_21 rfl ?_
    cases h
    exact sm_ireturn dX10_setPromise_23 (Or.inl rfl)
  · rw [if_neg c15] at h
    refine sm_iload_n dX10_setPromise_9 rfl ?_
    refine sm_bipush dX10_setPromise_10 rfl ?_
    refine sm_sipush dX10_setPromise_12 rfl ?_
    obtain ⟨p4, hp5, h⟩ := sl_bind h
    have hc6 := bModel_in (G := G) (E := E) (mi := (sm_gl o 10 s mi))   hp5
    refine sc_callS1 (avs := [.inl z2, .inl 10, .inl 240]) (st := []) lk_RX10_48 rfl sf_X10_in hc6 ⟨(Nat.le_of_ble_eq_true rfl), (Nat.le_of_ble_eq_true rfl)⟩ ⟨rfl, (Nat.le_of_ble_eq_true rfl)⟩ rfl dX10_setPromise_15 ?_
    refine sm_if_ne 24 dX10_setPromise_18 rfl (fun c14 => ?_) (fun c14 => ?_)
    · rw [if_neg c14] at h
      refine sm_aload_n dX10_setPromise_24 rfl ?_
      refine sm_getR lf_RX10_7 fR_7_0 g.2.2.1 (by omega) g.2.2.2.1.2 dX10_setPromise_25 ?_
      refine sm_iconst dX10_setPromise_28 ?_
      refine sm_iload_n dX10_setPromise_29 rfl ?_
      refine sm_iadd dX10_setPromise_30 ?_
      obtain ⟨q7, h⟩ := sl_guard h
      have xq7 := (sl_ix (m := 810) q7).2
      refine sl_ialdk (D := 1) (k := (sm_w (2 + z1)).toNat) g.2.2.2.1.1 rfl (by omega) hN2 (sl_ix (m := 810) q7) dX10_setPromise_31 ?_
      refine sm_istore_n dX10_setPromise_32 (Nat.le_of_ble_eq_true rfl) ?_
      refine sm_iload_n dX10_setPromise_33 rfl ?_
      refine sm_iload_n dX10_setPromise_34 rfl ?_
      refine sc_icmp_ne (X' := sm_w (s 1 (sm_w (2 + z1)).toNat)) (Y' := sm_w z2) 41 dX10_setPromise_35 rfl rfl rfl (fun c13 => ?_) (fun c13 => ?_)
      · rw [if_neg c13] at h
        refine sm_aload_n dX10_setPromise_41 rfl ?_
        obtain ⟨p8, hp9, h⟩ := sl_bind h
        have hc10 := bModel_records (G := G) (E := E) (o := o) (s := s) (mi := mi) g  hp9
        refine sc_callV0 (avs := []) (st := []) lk_RX10_61 rfl vf_X10_records hc10 ⟨(Nat.le_of_ble_eq_true rfl), (Nat.le_of_ble_eq_true rfl)⟩ ⟨rfl, (Nat.le_of_ble_eq_true rfl)⟩ g.2.2.1 (by omega) rfl dX10_setPromise_42 ?_
        refine sm_aload_n dX10_setPromise_45 rfl ?_
        refine sm_getR lf_RX10_7 fR_7_0 g.2.2.1 (by omega) g.2.2.2.1.2 dX10_setPromise_46 ?_
        refine sm_iconst dX10_setPromise_49 ?_
        refine sm_iload_n dX10_setPromise_50 rfl ?_
        refine sm_iadd dX10_setPromise_51 ?_
        refine sm_iload_n dX10_setPromise_52 rfl ?_
        refine sl_iastk (D := 1) (k := (sm_w (2 + z1)).toNat) g.2.2.2.1.1 rfl (by omega) ⟨hN1, hN2⟩ (sl_ix (m := 810) q7) dX10_setPromise_53 ?_
        obtain ⟨s11, hs12, h⟩ := sl_bind h
        rw [Option.some.inj hs12]
        refine sm_iload_n dX10_setPromise_54 rfl ?_
        cases h
        exact sm_ireturn dX10_setPromise_55 (Or.inl rfl)
      · rw [if_pos c13] at h
        refine sm_bipush dX10_setPromise_38 rfl ?_
        cases h
        exact sm_ireturn dX10_setPromise_40 (Or.inl rfl)
    · rw [if_pos c14] at h
      refine sm_bipush dX10_setPromise_21 rfl ?_
      cases h
      exact sm_ireturn dX10_setPromise_23 (Or.inl rfl)
abbrev xModel_setWeather (G : GT) : XT := (G, yX10_setWeather.cls, cX10_setWeather, 3, (some .int), decide (yX10_setWeather.name = "<init>"), 2, 45)
def fModel_setWeather (z1 : Int) (s : MI) : Option (Int × MI) :=
  Option.bind (fModel_in z1 0 5) (fun p1 => (if sm_w p1 = 0 then some ((-2), s) else (if sm_w (s 1 1) = sm_w z1 then some ((-5), s) else Option.bind (fModel_records s) (fun p4 => Option.bind (some (sm_up p4 1 1 z1)) (fun s7 => some ((s 1 1), s7))))))
set_option maxRecDepth 100000 in
set_option maxHeartbeats 4000000 in
theorem bModel_setWeather {G : GT} {E : ET} {o : Nat} {s mi : MI} {z1 : Int} {w : Int × MI} (g : gL E o)  (h : fModel_setWeather z1 s = some w) : cN G yX10_setWeather cX10_setWeather 3 (some .int) 2 45 [.inr o, .inl z1] E (sm_gl o 10 s mi) (some (.inl w.1), E, sm_gl o 10 w.2 mi) := by
  have hN1 := g.1
  have hN2 := g.2.1
  unfold fModel_setWeather at h
  refine sm_meth (by decide +kernel) (Nat.le_of_ble_eq_true rfl) ?_
  show sM (xModel_setWeather G) 0 [some (.inr o), some (.inl z1), none] [] E (sm_gl o 10 s mi) _
  refine sm_iload_n dX10_setWeather_0 rfl ?_
  refine sm_iconst dX10_setWeather_1 ?_
  refine sm_iconst dX10_setWeather_2 ?_
  obtain ⟨p1, hp2, h⟩ := sl_bind h
  have hc3 := bModel_in (G := G) (E := E) (mi := (sm_gl o 10 s mi))   hp2
  refine sc_callS1 (avs := [.inl z1, .inl 0, .inl 5]) (st := []) lk_RX10_48 rfl sf_X10_in hc3 ⟨(Nat.le_of_ble_eq_true rfl), (Nat.le_of_ble_eq_true rfl)⟩ ⟨rfl, (Nat.le_of_ble_eq_true rfl)⟩ rfl dX10_setWeather_3 ?_
  refine sm_if_ne 12 dX10_setWeather_6 rfl (fun c10 => ?_) (fun c10 => ?_)
  · rw [if_neg c10] at h
    refine sm_aload_n dX10_setWeather_12 rfl ?_
    refine sm_getR lf_RX10_7 fR_7_0 g.2.2.1 (by omega) g.2.2.2.1.2 dX10_setWeather_13 ?_
    refine sm_iconst dX10_setWeather_16 ?_
    refine sl_ialdk (D := 1) (k := 1) g.2.2.2.1.1 rfl (by omega) hN2 ⟨by decide, by decide⟩ dX10_setWeather_17 ?_
    refine sm_istore_n dX10_setWeather_18 (Nat.le_of_ble_eq_true rfl) ?_
    refine sm_iload_n dX10_setWeather_19 rfl ?_
    refine sm_iload_n dX10_setWeather_20 rfl ?_
    refine sc_icmp_ne (X' := sm_w (s 1 1)) (Y' := sm_w z1) 27 dX10_setWeather_21 rfl rfl rfl (fun c9 => ?_) (fun c9 => ?_)
    · rw [if_neg c9] at h
      refine sm_aload_n dX10_setWeather_27 rfl ?_
      obtain ⟨p4, hp5, h⟩ := sl_bind h
      have hc6 := bModel_records (G := G) (E := E) (o := o) (s := s) (mi := mi) g  hp5
      refine sc_callV0 (avs := []) (st := []) lk_RX10_61 rfl vf_X10_records hc6 ⟨(Nat.le_of_ble_eq_true rfl), (Nat.le_of_ble_eq_true rfl)⟩ ⟨rfl, (Nat.le_of_ble_eq_true rfl)⟩ g.2.2.1 (by omega) rfl dX10_setWeather_28 ?_
      refine sm_aload_n dX10_setWeather_31 rfl ?_
      refine sm_getR lf_RX10_7 fR_7_0 g.2.2.1 (by omega) g.2.2.2.1.2 dX10_setWeather_32 ?_
      refine sm_iconst dX10_setWeather_35 ?_
      refine sm_iload_n dX10_setWeather_36 rfl ?_
      refine sl_iastk (D := 1) (k := 1) g.2.2.2.1.1 rfl (by omega) ⟨hN1, hN2⟩ ⟨by decide, by decide⟩ dX10_setWeather_37 ?_
      obtain ⟨s7, hs8, h⟩ := sl_bind h
      rw [Option.some.inj hs8]
      refine sm_iload_n dX10_setWeather_38 rfl ?_
      cases h
      exact sm_ireturn dX10_setWeather_39 (Or.inl rfl)
    · rw [if_pos c9] at h
      refine sm_bipush dX10_setWeather_24 rfl ?_
      cases h
      exact sm_ireturn dX10_setWeather_26 (Or.inl rfl)
  · rw [if_pos c10] at h
    refine sm_bipush dX10_setWeather_9 rfl ?_
    cases h
    exact sm_ireturn dX10_setWeather_11 (Or.inl rfl)
abbrev xModel_openOf (G : GT) : XT := (G, yX10_openOf.cls, cX10_openOf, 3, (some .int), decide (yX10_openOf.name = "<init>"), 1, 22)
abbrev qModel_openOf_l2 (G : GT) (E : ET) (o : Nat) (mi : MI) (z1 : Int) (s : MI) (r : RT) (t : Int) : Prop := sM (xModel_openOf G) 2 [some (.inr o), some (.inl z1), some (.inl t)] [] E (sm_gl o 10 s mi) r
abbrev kModel_openOf_l2 (G : GT) (E : ET) (o : Nat) (mi : MI) (z1 : Int) (s : MI) (r : RT) : (Unit) ⊕ (Int) → Prop := Sum.elim (fun x => sM (xModel_openOf G) 41 [none, none, none] [] E (sm_gl o 10 s mi) r) (fun v => (some (.inl v), E, (sm_gl o 10 s mi)) = r)
def fModel_openOf_j35_l2 (z1 : Int) (z2 : Int) (s : MI) : Option ((Int) ⊕ ((Unit) ⊕ (Int))) :=
  some (.inl (z2 + 1))
set_option maxRecDepth 100000 in
set_option maxHeartbeats 4000000 in
theorem bModel_openOf_j35_l2 {G : GT} {E : ET} {o : Nat} {s mi : MI} {z1 : Int} {z2 : Int} {r : RT} {w : (Int) ⊕ ((Unit) ⊕ (Int))} (g : gL E o)  (h : fModel_openOf_j35_l2 z1 z2 s = some w) (hK : Sum.elim (qModel_openOf_l2 G E o mi z1 s r) (kModel_openOf_l2 G E o mi z1 s r) w) : sM (xModel_openOf G) 35 [some (.inr o), some (.inl z1), some (.inl z2)] [] E (sm_gl o 10 s mi) r := by
  have hN1 := g.1
  have hN2 := g.2.1
  unfold fModel_openOf_j35_l2 at h
  refine sm_iinc dX10_openOf_35 (Nat.le_of_ble_eq_true rfl) rfl ?_
  refine sm_goto 2 dX10_openOf_38 rfl ?_
  cases h
  exact sm_less (lv' := [some (.inr o), some (.inl z1), some (.inl (z2 + 1))]) ⟨rfl, rfl, rfl, trivial⟩ hK
def fModel_openOf_l2 (z1 : Int) (z2 : Int) (s : MI) : Option ((Int) ⊕ ((Unit) ⊕ (Int))) :=
  (if sm_w (s 1 9) ≤ sm_w z2 then some (.inr (.inl ())) else Option.bind (fModel_ofCall z2 0 s) (fun p7 => (if sm_w p7 = sm_w z1 then Option.bind (fModel_ofCall z2 5 s) (fun p10 => (if 5 ≤ sm_w p10 then fModel_openOf_j35_l2 z1 z2 s else some (.inr (.inr z2)))) else fModel_openOf_j35_l2 z1 z2 s)))
set_option maxRecDepth 100000 in
set_option maxHeartbeats 4000000 in
theorem bModel_openOf_l2 {G : GT} {E : ET} {o : Nat} {s mi : MI} {z1 : Int} {z2 : Int} {r : RT} {w : (Int) ⊕ ((Unit) ⊕ (Int))} (g : gL E o)  (h : fModel_openOf_l2 z1 z2 s = some w) (hK : Sum.elim (qModel_openOf_l2 G E o mi z1 s r) (kModel_openOf_l2 G E o mi z1 s r) w) : qModel_openOf_l2 G E o mi z1 s r z2 := by
  have hN1 := g.1
  have hN2 := g.2.1
  unfold fModel_openOf_l2 at h
  show sM (xModel_openOf G) 2 [some (.inr o), some (.inl z1), some (.inl z2)] [] E (sm_gl o 10 s mi) r
  refine sm_iload_n dX10_openOf_2 rfl ?_
  refine sm_aload_n dX10_openOf_3 rfl ?_
  refine sm_getR lf_RX10_7 fR_7_0 g.2.2.1 (by omega) g.2.2.2.1.2 dX10_openOf_4 ?_
  refine sm_bipush dX10_openOf_7 rfl ?_
  refine sl_ialdk (D := 1) (k := 9) g.2.2.2.1.1 rfl (by omega) hN2 ⟨by decide, by decide⟩ dX10_openOf_9 ?_
  refine sc_icmp_ge (X' := sm_w z2) (Y' := sm_w (s 1 9)) 41 dX10_openOf_10 rfl rfl rfl (fun c15 => ?_) (fun c15 => ?_)
  · rw [if_pos c15] at h
    cases h
    exact sm_less (lv' := [none, none, none]) trivial hK
  · rw [if_neg c15] at h
    refine sm_aload_n dX10_openOf_13 rfl ?_
    refine sm_iload_n dX10_openOf_14 rfl ?_
    refine sm_iconst dX10_openOf_15 ?_
    obtain ⟨p7, hp8, h⟩ := sl_bind h
    have hc9 := bModel_ofCall (G := G) (E := E) (o := o) (s := s) (mi := mi) g  hp8
    refine sc_callV1 (avs := [.inl z2, .inl 0]) (st := []) lk_RX10_72 rfl vf_X10_ofCall hc9 ⟨(Nat.le_of_ble_eq_true rfl), (Nat.le_of_ble_eq_true rfl)⟩ ⟨rfl, (Nat.le_of_ble_eq_true rfl)⟩ g.2.2.1 (by omega) rfl dX10_openOf_16 ?_
    refine sm_iload_n dX10_openOf_19 rfl ?_
    refine sc_icmp_ne (X' := sm_w p7) (Y' := sm_w z1) 35 dX10_openOf_20 rfl rfl rfl (fun c14 => ?_) (fun c14 => ?_)
    · rw [if_neg c14] at h
      exact sm_less (lv' := [some (.inr o), some (.inl z1), some (.inl z2)]) ⟨rfl, rfl, rfl, trivial⟩ (bModel_openOf_j35_l2 g   h hK)
    · rw [if_pos c14] at h
      refine sm_aload_n dX10_openOf_23 rfl ?_
      refine sm_iload_n dX10_openOf_24 rfl ?_
      refine sm_iconst dX10_openOf_25 ?_
      obtain ⟨p10, hp11, h⟩ := sl_bind h
      have hc12 := bModel_ofCall (G := G) (E := E) (o := o) (s := s) (mi := mi) g  hp11
      refine sc_callV1 (avs := [.inl z2, .inl 5]) (st := []) lk_RX10_72 rfl vf_X10_ofCall hc12 ⟨(Nat.le_of_ble_eq_true rfl), (Nat.le_of_ble_eq_true rfl)⟩ ⟨rfl, (Nat.le_of_ble_eq_true rfl)⟩ g.2.2.1 (by omega) rfl dX10_openOf_26 ?_
      refine sm_iconst dX10_openOf_29 ?_
      refine sc_icmp_ge (X' := sm_w p10) (Y' := 5) 35 dX10_openOf_30 rfl rfl (by decide) (fun c13 => ?_) (fun c13 => ?_)
      · rw [if_pos c13] at h
        exact sm_less (lv' := [some (.inr o), some (.inl z1), some (.inl z2)]) ⟨rfl, rfl, rfl, trivial⟩ (bModel_openOf_j35_l2 g   h hK)
      · rw [if_neg c13] at h
        refine sm_iload_n dX10_openOf_33 rfl ?_
        cases h
        have hK : (some (.inl z2), E, (sm_gl o 10 s mi)) = r := hK
        subst hK
        exact sm_ireturn dX10_openOf_34 (Or.inl rfl)
def fModel_openOf (z1 : Int) (s : MI) : Option (Int) :=
  Option.bind (sl_it (fun (t : Int) => fModel_openOf_l2 z1 t s) sl_fu 0) (fun y16 => Sum.elim (fun x18 => some (-5)) (fun v19 => some v19) y16)
set_option maxRecDepth 100000 in
set_option maxHeartbeats 4000000 in
theorem bModel_openOf {G : GT} {E : ET} {o : Nat} {s mi : MI} {z1 : Int} {w : Int} (g : gL E o)  (h : fModel_openOf z1 s = some w) : cN G yX10_openOf cX10_openOf 3 (some .int) 1 22 [.inr o, .inl z1] E (sm_gl o 10 s mi) (some (.inl w), E, (sm_gl o 10 s mi)) := by
  have hN1 := g.1
  have hN2 := g.2.1
  unfold fModel_openOf at h
  refine sm_meth (by decide +kernel) (Nat.le_of_ble_eq_true rfl) ?_
  show sM (xModel_openOf G) 0 [some (.inr o), some (.inl z1), none] [] E (sm_gl o 10 s mi) _
  refine sm_iconst dX10_openOf_0 ?_
  refine sm_istore_n dX10_openOf_1 (Nat.le_of_ble_eq_true rfl) ?_
  obtain ⟨y16, hy17, h⟩ := sl_bind h
  refine sm_less (lv' := [some (.inr o), some (.inl z1), some (.inl 0)]) ⟨rfl, rfl, rfl, trivial⟩ (sl_itE (P := qModel_openOf_l2 G E o mi z1 s _) (K := kModel_openOf_l2 G E o mi z1 s _) (fun t q hq hk => bModel_openOf_l2 g  hq hk) sl_fu _ y16 hy17 ?_)
  rcases y16 with x18 | v19
  · show sM (xModel_openOf G) 41 [none, none, none] [] E (sm_gl o 10 s mi) _
    dsimp only [Sum.elim_inl] at h
    refine sm_bipush dX10_openOf_41 rfl ?_
    cases h
    exact sm_ireturn dX10_openOf_43 (Or.inl rfl)
  · dsimp only [Sum.elim_inr] at h
    cases h
    exact rfl
abbrev xModel_against (G : GT) : XT := (G, yX10_against.cls, cX10_against, 4, (some .int), decide (yX10_against.name = "<init>"), 2, 44)
def fModel_against (z1 : Int) (z2 : Int) (z3 : Int) (s : MI) : Option (Int) :=
  Option.bind (fModel_isMember z1 s) (fun p1 => (if sm_w p1 = 0 then some (-1) else Option.bind (fModel_isArea z2) (fun p4 => (if sm_w p4 = 0 then some (-1) else Option.bind (fModel_in z3 1 12) (fun p7 => (if sm_w p7 = 0 then some (-2) else Option.bind (fModel_openOf z1 s) (fun p10 => (if sm_w p10 = (-5) then (if sm_w (s 1 9) = 40 then some (-3) else some 0) else some (-4)))))))))
set_option maxRecDepth 100000 in
set_option maxHeartbeats 4000000 in
theorem bModel_against {G : GT} {E : ET} {o : Nat} {s mi : MI} {z1 : Int} {z2 : Int} {z3 : Int} {w : Int} (g : gL E o)  (h : fModel_against z1 z2 z3 s = some w) : cN G yX10_against cX10_against 4 (some .int) 2 44 [.inr o, .inl z1, .inl z2, .inl z3] E (sm_gl o 10 s mi) (some (.inl w), E, (sm_gl o 10 s mi)) := by
  have hN1 := g.1
  have hN2 := g.2.1
  unfold fModel_against at h
  refine sm_meth (by decide +kernel) (Nat.le_of_ble_eq_true rfl) ?_
  show sM (xModel_against G) 0 [some (.inr o), some (.inl z1), some (.inl z2), some (.inl z3)] [] E (sm_gl o 10 s mi) _
  refine sm_aload_n dX10_against_0 rfl ?_
  refine sm_iload_n dX10_against_1 rfl ?_
  obtain ⟨p1, hp2, h⟩ := sl_bind h
  have hc3 := bModel_isMember (G := G) (E := E) (o := o) (s := s) (mi := mi) g  hp2
  refine sc_callV1 (avs := [.inl z1]) (st := []) lk_RX10_75 rfl vf_X10_isMember hc3 ⟨(Nat.le_of_ble_eq_true rfl), (Nat.le_of_ble_eq_true rfl)⟩ ⟨rfl, (Nat.le_of_ble_eq_true rfl)⟩ g.2.2.1 (by omega) rfl dX10_against_2 ?_
  refine sm_if_eq 15 dX10_against_5 rfl (fun c17 => ?_) (fun c17 => ?_)
  · rw [if_pos c17] at h
    refine sm_iconst dX10_against_15 ?_
    cases h
    exact sm_ireturn dX10_against_16 (Or.inl rfl)
  · rw [if_neg c17] at h
    refine sm_iload_n dX10_against_8 rfl ?_
    obtain ⟨p4, hp5, h⟩ := sl_bind h
    have hc6 := bModel_isArea (G := G) (E := E) (mi := (sm_gl o 10 s mi))   hp5
    refine sc_callS1 (avs := [.inl z2]) (st := []) lk_RX10_57 rfl sf_X10_isArea hc6 ⟨(Nat.le_of_ble_eq_true rfl), (Nat.le_of_ble_eq_true rfl)⟩ ⟨rfl, (Nat.le_of_ble_eq_true rfl)⟩ rfl dX10_against_9 ?_
    refine sm_if_ne 17 dX10_against_12 rfl (fun c16 => ?_) (fun c16 => ?_)
    · rw [if_neg c16] at h
      refine sm_iload_n dX10_against_17 rfl ?_
      refine sm_iconst dX10_against_18 ?_
      refine sm_bipush dX10_against_19 rfl ?_
      obtain ⟨p7, hp8, h⟩ := sl_bind h
      have hc9 := bModel_in (G := G) (E := E) (mi := (sm_gl o 10 s mi))   hp8
      refine sc_callS1 (avs := [.inl z3, .inl 1, .inl 12]) (st := []) lk_RX10_48 rfl sf_X10_in hc9 ⟨(Nat.le_of_ble_eq_true rfl), (Nat.le_of_ble_eq_true rfl)⟩ ⟨rfl, (Nat.le_of_ble_eq_true rfl)⟩ rfl dX10_against_21 ?_
      refine sm_if_ne 30 dX10_against_24 rfl (fun c15 => ?_) (fun c15 => ?_)
      · rw [if_neg c15] at h
        refine sm_aload_n dX10_against_30 rfl ?_
        refine sm_iload_n dX10_against_31 rfl ?_
        obtain ⟨p10, hp11, h⟩ := sl_bind h
        have hc12 := bModel_openOf (G := G) (E := E) (o := o) (s := s) (mi := mi) g  hp11
        refine sc_callV1 (avs := [.inl z1]) (st := []) lk_RX10_78 rfl vf_X10_openOf hc12 ⟨(Nat.le_of_ble_eq_true rfl), (Nat.le_of_ble_eq_true rfl)⟩ ⟨rfl, (Nat.le_of_ble_eq_true rfl)⟩ g.2.2.1 (by omega) rfl dX10_against_32 ?_
        refine sm_bipush dX10_against_35 rfl ?_
        refine sc_icmp_eq (X' := sm_w p10) (Y' := (-5)) 43 dX10_against_37 rfl rfl (by decide) (fun c14 => ?_) (fun c14 => ?_)
        · rw [if_pos c14] at h
          refine sm_aload_n dX10_against_43 rfl ?_
          refine sm_getR lf_RX10_7 fR_7_0 g.2.2.1 (by omega) g.2.2.2.1.2 dX10_against_44 ?_
          refine sm_bipush dX10_against_47 rfl ?_
          refine sl_ialdk (D := 1) (k := 9) g.2.2.2.1.1 rfl (by omega) hN2 ⟨by decide, by decide⟩ dX10_against_49 ?_
          refine sm_bipush dX10_against_50 rfl ?_
          refine sc_icmp_ne (X' := sm_w (s 1 9)) (Y' := 40) 60 dX10_against_52 rfl rfl (by decide) (fun c13 => ?_) (fun c13 => ?_)
          · rw [if_neg c13] at h
            refine sm_iconst dX10_against_60 ?_
            cases h
            exact sm_ireturn dX10_against_61 (Or.inl rfl)
          · rw [if_pos c13] at h
            refine sm_bipush dX10_against_55 rfl ?_
            refine sm_goto 61 dX10_against_57 rfl ?_
            cases h
            exact sm_ireturn dX10_against_61 (Or.inl rfl)
        · rw [if_neg c14] at h
          refine sm_bipush dX10_against_40 rfl ?_
          cases h
          exact sm_ireturn dX10_against_42 (Or.inl rfl)
      · rw [if_pos c15] at h
        refine sm_bipush dX10_against_27 rfl ?_
        cases h
        exact sm_ireturn dX10_against_29 (Or.inl rfl)
    · rw [if_pos c16] at h
      refine sm_iconst dX10_against_15 ?_
      cases h
      exact sm_ireturn dX10_against_16 (Or.inl rfl)
abbrev xModel_comes (G : GT) : XT := (G, yX10_comes.cls, cX10_comes, 7, none, decide (yX10_comes.name = "<init>"), 1, 23)
abbrev qModel_comes_l16 (G : GT) (E : ET) (o : Nat) (mi : MI) (z1 : Int) (z2 : Int) (z3 : Int) (z4 : Int) (s : MI) (r : RT) (t : Int × Int) : Prop := sM (xModel_comes G) 16 [some (.inr o), some (.inl z1), some (.inl z2), some (.inl z3), some (.inl z4), some (.inl t.1), some (.inl t.2)] [] E (sm_gl o 10 s mi) r
abbrev kModel_comes_l16 (G : GT) (E : ET) (o : Nat) (mi : MI) (z1 : Int) (z2 : Int) (z3 : Int) (z4 : Int) (s : MI) (r : RT) (x : Int) : Prop := sM (xModel_comes G) 60 [some (.inr o), some (.inl z1), some (.inl z2), some (.inl z3), some (.inl z4), some (.inl x), none] [] E (sm_gl o 10 s mi) r
def fModel_comes_j52_l16 (z1 : Int) (z2 : Int) (z3 : Int) (z4 : Int) (z6 : Int) (y0 : Int) (s : MI) : Option ((Int × Int) ⊕ (Int)) :=
  some (.inl (y0, (z6 + 1)))
set_option maxRecDepth 100000 in
set_option maxHeartbeats 4000000 in
theorem bModel_comes_j52_l16 {G : GT} {E : ET} {o : Nat} {s mi : MI} {z1 : Int} {z2 : Int} {z3 : Int} {z4 : Int} {z6 : Int} {y0 : Int} {r : RT} {w : (Int × Int) ⊕ (Int)} (g : gL E o)  (h : fModel_comes_j52_l16 z1 z2 z3 z4 z6 y0 s = some w) (hK : Sum.elim (qModel_comes_l16 G E o mi z1 z2 z3 z4 s r) (kModel_comes_l16 G E o mi z1 z2 z3 z4 s r) w) : sM (xModel_comes G) 52 [some (.inr o), some (.inl z1), some (.inl z2), some (.inl z3), some (.inl z4), none, some (.inl z6)] [.inl y0] E (sm_gl o 10 s mi) r := by
  have hN1 := g.1
  have hN2 := g.2.1
  unfold fModel_comes_j52_l16 at h
  refine sm_istore dX10_comes_52 (Nat.le_of_ble_eq_true rfl) ?_
  refine sm_iinc dX10_comes_54 (Nat.le_of_ble_eq_true rfl) rfl ?_
  refine sm_goto 16 dX10_comes_57 rfl ?_
  cases h
  exact sm_less (lv' := [some (.inr o), some (.inl z1), some (.inl z2), some (.inl z3), some (.inl z4), some (.inl y0), some (.inl (z6 + 1))]) ⟨rfl, rfl, rfl, rfl, rfl, rfl, rfl, trivial⟩ hK
def fModel_comes_j50_l16 (z1 : Int) (z2 : Int) (z3 : Int) (z4 : Int) (z5 : Int) (z6 : Int) (s : MI) : Option ((Int × Int) ⊕ (Int)) :=
  fModel_comes_j52_l16 z1 z2 z3 z4 z6 z5 s
set_option maxRecDepth 100000 in
set_option maxHeartbeats 4000000 in
theorem bModel_comes_j50_l16 {G : GT} {E : ET} {o : Nat} {s mi : MI} {z1 : Int} {z2 : Int} {z3 : Int} {z4 : Int} {z5 : Int} {z6 : Int} {r : RT} {w : (Int × Int) ⊕ (Int)} (g : gL E o)  (h : fModel_comes_j50_l16 z1 z2 z3 z4 z5 z6 s = some w) (hK : Sum.elim (qModel_comes_l16 G E o mi z1 z2 z3 z4 s r) (kModel_comes_l16 G E o mi z1 z2 z3 z4 s r) w) : sM (xModel_comes G) 50 [some (.inr o), some (.inl z1), some (.inl z2), some (.inl z3), some (.inl z4), some (.inl z5), some (.inl z6)] [] E (sm_gl o 10 s mi) r := by
  have hN1 := g.1
  have hN2 := g.2.1
  unfold fModel_comes_j50_l16 at h
  refine sm_iload dX10_comes_50 rfl ?_
  exact sm_less (lv' := [some (.inr o), some (.inl z1), some (.inl z2), some (.inl z3), some (.inl z4), none, some (.inl z6)]) ⟨rfl, rfl, rfl, rfl, rfl, rfl, trivial⟩ (bModel_comes_j52_l16 g   h hK)
def fModel_comes_l16 (z1 : Int) (z2 : Int) (z3 : Int) (z4 : Int) (z5 : Int) (z6 : Int) (s : MI) : Option ((Int × Int) ⊕ (Int)) :=
  (if sm_w z4 ≤ sm_w z6 then some (.inr z5) else Option.bind (fModel_ofCall z6 0 s) (fun p1 => (if sm_w p1 = sm_w z1 then Option.bind (fModel_ofCall z6 5 s) (fun p4 => (if sm_w p4 = 5 then fModel_comes_j52_l16 z1 z2 z3 z4 z6 z6 s else fModel_comes_j50_l16 z1 z2 z3 z4 z5 z6 s)) else fModel_comes_j50_l16 z1 z2 z3 z4 z5 z6 s)))
set_option maxRecDepth 100000 in
set_option maxHeartbeats 4000000 in
theorem bModel_comes_l16 {G : GT} {E : ET} {o : Nat} {s mi : MI} {z1 : Int} {z2 : Int} {z3 : Int} {z4 : Int} {z5 : Int} {z6 : Int} {r : RT} {w : (Int × Int) ⊕ (Int)} (g : gL E o)  (h : fModel_comes_l16 z1 z2 z3 z4 z5 z6 s = some w) (hK : Sum.elim (qModel_comes_l16 G E o mi z1 z2 z3 z4 s r) (kModel_comes_l16 G E o mi z1 z2 z3 z4 s r) w) : qModel_comes_l16 G E o mi z1 z2 z3 z4 s r (z5, z6) := by
  have hN1 := g.1
  have hN2 := g.2.1
  unfold fModel_comes_l16 at h
  show sM (xModel_comes G) 16 [some (.inr o), some (.inl z1), some (.inl z2), some (.inl z3), some (.inl z4), some (.inl z5), some (.inl z6)] [] E (sm_gl o 10 s mi) r
  refine sm_iload dX10_comes_16 rfl ?_
  refine sm_iload dX10_comes_18 rfl ?_
  refine sc_icmp_ge (X' := sm_w z6) (Y' := sm_w z4) 60 dX10_comes_20 rfl rfl rfl (fun c9 => ?_) (fun c9 => ?_)
  · rw [if_pos c9] at h
    cases h
    exact sm_less (lv' := [some (.inr o), some (.inl z1), some (.inl z2), some (.inl z3), some (.inl z4), some (.inl z5), none]) ⟨rfl, rfl, rfl, rfl, rfl, rfl, trivial⟩ hK
  · rw [if_neg c9] at h
    refine sm_aload_n dX10_comes_23 rfl ?_
    refine sm_iload dX10_comes_24 rfl ?_
    refine sm_iconst dX10_comes_26 ?_
    obtain ⟨p1, hp2, h⟩ := sl_bind h
    have hc3 := bModel_ofCall (G := G) (E := E) (o := o) (s := s) (mi := mi) g  hp2
    refine sc_callV1 (avs := [.inl z6, .inl 0]) (st := []) lk_RX10_72 rfl vf_X10_ofCall hc3 ⟨(Nat.le_of_ble_eq_true rfl), (Nat.le_of_ble_eq_true rfl)⟩ ⟨rfl, (Nat.le_of_ble_eq_true rfl)⟩ g.2.2.1 (by omega) rfl dX10_comes_27 ?_
    refine sm_iload_n dX10_comes_30 rfl ?_
    refine sc_icmp_ne (X' := sm_w p1) (Y' := sm_w z1) 50 dX10_comes_31 rfl rfl rfl (fun c8 => ?_) (fun c8 => ?_)
    · rw [if_neg c8] at h
      exact sm_less (lv' := [some (.inr o), some (.inl z1), some (.inl z2), some (.inl z3), some (.inl z4), some (.inl z5), some (.inl z6)]) ⟨rfl, rfl, rfl, rfl, rfl, rfl, rfl, trivial⟩ (bModel_comes_j50_l16 g   h hK)
    · rw [if_pos c8] at h
      refine sm_aload_n dX10_comes_34 rfl ?_
      refine sm_iload dX10_comes_35 rfl ?_
      refine sm_iconst dX10_comes_37 ?_
      obtain ⟨p4, hp5, h⟩ := sl_bind h
      have hc6 := bModel_ofCall (G := G) (E := E) (o := o) (s := s) (mi := mi) g  hp5
      refine sc_callV1 (avs := [.inl z6, .inl 5]) (st := []) lk_RX10_72 rfl vf_X10_ofCall hc6 ⟨(Nat.le_of_ble_eq_true rfl), (Nat.le_of_ble_eq_true rfl)⟩ ⟨rfl, (Nat.le_of_ble_eq_true rfl)⟩ g.2.2.1 (by omega) rfl dX10_comes_38 ?_
      refine sm_iconst dX10_comes_41 ?_
      refine sc_icmp_ne (X' := sm_w p4) (Y' := 5) 50 dX10_comes_42 rfl rfl (by decide) (fun c7 => ?_) (fun c7 => ?_)
      · rw [if_neg c7] at h
        exact sm_less (lv' := [some (.inr o), some (.inl z1), some (.inl z2), some (.inl z3), some (.inl z4), some (.inl z5), some (.inl z6)]) ⟨rfl, rfl, rfl, rfl, rfl, rfl, rfl, trivial⟩ (bModel_comes_j50_l16 g   h hK)
      · rw [if_pos c7] at h
        refine sm_iload dX10_comes_45 rfl ?_
        refine sm_goto 52 dX10_comes_47 rfl ?_
        exact sm_less (lv' := [some (.inr o), some (.inl z1), some (.inl z2), some (.inl z3), some (.inl z4), none, some (.inl z6)]) ⟨rfl, rfl, rfl, rfl, rfl, rfl, trivial⟩ (bModel_comes_j52_l16 g   h hK)
def fModel_comes (z1 : Int) (z2 : Int) (z3 : Int) (s : MI) : Option (MI) :=
  Option.bind (sl_it (fun (t : Int × Int) => fModel_comes_l16 z1 z2 z3 (s 1 9) t.1 t.2 s) sl_fu ((-5), 0)) (fun x12 => Option.bind (fModel_laysCall (s 1 9) 0 z1 s) (fun p13 => Option.bind (fModel_laysCall (s 1 9) 1 z2 p13) (fun p16 => Option.bind (fModel_laysCall (s 1 9) 2 z3 p16) (fun p19 => Option.bind (fModel_ofMember z1 0 p19) (fun p22 => if 0 ≤ sm_w (2 + p22) ∧ sm_w (2 + p22) < 810 then Option.bind (fModel_laysCall (s 1 9) 3 ((p19 1 (sm_w (2 + p22)).toNat) + (10 * (p19 1 1))) p19) (fun p26 => Option.bind (fModel_laysCall (s 1 9) 4 (p26 1 0) p26) (fun p29 => Option.bind (fModel_laysCall (s 1 9) 5 0 p29) (fun p32 => Option.bind (fModel_laysCall (s 1 9) 6 (-5) p32) (fun p35 => Option.bind (fModel_laysCall (s 1 9) 7 0 p35) (fun p38 => Option.bind (fModel_laysCall (s 1 9) 8 (-5) p38) (fun p41 => Option.bind (fModel_laysCall (s 1 9) 9 (-5) p41) (fun p44 => Option.bind (fModel_laysCall (s 1 9) 10 0 p44) (fun p47 => Option.bind (fModel_laysCall (s 1 9) 11 (-5) p47) (fun p50 => Option.bind (some (sm_up p50 1 9 ((p50 1 9) + 1))) (fun s53 => (if sm_w x12 = (-5) then some s53 else Option.bind (fModel_ofCall x12 9 s53) (fun p55 => (if 120 < sm_w ((s53 1 0) - p55) then some s53 else Option.bind (fModel_ofCall x12 8 s53) (fun p58 => Option.bind (fModel_laysCall (s 1 9) 10 1 s53) (fun p61 => Option.bind (fModel_ofPatrol p58 9 p61) (fun p64 => Option.bind (fModel_laysPatrol p58 9 (p64 + 1) p61) (fun p67 => Option.bind (fModel_addsMember z1 2 1 p67) (fun p70 => Option.bind (some (sm_up p70 1 12 ((p70 1 12) + 1))) (fun s73 => some s73))))))))))))))))))) else none)))))
set_option maxRecDepth 100000 in
set_option maxHeartbeats 4000000 in
theorem bModel_comes {G : GT} {E : ET} {o : Nat} {s mi : MI} {z1 : Int} {z2 : Int} {z3 : Int} {w : MI} (g : gL E o)  (h : fModel_comes z1 z2 z3 s = some w) : cN G yX10_comes cX10_comes 7 none 1 23 [.inr o, .inl z1, .inl z2, .inl z3] E (sm_gl o 10 s mi) (none, E, sm_gl o 10 w mi) := by
  have hN1 := g.1
  have hN2 := g.2.1
  unfold fModel_comes at h
  refine sm_meth (by decide +kernel) (Nat.le_of_ble_eq_true rfl) ?_
  show sM (xModel_comes G) 0 [some (.inr o), some (.inl z1), some (.inl z2), some (.inl z3), none, none, none] [] E (sm_gl o 10 s mi) _
  refine sm_aload_n dX10_comes_0 rfl ?_
  refine sm_getR lf_RX10_7 fR_7_0 g.2.2.1 (by omega) g.2.2.2.1.2 dX10_comes_1 ?_
  refine sm_bipush dX10_comes_4 rfl ?_
  refine sl_ialdk (D := 1) (k := 9) g.2.2.2.1.1 rfl (by omega) hN2 ⟨by decide, by decide⟩ dX10_comes_6 ?_
  refine sm_istore dX10_comes_7 (Nat.le_of_ble_eq_true rfl) ?_
  refine sm_bipush dX10_comes_9 rfl ?_
  refine sm_istore dX10_comes_11 (Nat.le_of_ble_eq_true rfl) ?_
  refine sm_iconst dX10_comes_13 ?_
  refine sm_istore dX10_comes_14 (Nat.le_of_ble_eq_true rfl) ?_
  obtain ⟨x12, hy11, h⟩ := sl_bind h
  refine sm_less (lv' := [some (.inr o), some (.inl z1), some (.inl z2), some (.inl z3), some (.inl (s 1 9)), some (.inl (-5)), some (.inl 0)]) ⟨rfl, rfl, rfl, rfl, rfl, rfl, rfl, trivial⟩ (sl_itE (P := qModel_comes_l16 G E o mi z1 z2 z3 (s 1 9) s _) (K := kModel_comes_l16 G E o mi z1 z2 z3 (s 1 9) s _) (fun t q hq hk => bModel_comes_l16 g  hq hk) sl_fu _ x12 hy11 ?_)
  show sM (xModel_comes G) 60 [some (.inr o), some (.inl z1), some (.inl z2), some (.inl z3), some (.inl (s 1 9)), some (.inl x12), none] [] E (sm_gl o 10 s mi) _
  refine sm_aload_n dX10_comes_60 rfl ?_
  refine sm_iload dX10_comes_61 rfl ?_
  refine sm_iconst dX10_comes_63 ?_
  refine sm_iload_n dX10_comes_64 rfl ?_
  obtain ⟨p13, hp14, h⟩ := sl_bind h
  have hc15 := bModel_laysCall (G := G) (E := E) (o := o) (s := s) (mi := mi) g  hp14
  refine sc_callV0 (avs := [.inl (s 1 9), .inl 0, .inl z1]) (st := []) lk_RX10_82 rfl vf_X10_laysCall hc15 ⟨(Nat.le_of_ble_eq_true rfl), (Nat.le_of_ble_eq_true rfl)⟩ ⟨rfl, (Nat.le_of_ble_eq_true rfl)⟩ g.2.2.1 (by omega) rfl dX10_comes_65 ?_
  refine sm_aload_n dX10_comes_68 rfl ?_
  refine sm_iload dX10_comes_69 rfl ?_
  refine sm_iconst dX10_comes_71 ?_
  refine sm_iload_n dX10_comes_72 rfl ?_
  obtain ⟨p16, hp17, h⟩ := sl_bind h
  have hc18 := bModel_laysCall (G := G) (E := E) (o := o) (s := p13) (mi := mi) g  hp17
  refine sc_callV0 (avs := [.inl (s 1 9), .inl 1, .inl z2]) (st := []) lk_RX10_82 rfl vf_X10_laysCall hc18 ⟨(Nat.le_of_ble_eq_true rfl), (Nat.le_of_ble_eq_true rfl)⟩ ⟨rfl, (Nat.le_of_ble_eq_true rfl)⟩ g.2.2.1 (by omega) rfl dX10_comes_73 ?_
  refine sm_aload_n dX10_comes_76 rfl ?_
  refine sm_iload dX10_comes_77 rfl ?_
  refine sm_iconst dX10_comes_79 ?_
  refine sm_iload_n dX10_comes_80 rfl ?_
  obtain ⟨p19, hp20, h⟩ := sl_bind h
  have hc21 := bModel_laysCall (G := G) (E := E) (o := o) (s := p16) (mi := mi) g  hp20
  refine sc_callV0 (avs := [.inl (s 1 9), .inl 2, .inl z3]) (st := []) lk_RX10_82 rfl vf_X10_laysCall hc21 ⟨(Nat.le_of_ble_eq_true rfl), (Nat.le_of_ble_eq_true rfl)⟩ ⟨rfl, (Nat.le_of_ble_eq_true rfl)⟩ g.2.2.1 (by omega) rfl dX10_comes_81 ?_
  refine sm_aload_n dX10_comes_84 rfl ?_
  refine sm_iload dX10_comes_85 rfl ?_
  refine sm_iconst dX10_comes_87 ?_
  refine sm_aload_n dX10_comes_88 rfl ?_
  refine sm_getR lf_RX10_7 fR_7_0 g.2.2.1 (by omega) g.2.2.2.1.2 dX10_comes_89 ?_
  refine sm_iconst dX10_comes_92 ?_
  refine sm_aload_n dX10_comes_93 rfl ?_
  refine sm_iload_n dX10_comes_94 rfl ?_
  refine sm_iconst dX10_comes_95 ?_
  obtain ⟨p22, hp23, h⟩ := sl_bind h
  have hc24 := bModel_ofMember (G := G) (E := E) (o := o) (s := p19) (mi := mi) g  hp23
  refine sc_callV1 (avs := [.inl z1, .inl 0]) (st := [.inl 2, .inr (o + 1), .inl 3, .inl (s 1 9), .inr o]) lk_RX10_85 rfl vf_X10_ofMember hc24 ⟨(Nat.le_of_ble_eq_true rfl), (Nat.le_of_ble_eq_true rfl)⟩ ⟨rfl, (Nat.le_of_ble_eq_true rfl)⟩ g.2.2.1 (by omega) rfl dX10_comes_96 ?_
  refine sm_iadd dX10_comes_99 ?_
  obtain ⟨q25, h⟩ := sl_guard h
  have xq25 := (sl_ix (m := 810) q25).2
  refine sl_ialdk (D := 1) (k := (sm_w (2 + p22)).toNat) g.2.2.2.1.1 rfl (by omega) hN2 (sl_ix (m := 810) q25) dX10_comes_100 ?_
  refine sm_bipush dX10_comes_101 rfl ?_
  refine sm_aload_n dX10_comes_103 rfl ?_
  refine sm_getR lf_RX10_7 fR_7_0 g.2.2.1 (by omega) g.2.2.2.1.2 dX10_comes_104 ?_
  refine sm_iconst dX10_comes_107 ?_
  refine sl_ialdk (D := 1) (k := 1) g.2.2.2.1.1 rfl (by omega) hN2 ⟨by decide, by decide⟩ dX10_comes_108 ?_
  refine sm_imul dX10_comes_109 ?_
  refine sm_iadd dX10_comes_110 ?_
  obtain ⟨p26, hp27, h⟩ := sl_bind h
  have hc28 := bModel_laysCall (G := G) (E := E) (o := o) (s := p19) (mi := mi) g  hp27
  refine sc_callV0 (avs := [.inl (s 1 9), .inl 3, .inl ((p19 1 (sm_w (2 + p22)).toNat) + (10 * (p19 1 1)))]) (st := []) lk_RX10_82 rfl vf_X10_laysCall hc28 ⟨(Nat.le_of_ble_eq_true rfl), (Nat.le_of_ble_eq_true rfl)⟩ ⟨rfl, (Nat.le_of_ble_eq_true rfl)⟩ g.2.2.1 (by omega) rfl dX10_comes_111 ?_
  refine sm_aload_n dX10_comes_114 rfl ?_
  refine sm_iload dX10_comes_115 rfl ?_
  refine sm_iconst dX10_comes_117 ?_
  refine sm_aload_n dX10_comes_118 rfl ?_
  refine sm_getR lf_RX10_7 fR_7_0 g.2.2.1 (by omega) g.2.2.2.1.2 dX10_comes_119 ?_
  refine sm_iconst dX10_comes_122 ?_
  refine sl_ialdk (D := 1) (k := 0) g.2.2.2.1.1 rfl (by omega) hN2 ⟨by decide, by decide⟩ dX10_comes_123 ?_
  obtain ⟨p29, hp30, h⟩ := sl_bind h
  have hc31 := bModel_laysCall (G := G) (E := E) (o := o) (s := p26) (mi := mi) g  hp30
  refine sc_callV0 (avs := [.inl (s 1 9), .inl 4, .inl (p26 1 0)]) (st := []) lk_RX10_82 rfl vf_X10_laysCall hc31 ⟨(Nat.le_of_ble_eq_true rfl), (Nat.le_of_ble_eq_true rfl)⟩ ⟨rfl, (Nat.le_of_ble_eq_true rfl)⟩ g.2.2.1 (by omega) rfl dX10_comes_124 ?_
  refine sm_aload_n dX10_comes_127 rfl ?_
  refine sm_iload dX10_comes_128 rfl ?_
  refine sm_iconst dX10_comes_130 ?_
  refine sm_iconst dX10_comes_131 ?_
  obtain ⟨p32, hp33, h⟩ := sl_bind h
  have hc34 := bModel_laysCall (G := G) (E := E) (o := o) (s := p29) (mi := mi) g  hp33
  refine sc_callV0 (avs := [.inl (s 1 9), .inl 5, .inl 0]) (st := []) lk_RX10_82 rfl vf_X10_laysCall hc34 ⟨(Nat.le_of_ble_eq_true rfl), (Nat.le_of_ble_eq_true rfl)⟩ ⟨rfl, (Nat.le_of_ble_eq_true rfl)⟩ g.2.2.1 (by omega) rfl dX10_comes_132 ?_
  refine sm_aload_n dX10_comes_135 rfl ?_
  refine sm_iload dX10_comes_136 rfl ?_
  refine sm_bipush dX10_comes_138 rfl ?_
  refine sm_bipush dX10_comes_140 rfl ?_
  obtain ⟨p35, hp36, h⟩ := sl_bind h
  have hc37 := bModel_laysCall (G := G) (E := E) (o := o) (s := p32) (mi := mi) g  hp36
  refine sc_callV0 (avs := [.inl (s 1 9), .inl 6, .inl (-5)]) (st := []) lk_RX10_82 rfl vf_X10_laysCall hc37 ⟨(Nat.le_of_ble_eq_true rfl), (Nat.le_of_ble_eq_true rfl)⟩ ⟨rfl, (Nat.le_of_ble_eq_true rfl)⟩ g.2.2.1 (by omega) rfl dX10_comes_142 ?_
  refine sm_aload_n dX10_comes_145 rfl ?_
  refine sm_iload dX10_comes_146 rfl ?_
  refine sm_bipush dX10_comes_148 rfl ?_
  refine sm_iconst dX10_comes_150 ?_
  obtain ⟨p38, hp39, h⟩ := sl_bind h
  have hc40 := bModel_laysCall (G := G) (E := E) (o := o) (s := p35) (mi := mi) g  hp39
  refine sc_callV0 (avs := [.inl (s 1 9), .inl 7, .inl 0]) (st := []) lk_RX10_82 rfl vf_X10_laysCall hc40 ⟨(Nat.le_of_ble_eq_true rfl), (Nat.le_of_ble_eq_true rfl)⟩ ⟨rfl, (Nat.le_of_ble_eq_true rfl)⟩ g.2.2.1 (by omega) rfl dX10_comes_151 ?_
  refine sm_aload_n dX10_comes_154 rfl ?_
  refine sm_iload dX10_comes_155 rfl ?_
  refine sm_bipush dX10_comes_157 rfl ?_
  refine sm_bipush dX10_comes_159 rfl ?_
  obtain ⟨p41, hp42, h⟩ := sl_bind h
  have hc43 := bModel_laysCall (G := G) (E := E) (o := o) (s := p38) (mi := mi) g  hp42
  refine sc_callV0 (avs := [.inl (s 1 9), .inl 8, .inl (-5)]) (st := []) lk_RX10_82 rfl vf_X10_laysCall hc43 ⟨(Nat.le_of_ble_eq_true rfl), (Nat.le_of_ble_eq_true rfl)⟩ ⟨rfl, (Nat.le_of_ble_eq_true rfl)⟩ g.2.2.1 (by omega) rfl dX10_comes_161 ?_
  refine sm_aload_n dX10_comes_164 rfl ?_
  refine sm_iload dX10_comes_165 rfl ?_
  refine sm_bipush dX10_comes_167 rfl ?_
  refine sm_bipush dX10_comes_169 rfl ?_
  obtain ⟨p44, hp45, h⟩ := sl_bind h
  have hc46 := bModel_laysCall (G := G) (E := E) (o := o) (s := p41) (mi := mi) g  hp45
  refine sc_callV0 (avs := [.inl (s 1 9), .inl 9, .inl (-5)]) (st := []) lk_RX10_82 rfl vf_X10_laysCall hc46 ⟨(Nat.le_of_ble_eq_true rfl), (Nat.le_of_ble_eq_true rfl)⟩ ⟨rfl, (Nat.le_of_ble_eq_true rfl)⟩ g.2.2.1 (by omega) rfl dX10_comes_171 ?_
  refine sm_aload_n dX10_comes_174 rfl ?_
  refine sm_iload dX10_comes_175 rfl ?_
  refine sm_bipush dX10_comes_177 rfl ?_
  refine sm_iconst dX10_comes_179 ?_
  obtain ⟨p47, hp48, h⟩ := sl_bind h
  have hc49 := bModel_laysCall (G := G) (E := E) (o := o) (s := p44) (mi := mi) g  hp48
  refine sc_callV0 (avs := [.inl (s 1 9), .inl 10, .inl 0]) (st := []) lk_RX10_82 rfl vf_X10_laysCall hc49 ⟨(Nat.le_of_ble_eq_true rfl), (Nat.le_of_ble_eq_true rfl)⟩ ⟨rfl, (Nat.le_of_ble_eq_true rfl)⟩ g.2.2.1 (by omega) rfl dX10_comes_180 ?_
  refine sm_aload_n dX10_comes_183 rfl ?_
  refine sm_iload dX10_comes_184 rfl ?_
  refine sm_bipush dX10_comes_186 rfl ?_
  refine sm_bipush dX10_comes_188 rfl ?_
  obtain ⟨p50, hp51, h⟩ := sl_bind h
  have hc52 := bModel_laysCall (G := G) (E := E) (o := o) (s := p47) (mi := mi) g  hp51
  refine sc_callV0 (avs := [.inl (s 1 9), .inl 11, .inl (-5)]) (st := []) lk_RX10_82 rfl vf_X10_laysCall hc52 ⟨(Nat.le_of_ble_eq_true rfl), (Nat.le_of_ble_eq_true rfl)⟩ ⟨rfl, (Nat.le_of_ble_eq_true rfl)⟩ g.2.2.1 (by omega) rfl dX10_comes_190 ?_
  refine sm_aload_n dX10_comes_193 rfl ?_
  refine sm_getR lf_RX10_7 fR_7_0 g.2.2.1 (by omega) g.2.2.2.1.2 dX10_comes_194 ?_
  refine sm_bipush dX10_comes_197 rfl ?_
  refine sm_dup2 dX10_comes_199 ?_
  refine sl_ialdk (D := 1) (k := 9) g.2.2.2.1.1 rfl (by omega) hN2 ⟨by decide, by decide⟩ dX10_comes_200 ?_
  refine sm_iconst dX10_comes_201 ?_
  refine sm_iadd dX10_comes_202 ?_
  refine sl_iastk (D := 1) (k := 9) g.2.2.2.1.1 rfl (by omega) ⟨hN1, hN2⟩ ⟨by decide, by decide⟩ dX10_comes_203 ?_
  obtain ⟨s53, hs54, h⟩ := sl_bind h
  rw [Option.some.inj hs54]
  refine sm_iload dX10_comes_204 rfl ?_
  refine sm_bipush dX10_comes_206 rfl ?_
  refine sc_icmp_eq (X' := sm_w x12) (Y' := (-5)) 286 dX10_comes_208 rfl rfl (by decide) (fun c76 => ?_) (fun c76 => ?_)
  · rw [if_pos c76] at h
    cases h
    exact sm_return rfl dX10_comes_286
  · rw [if_neg c76] at h
    refine sm_aload_n dX10_comes_211 rfl ?_
    refine sm_getR lf_RX10_7 fR_7_0 g.2.2.1 (by omega) g.2.2.2.1.2 dX10_comes_212 ?_
    refine sm_iconst dX10_comes_215 ?_
    refine sl_ialdk (D := 1) (k := 0) g.2.2.2.1.1 rfl (by omega) hN2 ⟨by decide, by decide⟩ dX10_comes_216 ?_
    refine sm_aload_n dX10_comes_217 rfl ?_
    refine sm_iload dX10_comes_218 rfl ?_
    refine sm_bipush dX10_comes_220 rfl ?_
    obtain ⟨p55, hp56, h⟩ := sl_bind h
    have hc57 := bModel_ofCall (G := G) (E := E) (o := o) (s := s53) (mi := mi) g  hp56
    refine sc_callV1 (avs := [.inl x12, .inl 9]) (st := [.inl (s53 1 0)]) lk_RX10_72 rfl vf_X10_ofCall hc57 ⟨(Nat.le_of_ble_eq_true rfl), (Nat.le_of_ble_eq_true rfl)⟩ ⟨rfl, (Nat.le_of_ble_eq_true rfl)⟩ g.2.2.1 (by omega) rfl dX10_comes_222 ?_
    refine sm_isub dX10_comes_225 ?_
    refine sm_bipush dX10_comes_226 rfl ?_
    refine sc_icmp_gt (X' := sm_w ((s53 1 0) - p55)) (Y' := 120) 286 dX10_comes_228 rfl rfl (by decide) (fun c75 => ?_) (fun c75 => ?_)
    · rw [if_pos c75] at h
      cases h
      exact sm_return rfl dX10_comes_286
    · rw [if_neg c75] at h
      refine sm_aload_n dX10_comes_231 rfl ?_
      refine sm_iload dX10_comes_232 rfl ?_
      refine sm_bipush dX10_comes_234 rfl ?_
      obtain ⟨p58, hp59, h⟩ := sl_bind h
      have hc60 := bModel_ofCall (G := G) (E := E) (o := o) (s := s53) (mi := mi) g  hp59
      refine sc_callV1 (avs := [.inl x12, .inl 8]) (st := []) lk_RX10_72 rfl vf_X10_ofCall hc60 ⟨(Nat.le_of_ble_eq_true rfl), (Nat.le_of_ble_eq_true rfl)⟩ ⟨rfl, (Nat.le_of_ble_eq_true rfl)⟩ g.2.2.1 (by omega) rfl dX10_comes_236 ?_
      refine sm_istore dX10_comes_239 (Nat.le_of_ble_eq_true rfl) ?_
      refine sm_aload_n dX10_comes_241 rfl ?_
      refine sm_iload dX10_comes_242 rfl ?_
      refine sm_bipush dX10_comes_244 rfl ?_
      refine sm_iconst dX10_comes_246 ?_
      obtain ⟨p61, hp62, h⟩ := sl_bind h
      have hc63 := bModel_laysCall (G := G) (E := E) (o := o) (s := s53) (mi := mi) g  hp62
      refine sc_callV0 (avs := [.inl (s 1 9), .inl 10, .inl 1]) (st := []) lk_RX10_82 rfl vf_X10_laysCall hc63 ⟨(Nat.le_of_ble_eq_true rfl), (Nat.le_of_ble_eq_true rfl)⟩ ⟨rfl, (Nat.le_of_ble_eq_true rfl)⟩ g.2.2.1 (by omega) rfl dX10_comes_247 ?_
      refine sm_aload_n dX10_comes_250 rfl ?_
      refine sm_iload dX10_comes_251 rfl ?_
      refine sm_bipush dX10_comes_253 rfl ?_
      refine sm_aload_n dX10_comes_255 rfl ?_
      refine sm_iload dX10_comes_256 rfl ?_
      refine sm_bipush dX10_comes_258 rfl ?_
      obtain ⟨p64, hp65, h⟩ := sl_bind h
      have hc66 := bModel_ofPatrol (G := G) (E := E) (o := o) (s := p61) (mi := mi) g  hp65
      refine sc_callV1 (avs := [.inl p58, .inl 9]) (st := [.inl 9, .inl p58, .inr o]) lk_RX10_88 rfl vf_X10_ofPatrol hc66 ⟨(Nat.le_of_ble_eq_true rfl), (Nat.le_of_ble_eq_true rfl)⟩ ⟨rfl, (Nat.le_of_ble_eq_true rfl)⟩ g.2.2.1 (by omega) rfl dX10_comes_260 ?_
      refine sm_iconst dX10_comes_263 ?_
      refine sm_iadd dX10_comes_264 ?_
      obtain ⟨p67, hp68, h⟩ := sl_bind h
      have hc69 := bModel_laysPatrol (G := G) (E := E) (o := o) (s := p61) (mi := mi) g  hp68
      refine sc_callV0 (avs := [.inl p58, .inl 9, .inl (p64 + 1)]) (st := []) lk_RX10_64 rfl vf_X10_laysPatrol hc69 ⟨(Nat.le_of_ble_eq_true rfl), (Nat.le_of_ble_eq_true rfl)⟩ ⟨rfl, (Nat.le_of_ble_eq_true rfl)⟩ g.2.2.1 (by omega) rfl dX10_comes_265 ?_
      refine sm_aload_n dX10_comes_268 rfl ?_
      refine sm_iload_n dX10_comes_269 rfl ?_
      refine sm_iconst dX10_comes_270 ?_
      refine sm_iconst dX10_comes_271 ?_
      obtain ⟨p70, hp71, h⟩ := sl_bind h
      have hc72 := bModel_addsMember (G := G) (E := E) (o := o) (s := p67) (mi := mi) g  hp71
      refine sc_callV0 (avs := [.inl z1, .inl 2, .inl 1]) (st := []) lk_RX10_91 rfl vf_X10_addsMember hc72 ⟨(Nat.le_of_ble_eq_true rfl), (Nat.le_of_ble_eq_true rfl)⟩ ⟨rfl, (Nat.le_of_ble_eq_true rfl)⟩ g.2.2.1 (by omega) rfl dX10_comes_272 ?_
      refine sm_aload_n dX10_comes_275 rfl ?_
      refine sm_getR lf_RX10_7 fR_7_0 g.2.2.1 (by omega) g.2.2.2.1.2 dX10_comes_276 ?_
      refine sm_bipush dX10_comes_279 rfl ?_
      refine sm_dup2 dX10_comes_281 ?_
      refine sl_ialdk (D := 1) (k := 12) g.2.2.2.1.1 rfl (by omega) hN2 ⟨by decide, by decide⟩ dX10_comes_282 ?_
      refine sm_iconst dX10_comes_283 ?_
      refine sm_iadd dX10_comes_284 ?_
      refine sl_iastk (D := 1) (k := 12) g.2.2.2.1.1 rfl (by omega) ⟨hN1, hN2⟩ ⟨by decide, by decide⟩ dX10_comes_285 ?_
      obtain ⟨s73, hs74, h⟩ := sl_bind h
      rw [Option.some.inj hs74]
      cases h
      exact sm_return rfl dX10_comes_286
abbrev xModel_call (G : GT) : XT := (G, yX10_call.cls, cX10_call, 5, (some .int), decide (yX10_call.name = "<init>"), 3, 67)
def fModel_call (z1 : Int) (z2 : Int) (z3 : Int) (s : MI) : Option (Int × MI) :=
  Option.bind (fModel_against z1 z2 z3 s) (fun p1 => (if sm_w p1 = 0 then Option.bind (fModel_records s) (fun p4 => Option.bind (fModel_comes z1 z2 z3 p4) (fun p7 => some (((p7 1 9) - 1), p7))) else some (p1, s)))
set_option maxRecDepth 100000 in
set_option maxHeartbeats 4000000 in
theorem bModel_call {G : GT} {E : ET} {o : Nat} {s mi : MI} {z1 : Int} {z2 : Int} {z3 : Int} {w : Int × MI} (g : gL E o)  (h : fModel_call z1 z2 z3 s = some w) : cN G yX10_call cX10_call 5 (some .int) 3 67 [.inr o, .inl z1, .inl z2, .inl z3] E (sm_gl o 10 s mi) (some (.inl w.1), E, sm_gl o 10 w.2 mi) := by
  have hN1 := g.1
  have hN2 := g.2.1
  unfold fModel_call at h
  refine sm_meth (by decide +kernel) (Nat.le_of_ble_eq_true rfl) ?_
  show sM (xModel_call G) 0 [some (.inr o), some (.inl z1), some (.inl z2), some (.inl z3), none] [] E (sm_gl o 10 s mi) _
  refine sm_aload_n dX10_call_0 rfl ?_
  refine sm_iload_n dX10_call_1 rfl ?_
  refine sm_iload_n dX10_call_2 rfl ?_
  refine sm_iload_n dX10_call_3 rfl ?_
  obtain ⟨p1, hp2, h⟩ := sl_bind h
  have hc3 := bModel_against (G := G) (E := E) (o := o) (s := s) (mi := mi) g  hp2
  refine sc_callV1 (avs := [.inl z1, .inl z2, .inl z3]) (st := []) lk_RX10_94 rfl vf_X10_against hc3 ⟨(Nat.le_of_ble_eq_true rfl), (Nat.le_of_ble_eq_true rfl)⟩ ⟨rfl, (Nat.le_of_ble_eq_true rfl)⟩ g.2.2.1 (by omega) rfl dX10_call_4 ?_
  refine sm_istore dX10_call_7 (Nat.le_of_ble_eq_true rfl) ?_
  refine sm_iload dX10_call_9 rfl ?_
  refine sm_if_eq 17 dX10_call_11 rfl (fun c10 => ?_) (fun c10 => ?_)
  · rw [if_pos c10] at h
    refine sm_aload_n dX10_call_17 rfl ?_
    obtain ⟨p4, hp5, h⟩ := sl_bind h
    have hc6 := bModel_records (G := G) (E := E) (o := o) (s := s) (mi := mi) g  hp5
    refine sc_callV0 (avs := []) (st := []) lk_RX10_61 rfl vf_X10_records hc6 ⟨(Nat.le_of_ble_eq_true rfl), (Nat.le_of_ble_eq_true rfl)⟩ ⟨rfl, (Nat.le_of_ble_eq_true rfl)⟩ g.2.2.1 (by omega) rfl dX10_call_18 ?_
    refine sm_aload_n dX10_call_21 rfl ?_
    refine sm_iload_n dX10_call_22 rfl ?_
    refine sm_iload_n dX10_call_23 rfl ?_
    refine sm_iload_n dX10_call_24 rfl ?_
    obtain ⟨p7, hp8, h⟩ := sl_bind h
    have hc9 := bModel_comes (G := G) (E := E) (o := o) (s := p4) (mi := mi) g  hp8
    refine sc_callV0 (avs := [.inl z1, .inl z2, .inl z3]) (st := []) lk_RX10_98 rfl vf_X10_comes hc9 ⟨(Nat.le_of_ble_eq_true rfl), (Nat.le_of_ble_eq_true rfl)⟩ ⟨rfl, (Nat.le_of_ble_eq_true rfl)⟩ g.2.2.1 (by omega) rfl dX10_call_25 ?_
    refine sm_aload_n dX10_call_28 rfl ?_
    refine sm_getR lf_RX10_7 fR_7_0 g.2.2.1 (by omega) g.2.2.2.1.2 dX10_call_29 ?_
    refine sm_bipush dX10_call_32 rfl ?_
    refine sl_ialdk (D := 1) (k := 9) g.2.2.2.1.1 rfl (by omega) hN2 ⟨by decide, by decide⟩ dX10_call_34 ?_
    refine sm_iconst dX10_call_35 ?_
    refine sm_isub dX10_call_36 ?_
    cases h
    exact sm_ireturn dX10_call_37 (Or.inl rfl)
  · rw [if_neg c10] at h
    refine sm_iload dX10_call_14 rfl ?_
    cases h
    exact sm_ireturn dX10_call_16 (Or.inl rfl)
abbrev xModel_waitedOf (G : GT) : XT := (G, yX10_waitedOf.cls, cX10_waitedOf, 3, (some .int), decide (yX10_waitedOf.name = "<init>"), 1, 22)
def fModel_waitedOf_j28 (z1 : Int) (y0 : Int) (s : MI) : Option (Int) :=
  (if sm_w y0 = 0 then Option.bind (fModel_ofCall z1 4 s) (fun p4 => some ((s 1 0) - p4)) else Option.bind (fModel_ofCall z1 7 s) (fun p7 => some p7))
set_option maxRecDepth 100000 in
set_option maxHeartbeats 4000000 in
theorem bModel_waitedOf_j28 {G : GT} {E : ET} {o : Nat} {s mi : MI} {z1 : Int} {y0 : Int} {w : Int} (g : gL E o)  (h : fModel_waitedOf_j28 z1 y0 s = some w) : sM (xModel_waitedOf G) 28 [some (.inr o), some (.inl z1), none] [.inl y0] E (sm_gl o 10 s mi) (some (.inl w), E, (sm_gl o 10 s mi)) := by
  have hN1 := g.1
  have hN2 := g.2.1
  unfold fModel_waitedOf_j28 at h
  refine sm_istore_n dX10_waitedOf_28 (Nat.le_of_ble_eq_true rfl) ?_
  refine sm_iload_n dX10_waitedOf_29 rfl ?_
  refine sm_if_eq 43 dX10_waitedOf_30 rfl (fun c10 => ?_) (fun c10 => ?_)
  · rw [if_pos c10] at h
    refine sm_aload_n dX10_waitedOf_43 rfl ?_
    refine sm_getR lf_RX10_7 fR_7_0 g.2.2.1 (by omega) g.2.2.2.1.2 dX10_waitedOf_44 ?_
    refine sm_iconst dX10_waitedOf_47 ?_
    refine sl_ialdk (D := 1) (k := 0) g.2.2.2.1.1 rfl (by omega) hN2 ⟨by decide, by decide⟩ dX10_waitedOf_48 ?_
    refine sm_aload_n dX10_waitedOf_49 rfl ?_
    refine sm_iload_n dX10_waitedOf_50 rfl ?_
    refine sm_iconst dX10_waitedOf_51 ?_
    obtain ⟨p4, hp5, h⟩ := sl_bind h
    have hc6 := bModel_ofCall (G := G) (E := E) (o := o) (s := s) (mi := mi) g  hp5
    refine sc_callV1 (avs := [.inl z1, .inl 4]) (st := [.inl (s 1 0)]) lk_RX10_72 rfl vf_X10_ofCall hc6 ⟨(Nat.le_of_ble_eq_true rfl), (Nat.le_of_ble_eq_true rfl)⟩ ⟨rfl, (Nat.le_of_ble_eq_true rfl)⟩ g.2.2.1 (by omega) rfl dX10_waitedOf_52 ?_
    refine sm_isub dX10_waitedOf_55 ?_
    cases h
    exact sm_ireturn dX10_waitedOf_56 (Or.inl rfl)
  · rw [if_neg c10] at h
    refine sm_aload_n dX10_waitedOf_33 rfl ?_
    refine sm_iload_n dX10_waitedOf_34 rfl ?_
    refine sm_bipush dX10_waitedOf_35 rfl ?_
    obtain ⟨p7, hp8, h⟩ := sl_bind h
    have hc9 := bModel_ofCall (G := G) (E := E) (o := o) (s := s) (mi := mi) g  hp8
    refine sc_callV1 (avs := [.inl z1, .inl 7]) (st := []) lk_RX10_72 rfl vf_X10_ofCall hc9 ⟨(Nat.le_of_ble_eq_true rfl), (Nat.le_of_ble_eq_true rfl)⟩ ⟨rfl, (Nat.le_of_ble_eq_true rfl)⟩ g.2.2.1 (by omega) rfl dX10_waitedOf_37 ?_
    refine sm_goto 56 dX10_waitedOf_40 rfl ?_
    cases h
    exact sm_ireturn dX10_waitedOf_56 (Or.inl rfl)
def fModel_waitedOf_j23 (z1 : Int) (s : MI) : Option (Int) :=
  fModel_waitedOf_j28 z1 1 s
set_option maxRecDepth 100000 in
set_option maxHeartbeats 4000000 in
theorem bModel_waitedOf_j23 {G : GT} {E : ET} {o : Nat} {s mi : MI} {z1 : Int} {w : Int} (g : gL E o)  (h : fModel_waitedOf_j23 z1 s = some w) : sM (xModel_waitedOf G) 23 [some (.inr o), some (.inl z1), none] [] E (sm_gl o 10 s mi) (some (.inl w), E, (sm_gl o 10 s mi)) := by
  have hN1 := g.1
  have hN2 := g.2.1
  unfold fModel_waitedOf_j23 at h
  refine sm_iconst dX10_waitedOf_23 ?_
  refine sm_goto 28 dX10_waitedOf_24 rfl ?_
  exact sm_less (lv' := [some (.inr o), some (.inl z1), none]) ⟨rfl, rfl, trivial⟩ (bModel_waitedOf_j28 g   h)
def fModel_waitedOf (z1 : Int) (s : MI) : Option (Int) :=
  Option.bind (fModel_ofCall z1 8 s) (fun p1 => (if sm_w p1 = (-5) then Option.bind (fModel_ofCall z1 5 s) (fun p11 => (if sm_w p11 = 7 then fModel_waitedOf_j23 z1 s else fModel_waitedOf_j28 z1 0 s)) else fModel_waitedOf_j23 z1 s))
set_option maxRecDepth 100000 in
set_option maxHeartbeats 4000000 in
theorem bModel_waitedOf {G : GT} {E : ET} {o : Nat} {s mi : MI} {z1 : Int} {w : Int} (g : gL E o)  (h : fModel_waitedOf z1 s = some w) : cN G yX10_waitedOf cX10_waitedOf 3 (some .int) 1 22 [.inr o, .inl z1] E (sm_gl o 10 s mi) (some (.inl w), E, (sm_gl o 10 s mi)) := by
  have hN1 := g.1
  have hN2 := g.2.1
  unfold fModel_waitedOf at h
  refine sm_meth (by decide +kernel) (Nat.le_of_ble_eq_true rfl) ?_
  show sM (xModel_waitedOf G) 0 [some (.inr o), some (.inl z1), none] [] E (sm_gl o 10 s mi) _
  refine sm_aload_n dX10_waitedOf_0 rfl ?_
  refine sm_iload_n dX10_waitedOf_1 rfl ?_
  refine sm_bipush dX10_waitedOf_2 rfl ?_
  obtain ⟨p1, hp2, h⟩ := sl_bind h
  have hc3 := bModel_ofCall (G := G) (E := E) (o := o) (s := s) (mi := mi) g  hp2
  refine sc_callV1 (avs := [.inl z1, .inl 8]) (st := []) lk_RX10_72 rfl vf_X10_ofCall hc3 ⟨(Nat.le_of_ble_eq_true rfl), (Nat.le_of_ble_eq_true rfl)⟩ ⟨rfl, (Nat.le_of_ble_eq_true rfl)⟩ g.2.2.1 (by omega) rfl dX10_waitedOf_4 ?_
  refine sm_bipush dX10_waitedOf_7 rfl ?_
  refine sc_icmp_ne (X' := sm_w p1) (Y' := (-5)) 23 dX10_waitedOf_9 rfl rfl (by decide) (fun c15 => ?_) (fun c15 => ?_)
  · rw [if_neg c15] at h
    exact sm_less (lv' := [some (.inr o), some (.inl z1), none]) ⟨rfl, rfl, trivial⟩ (bModel_waitedOf_j23 g   h)
  · rw [if_pos c15] at h
    refine sm_aload_n dX10_waitedOf_12 rfl ?_
    refine sm_iload_n dX10_waitedOf_13 rfl ?_
    refine sm_iconst dX10_waitedOf_14 ?_
    obtain ⟨p11, hp12, h⟩ := sl_bind h
    have hc13 := bModel_ofCall (G := G) (E := E) (o := o) (s := s) (mi := mi) g  hp12
    refine sc_callV1 (avs := [.inl z1, .inl 5]) (st := []) lk_RX10_72 rfl vf_X10_ofCall hc13 ⟨(Nat.le_of_ble_eq_true rfl), (Nat.le_of_ble_eq_true rfl)⟩ ⟨rfl, (Nat.le_of_ble_eq_true rfl)⟩ g.2.2.1 (by omega) rfl dX10_waitedOf_15 ?_
    refine sm_bipush dX10_waitedOf_18 rfl ?_
    refine sc_icmp_ne (X' := sm_w p11) (Y' := 7) 27 dX10_waitedOf_20 rfl rfl (by decide) (fun c14 => ?_) (fun c14 => ?_)
    · rw [if_neg c14] at h
      refine sm_iconst dX10_waitedOf_27 ?_
      exact sm_less (lv' := [some (.inr o), some (.inl z1), none]) ⟨rfl, rfl, trivial⟩ (bModel_waitedOf_j28 g   h)
    · rw [if_pos c14] at h
      exact sm_less (lv' := [some (.inr o), some (.inl z1), none]) ⟨rfl, rfl, trivial⟩ (bModel_waitedOf_j23 g   h)
abbrev xModel_cancel (G : GT) : XT := (G, yX10_cancel.cls, cX10_cancel, 3, (some .int), decide (yX10_cancel.name = "<init>"), 2, 45)
def fModel_cancel_j56 (z1 : Int) (z2 : Int) (s : MI) : Option (Int × MI) :=
  Option.bind (fModel_laysCall z1 6 (-5) s) (fun p16 => Option.bind (fModel_laysCall z1 5 7 p16) (fun p19 => Option.bind (fModel_laysCall z1 7 z2 p19) (fun p22 => Option.bind (fModel_laysCall z1 9 (p22 1 0) p22) (fun p25 => some (z2, p25)))))
set_option maxRecDepth 100000 in
set_option maxHeartbeats 4000000 in
theorem bModel_cancel_j56 {G : GT} {E : ET} {o : Nat} {s mi : MI} {z1 : Int} {z2 : Int} {w : Int × MI} (g : gL E o)  (h : fModel_cancel_j56 z1 z2 s = some w) : sM (xModel_cancel G) 56 [some (.inr o), some (.inl z1), some (.inl z2)] [] E (sm_gl o 10 s mi) (some (.inl w.1), E, sm_gl o 10 w.2 mi) := by
  have hN1 := g.1
  have hN2 := g.2.1
  unfold fModel_cancel_j56 at h
  refine sm_aload_n dX10_cancel_56 rfl ?_
  refine sm_iload_n dX10_cancel_57 rfl ?_
  refine sm_bipush dX10_cancel_58 rfl ?_
  refine sm_bipush dX10_cancel_60 rfl ?_
  obtain ⟨p16, hp17, h⟩ := sl_bind h
  have hc18 := bModel_laysCall (G := G) (E := E) (o := o) (s := s) (mi := mi) g  hp17
  refine sc_callV0 (avs := [.inl z1, .inl 6, .inl (-5)]) (st := []) lk_RX10_82 rfl vf_X10_laysCall hc18 ⟨(Nat.le_of_ble_eq_true rfl), (Nat.le_of_ble_eq_true rfl)⟩ ⟨rfl, (Nat.le_of_ble_eq_true rfl)⟩ g.2.2.1 (by omega) rfl dX10_cancel_62 ?_
  refine sm_aload_n dX10_cancel_65 rfl ?_
  refine sm_iload_n dX10_cancel_66 rfl ?_
  refine sm_iconst dX10_cancel_67 ?_
  refine sm_bipush dX10_cancel_68 rfl ?_
  obtain ⟨p19, hp20, h⟩ := sl_bind h
  have hc21 := bModel_laysCall (G := G) (E := E) (o := o) (s := p16) (mi := mi) g  hp20
  refine sc_callV0 (avs := [.inl z1, .inl 5, .inl 7]) (st := []) lk_RX10_82 rfl vf_X10_laysCall hc21 ⟨(Nat.le_of_ble_eq_true rfl), (Nat.le_of_ble_eq_true rfl)⟩ ⟨rfl, (Nat.le_of_ble_eq_true rfl)⟩ g.2.2.1 (by omega) rfl dX10_cancel_70 ?_
  refine sm_aload_n dX10_cancel_73 rfl ?_
  refine sm_iload_n dX10_cancel_74 rfl ?_
  refine sm_bipush dX10_cancel_75 rfl ?_
  refine sm_iload_n dX10_cancel_77 rfl ?_
  obtain ⟨p22, hp23, h⟩ := sl_bind h
  have hc24 := bModel_laysCall (G := G) (E := E) (o := o) (s := p19) (mi := mi) g  hp23
  refine sc_callV0 (avs := [.inl z1, .inl 7, .inl z2]) (st := []) lk_RX10_82 rfl vf_X10_laysCall hc24 ⟨(Nat.le_of_ble_eq_true rfl), (Nat.le_of_ble_eq_true rfl)⟩ ⟨rfl, (Nat.le_of_ble_eq_true rfl)⟩ g.2.2.1 (by omega) rfl dX10_cancel_78 ?_
  refine sm_aload_n dX10_cancel_81 rfl ?_
  refine sm_iload_n dX10_cancel_82 rfl ?_
  refine sm_bipush dX10_cancel_83 rfl ?_
  refine sm_aload_n dX10_cancel_85 rfl ?_
  refine sm_getR lf_RX10_7 fR_7_0 g.2.2.1 (by omega) g.2.2.2.1.2 dX10_cancel_86 ?_
  refine sm_iconst dX10_cancel_89 ?_
  refine sl_ialdk (D := 1) (k := 0) g.2.2.2.1.1 rfl (by omega) hN2 ⟨by decide, by decide⟩ dX10_cancel_90 ?_
  obtain ⟨p25, hp26, h⟩ := sl_bind h
  have hc27 := bModel_laysCall (G := G) (E := E) (o := o) (s := p22) (mi := mi) g  hp26
  refine sc_callV0 (avs := [.inl z1, .inl 9, .inl (p22 1 0)]) (st := []) lk_RX10_82 rfl vf_X10_laysCall hc27 ⟨(Nat.le_of_ble_eq_true rfl), (Nat.le_of_ble_eq_true rfl)⟩ ⟨rfl, (Nat.le_of_ble_eq_true rfl)⟩ g.2.2.1 (by omega) rfl dX10_cancel_91 ?_
  refine sm_iload_n dX10_cancel_94 rfl ?_
  cases h
  exact sm_ireturn dX10_cancel_95 (Or.inl rfl)
def fModel_cancel (z1 : Int) (s : MI) : Option (Int × MI) :=
  Option.bind (fModel_isCall z1 s) (fun p1 => (if sm_w p1 = 0 then some ((-1), s) else Option.bind (fModel_ofCall z1 5 s) (fun p4 => (if sm_w p4 ≤ 1 then Option.bind (fModel_records s) (fun p7 => Option.bind (fModel_waitedOf z1 p7) (fun p10 => Option.bind (fModel_ofCall z1 6 p7) (fun p13 => (if sm_w p13 = (-5) then fModel_cancel_j56 z1 p10 p7 else Option.bind (fModel_ofCall z1 6 p7) (fun p28 => Option.bind (fModel_frees p28 p7) (fun p31 => fModel_cancel_j56 z1 p10 p31)))))) else some ((-4), s)))))
set_option maxRecDepth 100000 in
set_option maxHeartbeats 4000000 in
theorem bModel_cancel {G : GT} {E : ET} {o : Nat} {s mi : MI} {z1 : Int} {w : Int × MI} (g : gL E o)  (h : fModel_cancel z1 s = some w) : cN G yX10_cancel cX10_cancel 3 (some .int) 2 45 [.inr o, .inl z1] E (sm_gl o 10 s mi) (some (.inl w.1), E, sm_gl o 10 w.2 mi) := by
  have hN1 := g.1
  have hN2 := g.2.1
  unfold fModel_cancel at h
  refine sm_meth (by decide +kernel) (Nat.le_of_ble_eq_true rfl) ?_
  show sM (xModel_cancel G) 0 [some (.inr o), some (.inl z1), none] [] E (sm_gl o 10 s mi) _
  refine sm_aload_n dX10_cancel_0 rfl ?_
  refine sm_iload_n dX10_cancel_1 rfl ?_
  obtain ⟨p1, hp2, h⟩ := sl_bind h
  have hc3 := bModel_isCall (G := G) (E := E) (o := o) (s := s) (mi := mi) g  hp2
  refine sc_callV1 (avs := [.inl z1]) (st := []) lk_RX10_101 rfl vf_X10_isCall hc3 ⟨(Nat.le_of_ble_eq_true rfl), (Nat.le_of_ble_eq_true rfl)⟩ ⟨rfl, (Nat.le_of_ble_eq_true rfl)⟩ g.2.2.1 (by omega) rfl dX10_cancel_2 ?_
  refine sm_if_ne 10 dX10_cancel_5 rfl (fun c36 => ?_) (fun c36 => ?_)
  · rw [if_neg c36] at h
    refine sm_aload_n dX10_cancel_10 rfl ?_
    refine sm_iload_n dX10_cancel_11 rfl ?_
    refine sm_iconst dX10_cancel_12 ?_
    obtain ⟨p4, hp5, h⟩ := sl_bind h
    have hc6 := bModel_ofCall (G := G) (E := E) (o := o) (s := s) (mi := mi) g  hp5
    refine sc_callV1 (avs := [.inl z1, .inl 5]) (st := []) lk_RX10_72 rfl vf_X10_ofCall hc6 ⟨(Nat.le_of_ble_eq_true rfl), (Nat.le_of_ble_eq_true rfl)⟩ ⟨rfl, (Nat.le_of_ble_eq_true rfl)⟩ g.2.2.1 (by omega) rfl dX10_cancel_13 ?_
    refine sm_iconst dX10_cancel_16 ?_
    refine sc_icmp_le (X' := sm_w p4) (Y' := 1) 23 dX10_cancel_17 rfl rfl (by decide) (fun c35 => ?_) (fun c35 => ?_)
    · rw [if_pos c35] at h
      refine sm_aload_n dX10_cancel_23 rfl ?_
      obtain ⟨p7, hp8, h⟩ := sl_bind h
      have hc9 := bModel_records (G := G) (E := E) (o := o) (s := s) (mi := mi) g  hp8
      refine sc_callV0 (avs := []) (st := []) lk_RX10_61 rfl vf_X10_records hc9 ⟨(Nat.le_of_ble_eq_true rfl), (Nat.le_of_ble_eq_true rfl)⟩ ⟨rfl, (Nat.le_of_ble_eq_true rfl)⟩ g.2.2.1 (by omega) rfl dX10_cancel_24 ?_
      refine sm_aload_n dX10_cancel_27 rfl ?_
      refine sm_iload_n dX10_cancel_28 rfl ?_
      obtain ⟨p10, hp11, h⟩ := sl_bind h
      have hc12 := bModel_waitedOf (G := G) (E := E) (o := o) (s := p7) (mi := mi) g  hp11
      refine sc_callV1 (avs := [.inl z1]) (st := []) lk_RX10_104 rfl vf_X10_waitedOf hc12 ⟨(Nat.le_of_ble_eq_true rfl), (Nat.le_of_ble_eq_true rfl)⟩ ⟨rfl, (Nat.le_of_ble_eq_true rfl)⟩ g.2.2.1 (by omega) rfl dX10_cancel_29 ?_
      refine sm_istore_n dX10_cancel_32 (Nat.le_of_ble_eq_true rfl) ?_
      refine sm_aload_n dX10_cancel_33 rfl ?_
      refine sm_iload_n dX10_cancel_34 rfl ?_
      refine sm_bipush dX10_cancel_35 rfl ?_
      obtain ⟨p13, hp14, h⟩ := sl_bind h
      have hc15 := bModel_ofCall (G := G) (E := E) (o := o) (s := p7) (mi := mi) g  hp14
      refine sc_callV1 (avs := [.inl z1, .inl 6]) (st := []) lk_RX10_72 rfl vf_X10_ofCall hc15 ⟨(Nat.le_of_ble_eq_true rfl), (Nat.le_of_ble_eq_true rfl)⟩ ⟨rfl, (Nat.le_of_ble_eq_true rfl)⟩ g.2.2.1 (by omega) rfl dX10_cancel_37 ?_
      refine sm_bipush dX10_cancel_40 rfl ?_
      refine sc_icmp_eq (X' := sm_w p13) (Y' := (-5)) 56 dX10_cancel_42 rfl rfl (by decide) (fun c34 => ?_) (fun c34 => ?_)
      · rw [if_pos c34] at h
        exact sm_less (lv' := [some (.inr o), some (.inl z1), some (.inl p10)]) ⟨rfl, rfl, rfl, trivial⟩ (bModel_cancel_j56 g   h)
      · rw [if_neg c34] at h
        refine sm_aload_n dX10_cancel_45 rfl ?_
        refine sm_aload_n dX10_cancel_46 rfl ?_
        refine sm_iload_n dX10_cancel_47 rfl ?_
        refine sm_bipush dX10_cancel_48 rfl ?_
        obtain ⟨p28, hp29, h⟩ := sl_bind h
        have hc30 := bModel_ofCall (G := G) (E := E) (o := o) (s := p7) (mi := mi) g  hp29
        refine sc_callV1 (avs := [.inl z1, .inl 6]) (st := [.inr o]) lk_RX10_72 rfl vf_X10_ofCall hc30 ⟨(Nat.le_of_ble_eq_true rfl), (Nat.le_of_ble_eq_true rfl)⟩ ⟨rfl, (Nat.le_of_ble_eq_true rfl)⟩ g.2.2.1 (by omega) rfl dX10_cancel_50 ?_
        obtain ⟨p31, hp32, h⟩ := sl_bind h
        have hc33 := bModel_frees (G := G) (E := E) (o := o) (s := p7) (mi := mi) g  hp32
        refine sc_callV0 (avs := [.inl p28]) (st := []) lk_RX10_68 rfl vf_X10_frees hc33 ⟨(Nat.le_of_ble_eq_true rfl), (Nat.le_of_ble_eq_true rfl)⟩ ⟨rfl, (Nat.le_of_ble_eq_true rfl)⟩ g.2.2.1 (by omega) rfl dX10_cancel_53 ?_
        exact sm_less (lv' := [some (.inr o), some (.inl z1), some (.inl p10)]) ⟨rfl, rfl, rfl, trivial⟩ (bModel_cancel_j56 g   h)
    · rw [if_neg c35] at h
      refine sm_bipush dX10_cancel_20 rfl ?_
      cases h
      exact sm_ireturn dX10_cancel_22 (Or.inl rfl)
  · rw [if_pos c36] at h
    refine sm_iconst dX10_cancel_8 ?_
    cases h
    exact sm_ireturn dX10_cancel_9 (Or.inl rfl)
abbrev xModel_onDuty (G : GT) : XT := (G, yX10_onDuty.cls, cX10_onDuty, 3, (some .int), decide (yX10_onDuty.name = "<init>"), 1, 22)
abbrev qModel_onDuty_l4 (G : GT) (E : ET) (o : Nat) (mi : MI)  (s : MI) (r : RT) (t : Int × Int) : Prop := sM (xModel_onDuty G) 4 [some (.inr o), some (.inl t.1), some (.inl t.2)] [] E (sm_gl o 10 s mi) r
abbrev kModel_onDuty_l4 (G : GT) (E : ET) (o : Nat) (mi : MI)  (s : MI) (r : RT) (x : Int) : Prop := sM (xModel_onDuty G) 39 [none, some (.inl x), none] [] E (sm_gl o 10 s mi) r
def fModel_onDuty_j31_l4 (z2 : Int) (y0 : Int) (y1 : Int) (s : MI) : Option ((Int × Int) ⊕ (Int)) :=
  some (.inl ((y0 + y1), (z2 + 1)))
set_option maxRecDepth 100000 in
set_option maxHeartbeats 4000000 in
theorem bModel_onDuty_j31_l4 {G : GT} {E : ET} {o : Nat} {s mi : MI} {z2 : Int} {y0 : Int} {y1 : Int} {r : RT} {w : (Int × Int) ⊕ (Int)} (g : gL E o)  (h : fModel_onDuty_j31_l4 z2 y0 y1 s = some w) (hK : Sum.elim (qModel_onDuty_l4 G E o mi s r) (kModel_onDuty_l4 G E o mi s r) w) : sM (xModel_onDuty G) 31 [some (.inr o), none, some (.inl z2)] [.inl y1, .inl y0] E (sm_gl o 10 s mi) r := by
  have hN1 := g.1
  have hN2 := g.2.1
  unfold fModel_onDuty_j31_l4 at h
  refine sm_iadd dX10_onDuty_31 ?_
  refine sm_istore_n dX10_onDuty_32 (Nat.le_of_ble_eq_true rfl) ?_
  refine sm_iinc dX10_onDuty_33 (Nat.le_of_ble_eq_true rfl) rfl ?_
  refine sm_goto 4 dX10_onDuty_36 rfl ?_
  cases h
  exact sm_less (lv' := [some (.inr o), some (.inl (y0 + y1)), some (.inl (z2 + 1))]) ⟨rfl, rfl, rfl, trivial⟩ hK
def fModel_onDuty_l4 (z1 : Int) (z2 : Int) (s : MI) : Option ((Int × Int) ⊕ (Int)) :=
  (if sm_w (s 1 7) ≤ sm_w z2 then some (.inr z1) else Option.bind (fModel_ofPatrol z2 3 s) (fun p1 => (if sm_w p1 = 4 then fModel_onDuty_j31_l4 z2 z1 0 s else fModel_onDuty_j31_l4 z2 z1 1 s)))
set_option maxRecDepth 100000 in
set_option maxHeartbeats 4000000 in
theorem bModel_onDuty_l4 {G : GT} {E : ET} {o : Nat} {s mi : MI} {z1 : Int} {z2 : Int} {r : RT} {w : (Int × Int) ⊕ (Int)} (g : gL E o)  (h : fModel_onDuty_l4 z1 z2 s = some w) (hK : Sum.elim (qModel_onDuty_l4 G E o mi s r) (kModel_onDuty_l4 G E o mi s r) w) : qModel_onDuty_l4 G E o mi s r (z1, z2) := by
  have hN1 := g.1
  have hN2 := g.2.1
  unfold fModel_onDuty_l4 at h
  show sM (xModel_onDuty G) 4 [some (.inr o), some (.inl z1), some (.inl z2)] [] E (sm_gl o 10 s mi) r
  refine sm_iload_n dX10_onDuty_4 rfl ?_
  refine sm_aload_n dX10_onDuty_5 rfl ?_
  refine sm_getR lf_RX10_7 fR_7_0 g.2.2.1 (by omega) g.2.2.2.1.2 dX10_onDuty_6 ?_
  refine sm_bipush dX10_onDuty_9 rfl ?_
  refine sl_ialdk (D := 1) (k := 7) g.2.2.2.1.1 rfl (by omega) hN2 ⟨by decide, by decide⟩ dX10_onDuty_11 ?_
  refine sc_icmp_ge (X' := sm_w z2) (Y' := sm_w (s 1 7)) 39 dX10_onDuty_12 rfl rfl rfl (fun c5 => ?_) (fun c5 => ?_)
  · rw [if_pos c5] at h
    cases h
    exact sm_less (lv' := [none, some (.inl z1), none]) ⟨rfl, trivial⟩ hK
  · rw [if_neg c5] at h
    refine sm_iload_n dX10_onDuty_15 rfl ?_
    refine sm_aload_n dX10_onDuty_16 rfl ?_
    refine sm_iload_n dX10_onDuty_17 rfl ?_
    refine sm_iconst dX10_onDuty_18 ?_
    obtain ⟨p1, hp2, h⟩ := sl_bind h
    have hc3 := bModel_ofPatrol (G := G) (E := E) (o := o) (s := s) (mi := mi) g  hp2
    refine sc_callV1 (avs := [.inl z2, .inl 3]) (st := [.inl z1]) lk_RX10_88 rfl vf_X10_ofPatrol hc3 ⟨(Nat.le_of_ble_eq_true rfl), (Nat.le_of_ble_eq_true rfl)⟩ ⟨rfl, (Nat.le_of_ble_eq_true rfl)⟩ g.2.2.1 (by omega) rfl dX10_onDuty_19 ?_
    refine sm_iconst dX10_onDuty_22 ?_
    refine sc_icmp_eq (X' := sm_w p1) (Y' := 4) 30 dX10_onDuty_23 rfl rfl (by decide) (fun c4 => ?_) (fun c4 => ?_)
    · rw [if_pos c4] at h
      refine sm_iconst dX10_onDuty_30 ?_
      exact sm_less (lv' := [some (.inr o), none, some (.inl z2)]) ⟨rfl, rfl, trivial⟩ (bModel_onDuty_j31_l4 g   h hK)
    · rw [if_neg c4] at h
      refine sm_iconst dX10_onDuty_26 ?_
      refine sm_goto 31 dX10_onDuty_27 rfl ?_
      exact sm_less (lv' := [some (.inr o), none, some (.inl z2)]) ⟨rfl, rfl, trivial⟩ (bModel_onDuty_j31_l4 g   h hK)
def fModel_onDuty  (s : MI) : Option (Int) :=
  Option.bind (sl_it (fun (t : Int × Int) => fModel_onDuty_l4 t.1 t.2 s) sl_fu (0, 0)) (fun x8 => some x8)
set_option maxRecDepth 100000 in
set_option maxHeartbeats 4000000 in
theorem bModel_onDuty {G : GT} {E : ET} {o : Nat} {s mi : MI}  {w : Int} (g : gL E o)  (h : fModel_onDuty s = some w) : cN G yX10_onDuty cX10_onDuty 3 (some .int) 1 22 [.inr o] E (sm_gl o 10 s mi) (some (.inl w), E, (sm_gl o 10 s mi)) := by
  have hN1 := g.1
  have hN2 := g.2.1
  unfold fModel_onDuty at h
  refine sm_meth (by decide +kernel) (Nat.le_of_ble_eq_true rfl) ?_
  show sM (xModel_onDuty G) 0 [some (.inr o), none, none] [] E (sm_gl o 10 s mi) _
  refine sm_iconst dX10_onDuty_0 ?_
  refine sm_istore_n dX10_onDuty_1 (Nat.le_of_ble_eq_true rfl) ?_
  refine sm_iconst dX10_onDuty_2 ?_
  refine sm_istore_n dX10_onDuty_3 (Nat.le_of_ble_eq_true rfl) ?_
  obtain ⟨x8, hy7, h⟩ := sl_bind h
  refine sm_less (lv' := [some (.inr o), some (.inl 0), some (.inl 0)]) ⟨rfl, rfl, rfl, trivial⟩ (sl_itE (P := qModel_onDuty_l4 G E o mi s _) (K := kModel_onDuty_l4 G E o mi s _) (fun t q hq hk => bModel_onDuty_l4 g  hq hk) sl_fu _ x8 hy7 ?_)
  show sM (xModel_onDuty G) 39 [none, some (.inl x8), none] [] E (sm_gl o 10 s mi) _
  refine sm_iload_n dX10_onDuty_39 rfl ?_
  cases h
  exact sm_ireturn dX10_onDuty_40 (Or.inl rfl)
abbrev xModel_duty (G : GT) : XT := (G, yX10_duty.cls, cX10_duty, 4, (some .int), decide (yX10_duty.name = "<init>"), 2, 45)
def fModel_duty_j66 (y1 : Int) (y2 : Int) (y3 : Int) (s : MI) : Option (Int × MI) :=
  Option.bind (fModel_laysPatrol y1 y2 y3 s) (fun p10 => Option.bind (fModel_onDuty p10) (fun p13 => some (p13, p10)))
set_option maxRecDepth 100000 in
set_option maxHeartbeats 4000000 in
theorem bModel_duty_j66 {G : GT} {E : ET} {o : Nat} {s mi : MI} {y1 : Int} {y2 : Int} {y3 : Int} {w : Int × MI} (g : gL E o)  (h : fModel_duty_j66 y1 y2 y3 s = some w) : sM (xModel_duty G) 66 [some (.inr o), none, none, none] [.inl y3, .inl y2, .inl y1, .inr o] E (sm_gl o 10 s mi) (some (.inl w.1), E, sm_gl o 10 w.2 mi) := by
  have hN1 := g.1
  have hN2 := g.2.1
  unfold fModel_duty_j66 at h
  obtain ⟨p10, hp11, h⟩ := sl_bind h
  have hc12 := bModel_laysPatrol (G := G) (E := E) (o := o) (s := s) (mi := mi) g  hp11
  refine sc_callV0 (avs := [.inl y1, .inl y2, .inl y3]) (st := []) lk_RX10_64 rfl vf_X10_laysPatrol hc12 ⟨(Nat.le_of_ble_eq_true rfl), (Nat.le_of_ble_eq_true rfl)⟩ ⟨rfl, (Nat.le_of_ble_eq_true rfl)⟩ g.2.2.1 (by omega) rfl dX10_duty_66 ?_
  refine sm_aload_n dX10_duty_69 rfl ?_
  obtain ⟨p13, hp14, h⟩ := sl_bind h
  have hc15 := bModel_onDuty (G := G) (E := E) (o := o) (s := p10) (mi := mi) g  hp14
  refine sc_callV1 (avs := []) (st := []) lk_RX10_110 rfl vf_X10_onDuty hc15 ⟨(Nat.le_of_ble_eq_true rfl), (Nat.le_of_ble_eq_true rfl)⟩ ⟨rfl, (Nat.le_of_ble_eq_true rfl)⟩ g.2.2.1 (by omega) rfl dX10_duty_70 ?_
  cases h
  exact sm_ireturn dX10_duty_73 (Or.inl rfl)
def fModel_duty_j44 (z1 : Int) (z2 : Int) (y0 : Int) (y1 : Int) (s : MI) : Option (Int × MI) :=
  (if sm_w y0 = sm_w y1 then some ((-5), s) else Option.bind (fModel_records s) (fun p7 => (if sm_w z2 = 0 then fModel_duty_j66 z1 3 4 p7 else fModel_duty_j66 z1 3 0 p7)))
set_option maxRecDepth 100000 in
set_option maxHeartbeats 4000000 in
theorem bModel_duty_j44 {G : GT} {E : ET} {o : Nat} {s mi : MI} {z1 : Int} {z2 : Int} {y0 : Int} {y1 : Int} {w : Int × MI} (g : gL E o)  (h : fModel_duty_j44 z1 z2 y0 y1 s = some w) : sM (xModel_duty G) 44 [some (.inr o), some (.inl z1), some (.inl z2), none] [.inl y1, .inl y0] E (sm_gl o 10 s mi) (some (.inl w.1), E, sm_gl o 10 w.2 mi) := by
  have hN1 := g.1
  have hN2 := g.2.1
  unfold fModel_duty_j44 at h
  refine sc_icmp_ne (X' := sm_w y0) (Y' := sm_w y1) 50 dX10_duty_44 rfl rfl rfl (fun c17 => ?_) (fun c17 => ?_)
  · rw [if_neg c17] at h
    refine sm_aload_n dX10_duty_50 rfl ?_
    obtain ⟨p7, hp8, h⟩ := sl_bind h
    have hc9 := bModel_records (G := G) (E := E) (o := o) (s := s) (mi := mi) g  hp8
    refine sc_callV0 (avs := []) (st := []) lk_RX10_61 rfl vf_X10_records hc9 ⟨(Nat.le_of_ble_eq_true rfl), (Nat.le_of_ble_eq_true rfl)⟩ ⟨rfl, (Nat.le_of_ble_eq_true rfl)⟩ g.2.2.1 (by omega) rfl dX10_duty_51 ?_
    refine sm_aload_n dX10_duty_54 rfl ?_
    refine sm_iload_n dX10_duty_55 rfl ?_
    refine sm_iconst dX10_duty_56 ?_
    refine sm_iload_n dX10_duty_57 rfl ?_
    refine sm_if_eq 65 dX10_duty_58 rfl (fun c16 => ?_) (fun c16 => ?_)
    · rw [if_pos c16] at h
      refine sm_iconst dX10_duty_65 ?_
      exact sm_less (lv' := [some (.inr o), none, none, none]) ⟨rfl, trivial⟩ (bModel_duty_j66 g   h)
    · rw [if_neg c16] at h
      refine sm_iconst dX10_duty_61 ?_
      refine sm_goto 66 dX10_duty_62 rfl ?_
      exact sm_less (lv' := [some (.inr o), none, none, none]) ⟨rfl, trivial⟩ (bModel_duty_j66 g   h)
  · rw [if_pos c17] at h
    refine sm_bipush dX10_duty_47 rfl ?_
    cases h
    exact sm_ireturn dX10_duty_49 (Or.inl rfl)
def fModel_duty_j33 (z1 : Int) (z2 : Int) (z3 : Int) (s : MI) : Option (Int × MI) :=
  (if sm_w z3 = 4 then fModel_duty_j44 z1 z2 z2 0 s else fModel_duty_j44 z1 z2 z2 1 s)
set_option maxRecDepth 100000 in
set_option maxHeartbeats 4000000 in
theorem bModel_duty_j33 {G : GT} {E : ET} {o : Nat} {s mi : MI} {z1 : Int} {z2 : Int} {z3 : Int} {w : Int × MI} (g : gL E o)  (h : fModel_duty_j33 z1 z2 z3 s = some w) : sM (xModel_duty G) 33 [some (.inr o), some (.inl z1), some (.inl z2), some (.inl z3)] [] E (sm_gl o 10 s mi) (some (.inl w.1), E, sm_gl o 10 w.2 mi) := by
  have hN1 := g.1
  have hN2 := g.2.1
  unfold fModel_duty_j33 at h
  refine sm_iload_n dX10_duty_33 rfl ?_
  refine sm_iload_n dX10_duty_34 rfl ?_
  refine sm_iconst dX10_duty_35 ?_
  refine sc_icmp_eq (X' := sm_w z3) (Y' := 4) 43 dX10_duty_36 rfl rfl (by decide) (fun c18 => ?_) (fun c18 => ?_)
  · rw [if_pos c18] at h
    refine sm_iconst dX10_duty_43 ?_
    exact sm_less (lv' := [some (.inr o), some (.inl z1), some (.inl z2), none]) ⟨rfl, rfl, rfl, trivial⟩ (bModel_duty_j44 g   h)
  · rw [if_neg c18] at h
    refine sm_iconst dX10_duty_39 ?_
    refine sm_goto 44 dX10_duty_40 rfl ?_
    exact sm_less (lv' := [some (.inr o), some (.inl z1), some (.inl z2), none]) ⟨rfl, rfl, rfl, trivial⟩ (bModel_duty_j44 g   h)
def fModel_duty (z1 : Int) (z2 : Int) (s : MI) : Option (Int × MI) :=
  Option.bind (fModel_isPatrol z1 s) (fun p1 => (if sm_w p1 = 0 then some ((-1), s) else Option.bind (fModel_ofPatrol z1 3 s) (fun p4 => (if sm_w z2 = 0 then (if sm_w p4 = 0 then fModel_duty_j33 z1 z2 p4 s else (if sm_w p4 = 4 then fModel_duty_j33 z1 z2 p4 s else some ((-4), s))) else fModel_duty_j33 z1 z2 p4 s))))
set_option maxRecDepth 100000 in
set_option maxHeartbeats 4000000 in
theorem bModel_duty {G : GT} {E : ET} {o : Nat} {s mi : MI} {z1 : Int} {z2 : Int} {w : Int × MI} (g : gL E o)  (h : fModel_duty z1 z2 s = some w) : cN G yX10_duty cX10_duty 4 (some .int) 2 45 [.inr o, .inl z1, .inl z2] E (sm_gl o 10 s mi) (some (.inl w.1), E, sm_gl o 10 w.2 mi) := by
  have hN1 := g.1
  have hN2 := g.2.1
  unfold fModel_duty at h
  refine sm_meth (by decide +kernel) (Nat.le_of_ble_eq_true rfl) ?_
  show sM (xModel_duty G) 0 [some (.inr o), some (.inl z1), some (.inl z2), none] [] E (sm_gl o 10 s mi) _
  refine sm_aload_n dX10_duty_0 rfl ?_
  refine sm_iload_n dX10_duty_1 rfl ?_
  obtain ⟨p1, hp2, h⟩ := sl_bind h
  have hc3 := bModel_isPatrol (G := G) (E := E) (o := o) (s := s) (mi := mi) g  hp2
  refine sc_callV1 (avs := [.inl z1]) (st := []) lk_RX10_107 rfl vf_X10_isPatrol hc3 ⟨(Nat.le_of_ble_eq_true rfl), (Nat.le_of_ble_eq_true rfl)⟩ ⟨rfl, (Nat.le_of_ble_eq_true rfl)⟩ g.2.2.1 (by omega) rfl dX10_duty_2 ?_
  refine sm_if_ne 10 dX10_duty_5 rfl (fun c22 => ?_) (fun c22 => ?_)
  · rw [if_neg c22] at h
    refine sm_aload_n dX10_duty_10 rfl ?_
    refine sm_iload_n dX10_duty_11 rfl ?_
    refine sm_iconst dX10_duty_12 ?_
    obtain ⟨p4, hp5, h⟩ := sl_bind h
    have hc6 := bModel_ofPatrol (G := G) (E := E) (o := o) (s := s) (mi := mi) g  hp5
    refine sc_callV1 (avs := [.inl z1, .inl 3]) (st := []) lk_RX10_88 rfl vf_X10_ofPatrol hc6 ⟨(Nat.le_of_ble_eq_true rfl), (Nat.le_of_ble_eq_true rfl)⟩ ⟨rfl, (Nat.le_of_ble_eq_true rfl)⟩ g.2.2.1 (by omega) rfl dX10_duty_13 ?_
    refine sm_istore_n dX10_duty_16 (Nat.le_of_ble_eq_true rfl) ?_
    refine sm_iload_n dX10_duty_17 rfl ?_
    refine sm_if_ne 33 dX10_duty_18 rfl (fun c21 => ?_) (fun c21 => ?_)
    · rw [if_neg c21] at h
      exact sm_less (lv' := [some (.inr o), some (.inl z1), some (.inl z2), some (.inl p4)]) ⟨rfl, rfl, rfl, rfl, trivial⟩ (bModel_duty_j33 g   h)
    · rw [if_pos c21] at h
      refine sm_iload_n dX10_duty_21 rfl ?_
      refine sm_if_eq 33 dX10_duty_22 rfl (fun c20 => ?_) (fun c20 => ?_)
      · rw [if_pos c20] at h
        exact sm_less (lv' := [some (.inr o), some (.inl z1), some (.inl z2), some (.inl p4)]) ⟨rfl, rfl, rfl, rfl, trivial⟩ (bModel_duty_j33 g   h)
      · rw [if_neg c20] at h
        refine sm_iload_n dX10_duty_25 rfl ?_
        refine sm_iconst dX10_duty_26 ?_
        refine sc_icmp_eq (X' := sm_w p4) (Y' := 4) 33 dX10_duty_27 rfl rfl (by decide) (fun c19 => ?_) (fun c19 => ?_)
        · rw [if_pos c19] at h
          exact sm_less (lv' := [some (.inr o), some (.inl z1), some (.inl z2), some (.inl p4)]) ⟨rfl, rfl, rfl, rfl, trivial⟩ (bModel_duty_j33 g   h)
        · rw [if_neg c19] at h
          refine sm_bipush dX10_duty_30 rfl ?_
          cases h
          exact sm_ireturn dX10_duty_32 (Or.inl rfl)
  · rw [if_pos c22] at h
    refine sm_iconst dX10_duty_8 ?_
    cases h
    exact sm_ireturn dX10_duty_9 (Or.inl rfl)
abbrev xModel_goHome (G : GT) : XT := (G, yX10_goHome.cls, cX10_goHome, 4, (some .int), decide (yX10_goHome.name = "<init>"), 2, 45)
def fModel_goHome (z1 : Int) (s : MI) : Option (Int × MI) :=
  Option.bind (fModel_isPatrol z1 s) (fun p1 => (if sm_w p1 = 0 then some ((-1), s) else Option.bind (fModel_ofPatrol z1 0 s) (fun p4 => Option.bind (fModel_ofPatrol z1 4 s) (fun p7 => Option.bind (fModel_way p7 p4 s) (fun p10 => Option.bind (fModel_ofPatrol z1 3 s) (fun p13 => (if sm_w p13 = 0 then (if sm_w p10 < 100000 then Option.bind (fModel_ofPatrol z1 4 s) (fun p16 => (if sm_w p16 = sm_w p4 then some ((-5), s) else Option.bind (fModel_records s) (fun p19 => Option.bind (fModel_laysPatrol z1 4 p4 p19) (fun p22 => some (p10, p22))))) else some ((-4), s)) else some ((-4), s))))))))
set_option maxRecDepth 100000 in
set_option maxHeartbeats 4000000 in
theorem bModel_goHome {G : GT} {E : ET} {o : Nat} {s mi : MI} {z1 : Int} {w : Int × MI} (g : gL E o)  (h : fModel_goHome z1 s = some w) : cN G yX10_goHome cX10_goHome 4 (some .int) 2 45 [.inr o, .inl z1] E (sm_gl o 10 s mi) (some (.inl w.1), E, sm_gl o 10 w.2 mi) := by
  have hN1 := g.1
  have hN2 := g.2.1
  unfold fModel_goHome at h
  refine sm_meth (by decide +kernel) (Nat.le_of_ble_eq_true rfl) ?_
  show sM (xModel_goHome G) 0 [some (.inr o), some (.inl z1), none, none] [] E (sm_gl o 10 s mi) _
  refine sm_aload_n dX10_goHome_0 rfl ?_
  refine sm_iload_n dX10_goHome_1 rfl ?_
  obtain ⟨p1, hp2, h⟩ := sl_bind h
  have hc3 := bModel_isPatrol (G := G) (E := E) (o := o) (s := s) (mi := mi) g  hp2
  refine sc_callV1 (avs := [.inl z1]) (st := []) lk_RX10_107 rfl vf_X10_isPatrol hc3 ⟨(Nat.le_of_ble_eq_true rfl), (Nat.le_of_ble_eq_true rfl)⟩ ⟨rfl, (Nat.le_of_ble_eq_true rfl)⟩ g.2.2.1 (by omega) rfl dX10_goHome_2 ?_
  refine sm_if_ne 10 dX10_goHome_5 rfl (fun c28 => ?_) (fun c28 => ?_)
  · rw [if_neg c28] at h
    refine sm_aload_n dX10_goHome_10 rfl ?_
    refine sm_iload_n dX10_goHome_11 rfl ?_
    refine sm_iconst dX10_goHome_12 ?_
    obtain ⟨p4, hp5, h⟩ := sl_bind h
    have hc6 := bModel_ofPatrol (G := G) (E := E) (o := o) (s := s) (mi := mi) g  hp5
    refine sc_callV1 (avs := [.inl z1, .inl 0]) (st := []) lk_RX10_88 rfl vf_X10_ofPatrol hc6 ⟨(Nat.le_of_ble_eq_true rfl), (Nat.le_of_ble_eq_true rfl)⟩ ⟨rfl, (Nat.le_of_ble_eq_true rfl)⟩ g.2.2.1 (by omega) rfl dX10_goHome_13 ?_
    refine sm_istore_n dX10_goHome_16 (Nat.le_of_ble_eq_true rfl) ?_
    refine sm_aload_n dX10_goHome_17 rfl ?_
    refine sm_aload_n dX10_goHome_18 rfl ?_
    refine sm_iload_n dX10_goHome_19 rfl ?_
    refine sm_iconst dX10_goHome_20 ?_
    obtain ⟨p7, hp8, h⟩ := sl_bind h
    have hc9 := bModel_ofPatrol (G := G) (E := E) (o := o) (s := s) (mi := mi) g  hp8
    refine sc_callV1 (avs := [.inl z1, .inl 4]) (st := [.inr o]) lk_RX10_88 rfl vf_X10_ofPatrol hc9 ⟨(Nat.le_of_ble_eq_true rfl), (Nat.le_of_ble_eq_true rfl)⟩ ⟨rfl, (Nat.le_of_ble_eq_true rfl)⟩ g.2.2.1 (by omega) rfl dX10_goHome_21 ?_
    refine sm_iload_n dX10_goHome_24 rfl ?_
    obtain ⟨p10, hp11, h⟩ := sl_bind h
    have hc12 := bModel_way (G := G) (E := E) (o := o) (s := s) (mi := mi) g  hp11
    refine sc_callV1 (avs := [.inl p7, .inl p4]) (st := []) lk_RX10_53 rfl vf_X10_way hc12 ⟨(Nat.le_of_ble_eq_true rfl), (Nat.le_of_ble_eq_true rfl)⟩ ⟨rfl, (Nat.le_of_ble_eq_true rfl)⟩ g.2.2.1 (by omega) rfl dX10_goHome_25 ?_
    refine sm_istore_n dX10_goHome_28 (Nat.le_of_ble_eq_true rfl) ?_
    refine sm_aload_n dX10_goHome_29 rfl ?_
    refine sm_iload_n dX10_goHome_30 rfl ?_
    refine sm_iconst dX10_goHome_31 ?_
    obtain ⟨p13, hp14, h⟩ := sl_bind h
    have hc15 := bModel_ofPatrol (G := G) (E := E) (o := o) (s := s) (mi := mi) g  hp14
    refine sc_callV1 (avs := [.inl z1, .inl 3]) (st := []) lk_RX10_88 rfl vf_X10_ofPatrol hc15 ⟨(Nat.le_of_ble_eq_true rfl), (Nat.le_of_ble_eq_true rfl)⟩ ⟨rfl, (Nat.le_of_ble_eq_true rfl)⟩ g.2.2.1 (by omega) rfl dX10_goHome_32 ?_
    refine sm_if_ne 44 dX10_goHome_35 rfl (fun c27 => ?_) (fun c27 => ?_)
    · rw [if_neg c27] at h
      refine sm_bipush dX10_goHome_44 rfl ?_
      cases h
      exact sm_ireturn dX10_goHome_46 (Or.inl rfl)
    · rw [if_pos c27] at h
      refine sm_iload_n dX10_goHome_38 rfl ?_
      refine sm_ldc (v := 100000) rfl lc_RX10_52 dX10_goHome_39 ?_
      refine sc_icmp_lt (X' := sm_w p10) (Y' := 100000) 47 dX10_goHome_41 rfl rfl (by decide) (fun c26 => ?_) (fun c26 => ?_)
      · rw [if_pos c26] at h
        refine sm_aload_n dX10_goHome_47 rfl ?_
        refine sm_iload_n dX10_goHome_48 rfl ?_
        refine sm_iconst dX10_goHome_49 ?_
        obtain ⟨p16, hp17, h⟩ := sl_bind h
        have hc18 := bModel_ofPatrol (G := G) (E := E) (o := o) (s := s) (mi := mi) g  hp17
        refine sc_callV1 (avs := [.inl z1, .inl 4]) (st := []) lk_RX10_88 rfl vf_X10_ofPatrol hc18 ⟨(Nat.le_of_ble_eq_true rfl), (Nat.le_of_ble_eq_true rfl)⟩ ⟨rfl, (Nat.le_of_ble_eq_true rfl)⟩ g.2.2.1 (by omega) rfl dX10_goHome_50 ?_
        refine sm_iload_n dX10_goHome_53 rfl ?_
        refine sc_icmp_ne (X' := sm_w p16) (Y' := sm_w p4) 60 dX10_goHome_54 rfl rfl rfl (fun c25 => ?_) (fun c25 => ?_)
        · rw [if_neg c25] at h
          refine sm_aload_n dX10_goHome_60 rfl ?_
          obtain ⟨p19, hp20, h⟩ := sl_bind h
          have hc21 := bModel_records (G := G) (E := E) (o := o) (s := s) (mi := mi) g  hp20
          refine sc_callV0 (avs := []) (st := []) lk_RX10_61 rfl vf_X10_records hc21 ⟨(Nat.le_of_ble_eq_true rfl), (Nat.le_of_ble_eq_true rfl)⟩ ⟨rfl, (Nat.le_of_ble_eq_true rfl)⟩ g.2.2.1 (by omega) rfl dX10_goHome_61 ?_
          refine sm_aload_n dX10_goHome_64 rfl ?_
          refine sm_iload_n dX10_goHome_65 rfl ?_
          refine sm_iconst dX10_goHome_66 ?_
          refine sm_iload_n dX10_goHome_67 rfl ?_
          obtain ⟨p22, hp23, h⟩ := sl_bind h
          have hc24 := bModel_laysPatrol (G := G) (E := E) (o := o) (s := p19) (mi := mi) g  hp23
          refine sc_callV0 (avs := [.inl z1, .inl 4, .inl p4]) (st := []) lk_RX10_64 rfl vf_X10_laysPatrol hc24 ⟨(Nat.le_of_ble_eq_true rfl), (Nat.le_of_ble_eq_true rfl)⟩ ⟨rfl, (Nat.le_of_ble_eq_true rfl)⟩ g.2.2.1 (by omega) rfl dX10_goHome_68 ?_
          refine sm_iload_n dX10_goHome_71 rfl ?_
          cases h
          exact sm_ireturn dX10_goHome_72 (Or.inl rfl)
        · rw [if_pos c25] at h
          refine sm_bipush dX10_goHome_57 rfl ?_
          cases h
          exact sm_ireturn dX10_goHome_59 (Or.inl rfl)
      · rw [if_neg c26] at h
        refine sm_bipush dX10_goHome_44 rfl ?_
        cases h
        exact sm_ireturn dX10_goHome_46 (Or.inl rfl)
  · rw [if_pos c28] at h
    refine sm_iconst dX10_goHome_8 ?_
    cases h
    exact sm_ireturn dX10_goHome_9 (Or.inl rfl)
abbrev xModel_fetch (G : GT) : XT := (G, yX10_fetch.cls, cX10_fetch, 3, (some .int), decide (yX10_fetch.name = "<init>"), 2, 45)
def fModel_fetch (z1 : Int) (z2 : Int) (s : MI) : Option (Int × MI) :=
  Option.bind (fModel_isGarage z1 s) (fun p1 => (if sm_w p1 = 0 then some ((-1), s) else Option.bind (fModel_in z2 1 9) (fun p4 => (if sm_w p4 = 0 then some ((-2), s) else Option.bind (fModel_ofGarage z1 2 s) (fun p7 => (if sm_w z2 ≤ sm_w p7 then Option.bind (fModel_records s) (fun p10 => if 0 ≤ sm_w ((270 + (4 * z1)) + 2) ∧ sm_w ((270 + (4 * z1)) + 2) < 810 then Option.bind (some (sm_up p10 1 (sm_w ((270 + (4 * z1)) + 2)).toNat ((p10 1 (sm_w ((270 + (4 * z1)) + 2)).toNat) - z2))) (fun s14 => Option.bind (fModel_ofGarage z1 2 s14) (fun p16 => some (p16, s14))) else none) else some ((-4), s)))))))
set_option maxRecDepth 100000 in
set_option maxHeartbeats 4000000 in
theorem bModel_fetch {G : GT} {E : ET} {o : Nat} {s mi : MI} {z1 : Int} {z2 : Int} {w : Int × MI} (g : gL E o)  (h : fModel_fetch z1 z2 s = some w) : cN G yX10_fetch cX10_fetch 3 (some .int) 2 45 [.inr o, .inl z1, .inl z2] E (sm_gl o 10 s mi) (some (.inl w.1), E, sm_gl o 10 w.2 mi) := by
  have hN1 := g.1
  have hN2 := g.2.1
  unfold fModel_fetch at h
  refine sm_meth (by decide +kernel) (Nat.le_of_ble_eq_true rfl) ?_
  show sM (xModel_fetch G) 0 [some (.inr o), some (.inl z1), some (.inl z2)] [] E (sm_gl o 10 s mi) _
  refine sm_aload_n dX10_fetch_0 rfl ?_
  refine sm_iload_n dX10_fetch_1 rfl ?_
  obtain ⟨p1, hp2, h⟩ := sl_bind h
  have hc3 := bModel_isGarage (G := G) (E := E) (o := o) (s := s) (mi := mi) g  hp2
  refine sc_callV1 (avs := [.inl z1]) (st := []) lk_RX10_114 rfl vf_X10_isGarage hc3 ⟨(Nat.le_of_ble_eq_true rfl), (Nat.le_of_ble_eq_true rfl)⟩ ⟨rfl, (Nat.le_of_ble_eq_true rfl)⟩ g.2.2.1 (by omega) rfl dX10_fetch_2 ?_
  refine sm_if_ne 10 dX10_fetch_5 rfl (fun c21 => ?_) (fun c21 => ?_)
  · rw [if_neg c21] at h
    refine sm_iload_n dX10_fetch_10 rfl ?_
    refine sm_iconst dX10_fetch_11 ?_
    refine sm_bipush dX10_fetch_12 rfl ?_
    obtain ⟨p4, hp5, h⟩ := sl_bind h
    have hc6 := bModel_in (G := G) (E := E) (mi := (sm_gl o 10 s mi))   hp5
    refine sc_callS1 (avs := [.inl z2, .inl 1, .inl 9]) (st := []) lk_RX10_48 rfl sf_X10_in hc6 ⟨(Nat.le_of_ble_eq_true rfl), (Nat.le_of_ble_eq_true rfl)⟩ ⟨rfl, (Nat.le_of_ble_eq_true rfl)⟩ rfl dX10_fetch_14 ?_
    refine sm_if_ne 23 dX10_fetch_17 rfl (fun c20 => ?_) (fun c20 => ?_)
    · rw [if_neg c20] at h
      refine sm_aload_n dX10_fetch_23 rfl ?_
      refine sm_iload_n dX10_fetch_24 rfl ?_
      refine sm_iconst dX10_fetch_25 ?_
      obtain ⟨p7, hp8, h⟩ := sl_bind h
      have hc9 := bModel_ofGarage (G := G) (E := E) (o := o) (s := s) (mi := mi) g  hp8
      refine sc_callV1 (avs := [.inl z1, .inl 2]) (st := []) lk_RX10_117 rfl vf_X10_ofGarage hc9 ⟨(Nat.le_of_ble_eq_true rfl), (Nat.le_of_ble_eq_true rfl)⟩ ⟨rfl, (Nat.le_of_ble_eq_true rfl)⟩ g.2.2.1 (by omega) rfl dX10_fetch_26 ?_
      refine sm_iload_n dX10_fetch_29 rfl ?_
      refine sc_icmp_ge (X' := sm_w p7) (Y' := sm_w z2) 36 dX10_fetch_30 rfl rfl rfl (fun c19 => ?_) (fun c19 => ?_)
      · rw [if_pos c19] at h
        refine sm_aload_n dX10_fetch_36 rfl ?_
        obtain ⟨p10, hp11, h⟩ := sl_bind h
        have hc12 := bModel_records (G := G) (E := E) (o := o) (s := s) (mi := mi) g  hp11
        refine sc_callV0 (avs := []) (st := []) lk_RX10_61 rfl vf_X10_records hc12 ⟨(Nat.le_of_ble_eq_true rfl), (Nat.le_of_ble_eq_true rfl)⟩ ⟨rfl, (Nat.le_of_ble_eq_true rfl)⟩ g.2.2.1 (by omega) rfl dX10_fetch_37 ?_
        refine sm_aload_n dX10_fetch_40 rfl ?_
        refine sm_getR lf_RX10_7 fR_7_0 g.2.2.1 (by omega) g.2.2.2.1.2 dX10_fetch_41 ?_
        refine sm_sipush dX10_fetch_44 rfl ?_
        refine sm_iconst dX10_fetch_47 ?_
        refine sm_iload_n dX10_fetch_48 rfl ?_
        refine sm_imul dX10_fetch_49 ?_
        refine sm_iadd dX10_fetch_50 ?_
        refine sm_iconst dX10_fetch_51 ?_
        refine sm_iadd dX10_fetch_52 ?_
        refine sm_dup2 dX10_fetch_53 ?_
        obtain ⟨q13, h⟩ := sl_guard h
        have xq13 := (sl_ix (m := 810) q13).2
        refine sl_ialdk (D := 1) (k := (sm_w ((270 + (4 * z1)) + 2)).toNat) g.2.2.2.1.1 rfl (by omega) hN2 (sl_ix (m := 810) q13) dX10_fetch_54 ?_
        refine sm_iload_n dX10_fetch_55 rfl ?_
        refine sm_isub dX10_fetch_56 ?_
        refine sl_iastk (D := 1) (k := (sm_w ((270 + (4 * z1)) + 2)).toNat) g.2.2.2.1.1 rfl (by omega) ⟨hN1, hN2⟩ (sl_ix (m := 810) q13) dX10_fetch_57 ?_
        obtain ⟨s14, hs15, h⟩ := sl_bind h
        rw [Option.some.inj hs15]
        refine sm_aload_n dX10_fetch_58 rfl ?_
        refine sm_iload_n dX10_fetch_59 rfl ?_
        refine sm_iconst dX10_fetch_60 ?_
        obtain ⟨p16, hp17, h⟩ := sl_bind h
        have hc18 := bModel_ofGarage (G := G) (E := E) (o := o) (s := s14) (mi := mi) g  hp17
        refine sc_callV1 (avs := [.inl z1, .inl 2]) (st := []) lk_RX10_117 rfl vf_X10_ofGarage hc18 ⟨(Nat.le_of_ble_eq_true rfl), (Nat.le_of_ble_eq_true rfl)⟩ ⟨rfl, (Nat.le_of_ble_eq_true rfl)⟩ g.2.2.1 (by omega) rfl dX10_fetch_61 ?_
        cases h
        exact sm_ireturn dX10_fetch_64 (Or.inl rfl)
      · rw [if_neg c19] at h
        refine sm_bipush dX10_fetch_33 rfl ?_
        cases h
        exact sm_ireturn dX10_fetch_35 (Or.inl rfl)
    · rw [if_pos c20] at h
      refine sm_bipush dX10_fetch_20 rfl ?_
      cases h
      exact sm_ireturn dX10_fetch_22 (Or.inl rfl)
  · rw [if_pos c21] at h
    refine sm_iconst dX10_fetch_8 ?_
    cases h
    exact sm_ireturn dX10_fetch_9 (Or.inl rfl)
abbrev xModel_underWay (G : GT) : XT := (G, yX10_underWay.cls, cX10_underWay, 4, (some .int), decide (yX10_underWay.name = "<init>"), 1, 22)
abbrev qModel_underWay_l4 (G : GT) (E : ET) (o : Nat) (mi : MI) (z1 : Int) (s : MI) (r : RT) (t : Int × Int) : Prop := sM (xModel_underWay G) 4 [some (.inr o), some (.inl z1), some (.inl t.1), some (.inl t.2)] [] E (sm_gl o 10 s mi) r
abbrev kModel_underWay_l4 (G : GT) (E : ET) (o : Nat) (mi : MI) (z1 : Int) (s : MI) (r : RT) (x : Int) : Prop := sM (xModel_underWay G) 50 [none, none, some (.inl x), none] [] E (sm_gl o 10 s mi) r
def fModel_underWay_j42_l4 (z1 : Int) (z3 : Int) (y0 : Int) (y1 : Int) (s : MI) : Option ((Int × Int) ⊕ (Int)) :=
  some (.inl ((y0 + y1), (z3 + 1)))
set_option maxRecDepth 100000 in
set_option maxHeartbeats 4000000 in
theorem bModel_underWay_j42_l4 {G : GT} {E : ET} {o : Nat} {s mi : MI} {z1 : Int} {z3 : Int} {y0 : Int} {y1 : Int} {r : RT} {w : (Int × Int) ⊕ (Int)} (g : gL E o)  (h : fModel_underWay_j42_l4 z1 z3 y0 y1 s = some w) (hK : Sum.elim (qModel_underWay_l4 G E o mi z1 s r) (kModel_underWay_l4 G E o mi z1 s r) w) : sM (xModel_underWay G) 42 [some (.inr o), some (.inl z1), none, some (.inl z3)] [.inl y1, .inl y0] E (sm_gl o 10 s mi) r := by
  have hN1 := g.1
  have hN2 := g.2.1
  unfold fModel_underWay_j42_l4 at h
  refine sm_iadd dX10_underWay_42 ?_
  refine sm_istore_n dX10_underWay_43 (Nat.le_of_ble_eq_true rfl) ?_
  refine sm_iinc dX10_underWay_44 (Nat.le_of_ble_eq_true rfl) rfl ?_
  refine sm_goto 4 dX10_underWay_47 rfl ?_
  cases h
  exact sm_less (lv' := [some (.inr o), some (.inl z1), some (.inl (y0 + y1)), some (.inl (z3 + 1))]) ⟨rfl, rfl, rfl, rfl, trivial⟩ hK
def fModel_underWay_j41_l4 (z1 : Int) (z3 : Int) (y0 : Int) (s : MI) : Option ((Int × Int) ⊕ (Int)) :=
  fModel_underWay_j42_l4 z1 z3 y0 0 s
set_option maxRecDepth 100000 in
set_option maxHeartbeats 4000000 in
theorem bModel_underWay_j41_l4 {G : GT} {E : ET} {o : Nat} {s mi : MI} {z1 : Int} {z3 : Int} {y0 : Int} {r : RT} {w : (Int × Int) ⊕ (Int)} (g : gL E o)  (h : fModel_underWay_j41_l4 z1 z3 y0 s = some w) (hK : Sum.elim (qModel_underWay_l4 G E o mi z1 s r) (kModel_underWay_l4 G E o mi z1 s r) w) : sM (xModel_underWay G) 41 [some (.inr o), some (.inl z1), none, some (.inl z3)] [.inl y0] E (sm_gl o 10 s mi) r := by
  have hN1 := g.1
  have hN2 := g.2.1
  unfold fModel_underWay_j41_l4 at h
  refine sm_iconst dX10_underWay_41 ?_
  exact sm_less (lv' := [some (.inr o), some (.inl z1), none, some (.inl z3)]) ⟨rfl, rfl, rfl, trivial⟩ (bModel_underWay_j42_l4 g   h hK)
def fModel_underWay_l4 (z1 : Int) (z2 : Int) (z3 : Int) (s : MI) : Option ((Int × Int) ⊕ (Int)) :=
  (if sm_w (s 1 7) ≤ sm_w z3 then some (.inr z2) else Option.bind (fModel_ofPatrol z3 3 s) (fun p1 => (if sm_w p1 = 3 then Option.bind (fModel_ofPatrol z3 13 s) (fun p4 => (if sm_w p4 = sm_w z1 then fModel_underWay_j42_l4 z1 z3 z2 1 s else fModel_underWay_j41_l4 z1 z3 z2 s)) else fModel_underWay_j41_l4 z1 z3 z2 s)))
set_option maxRecDepth 100000 in
set_option maxHeartbeats 4000000 in
theorem bModel_underWay_l4 {G : GT} {E : ET} {o : Nat} {s mi : MI} {z1 : Int} {z2 : Int} {z3 : Int} {r : RT} {w : (Int × Int) ⊕ (Int)} (g : gL E o)  (h : fModel_underWay_l4 z1 z2 z3 s = some w) (hK : Sum.elim (qModel_underWay_l4 G E o mi z1 s r) (kModel_underWay_l4 G E o mi z1 s r) w) : qModel_underWay_l4 G E o mi z1 s r (z2, z3) := by
  have hN1 := g.1
  have hN2 := g.2.1
  unfold fModel_underWay_l4 at h
  show sM (xModel_underWay G) 4 [some (.inr o), some (.inl z1), some (.inl z2), some (.inl z3)] [] E (sm_gl o 10 s mi) r
  refine sm_iload_n dX10_underWay_4 rfl ?_
  refine sm_aload_n dX10_underWay_5 rfl ?_
  refine sm_getR lf_RX10_7 fR_7_0 g.2.2.1 (by omega) g.2.2.2.1.2 dX10_underWay_6 ?_
  refine sm_bipush dX10_underWay_9 rfl ?_
  refine sl_ialdk (D := 1) (k := 7) g.2.2.2.1.1 rfl (by omega) hN2 ⟨by decide, by decide⟩ dX10_underWay_11 ?_
  refine sc_icmp_ge (X' := sm_w z3) (Y' := sm_w (s 1 7)) 50 dX10_underWay_12 rfl rfl rfl (fun c9 => ?_) (fun c9 => ?_)
  · rw [if_pos c9] at h
    cases h
    exact sm_less (lv' := [none, none, some (.inl z2), none]) ⟨rfl, trivial⟩ hK
  · rw [if_neg c9] at h
    refine sm_iload_n dX10_underWay_15 rfl ?_
    refine sm_aload_n dX10_underWay_16 rfl ?_
    refine sm_iload_n dX10_underWay_17 rfl ?_
    refine sm_iconst dX10_underWay_18 ?_
    obtain ⟨p1, hp2, h⟩ := sl_bind h
    have hc3 := bModel_ofPatrol (G := G) (E := E) (o := o) (s := s) (mi := mi) g  hp2
    refine sc_callV1 (avs := [.inl z3, .inl 3]) (st := [.inl z2]) lk_RX10_88 rfl vf_X10_ofPatrol hc3 ⟨(Nat.le_of_ble_eq_true rfl), (Nat.le_of_ble_eq_true rfl)⟩ ⟨rfl, (Nat.le_of_ble_eq_true rfl)⟩ g.2.2.1 (by omega) rfl dX10_underWay_19 ?_
    refine sm_iconst dX10_underWay_22 ?_
    refine sc_icmp_ne (X' := sm_w p1) (Y' := 3) 41 dX10_underWay_23 rfl rfl (by decide) (fun c8 => ?_) (fun c8 => ?_)
    · rw [if_neg c8] at h
      exact sm_less (lv' := [some (.inr o), some (.inl z1), none, some (.inl z3)]) ⟨rfl, rfl, rfl, trivial⟩ (bModel_underWay_j41_l4 g   h hK)
    · rw [if_pos c8] at h
      refine sm_aload_n dX10_underWay_26 rfl ?_
      refine sm_iload_n dX10_underWay_27 rfl ?_
      refine sm_bipush dX10_underWay_28 rfl ?_
      obtain ⟨p4, hp5, h⟩ := sl_bind h
      have hc6 := bModel_ofPatrol (G := G) (E := E) (o := o) (s := s) (mi := mi) g  hp5
      refine sc_callV1 (avs := [.inl z3, .inl 13]) (st := [.inl z2]) lk_RX10_88 rfl vf_X10_ofPatrol hc6 ⟨(Nat.le_of_ble_eq_true rfl), (Nat.le_of_ble_eq_true rfl)⟩ ⟨rfl, (Nat.le_of_ble_eq_true rfl)⟩ g.2.2.1 (by omega) rfl dX10_underWay_30 ?_
      refine sm_iload_n dX10_underWay_33 rfl ?_
      refine sc_icmp_ne (X' := sm_w p4) (Y' := sm_w z1) 41 dX10_underWay_34 rfl rfl rfl (fun c7 => ?_) (fun c7 => ?_)
      · rw [if_neg c7] at h
        exact sm_less (lv' := [some (.inr o), some (.inl z1), none, some (.inl z3)]) ⟨rfl, rfl, rfl, trivial⟩ (bModel_underWay_j41_l4 g   h hK)
      · rw [if_pos c7] at h
        refine sm_iconst dX10_underWay_37 ?_
        refine sm_goto 42 dX10_underWay_38 rfl ?_
        exact sm_less (lv' := [some (.inr o), some (.inl z1), none, some (.inl z3)]) ⟨rfl, rfl, rfl, trivial⟩ (bModel_underWay_j42_l4 g   h hK)
def fModel_underWay (z1 : Int) (s : MI) : Option (Int) :=
  Option.bind (sl_it (fun (t : Int × Int) => fModel_underWay_l4 z1 t.1 t.2 s) sl_fu (0, 0)) (fun x12 => some x12)
set_option maxRecDepth 100000 in
set_option maxHeartbeats 4000000 in
theorem bModel_underWay {G : GT} {E : ET} {o : Nat} {s mi : MI} {z1 : Int} {w : Int} (g : gL E o)  (h : fModel_underWay z1 s = some w) : cN G yX10_underWay cX10_underWay 4 (some .int) 1 22 [.inr o, .inl z1] E (sm_gl o 10 s mi) (some (.inl w), E, (sm_gl o 10 s mi)) := by
  have hN1 := g.1
  have hN2 := g.2.1
  unfold fModel_underWay at h
  refine sm_meth (by decide +kernel) (Nat.le_of_ble_eq_true rfl) ?_
  show sM (xModel_underWay G) 0 [some (.inr o), some (.inl z1), none, none] [] E (sm_gl o 10 s mi) _
  refine sm_iconst dX10_underWay_0 ?_
  refine sm_istore_n dX10_underWay_1 (Nat.le_of_ble_eq_true rfl) ?_
  refine sm_iconst dX10_underWay_2 ?_
  refine sm_istore_n dX10_underWay_3 (Nat.le_of_ble_eq_true rfl) ?_
  obtain ⟨x12, hy11, h⟩ := sl_bind h
  refine sm_less (lv' := [some (.inr o), some (.inl z1), some (.inl 0), some (.inl 0)]) ⟨rfl, rfl, rfl, rfl, trivial⟩ (sl_itE (P := qModel_underWay_l4 G E o mi z1 s _) (K := kModel_underWay_l4 G E o mi z1 s _) (fun t q hq hk => bModel_underWay_l4 g  hq hk) sl_fu _ x12 hy11 ?_)
  show sM (xModel_underWay G) 50 [none, none, some (.inl x12), none] [] E (sm_gl o 10 s mi) _
  refine sm_iload_n dX10_underWay_50 rfl ?_
  cases h
  exact sm_ireturn dX10_underWay_51 (Or.inl rfl)
abbrev xModel_garageFor (G : GT) : XT := (G, yX10_garageFor.cls, cX10_garageFor, 6, (some .int), decide (yX10_garageFor.name = "<init>"), 2, 45)
abbrev qModel_garageFor_l5 (G : GT) (E : ET) (o : Nat) (mi : MI) (z1 : Int) (s : MI) (r : RT) (t : Int × Int) : Prop := sM (xModel_garageFor G) 5 [some (.inr o), some (.inl z1), some (.inl t.1), some (.inl t.2), none, none] [] E (sm_gl o 10 s mi) r
abbrev kModel_garageFor_l5 (G : GT) (E : ET) (o : Nat) (mi : MI) (z1 : Int) (s : MI) (r : RT) (x : Int) : Prop := sM (xModel_garageFor G) 103 [none, none, some (.inl x), none, none, none] [] E (sm_gl o 10 s mi) r
def fModel_garageFor_j96_l5 (z1 : Int) (z3 : Int) (y0 : Int) (s : MI) : Option ((Int × Int) ⊕ (Int)) :=
  some (.inl (y0, (z3 + 1)))
set_option maxRecDepth 100000 in
set_option maxHeartbeats 4000000 in
theorem bModel_garageFor_j96_l5 {G : GT} {E : ET} {o : Nat} {s mi : MI} {z1 : Int} {z3 : Int} {y0 : Int} {r : RT} {w : (Int × Int) ⊕ (Int)} (g : gL E o)  (h : fModel_garageFor_j96_l5 z1 z3 y0 s = some w) (hK : Sum.elim (qModel_garageFor_l5 G E o mi z1 s r) (kModel_garageFor_l5 G E o mi z1 s r) w) : sM (xModel_garageFor G) 96 [some (.inr o), some (.inl z1), none, some (.inl z3), none, none] [.inl y0] E (sm_gl o 10 s mi) r := by
  have hN1 := g.1
  have hN2 := g.2.1
  unfold fModel_garageFor_j96_l5 at h
  refine sm_istore_n dX10_garageFor_96 (Nat.le_of_ble_eq_true rfl) ?_
  refine sm_iinc dX10_garageFor_97 (Nat.le_of_ble_eq_true rfl) rfl ?_
  refine sm_goto 5 dX10_garageFor_100 rfl ?_
  cases h
  exact sm_less (lv' := [some (.inr o), some (.inl z1), some (.inl y0), some (.inl (z3 + 1)), none, none]) ⟨rfl, rfl, rfl, rfl, trivial⟩ hK
def fModel_garageFor_j95_l5 (z1 : Int) (z2 : Int) (z3 : Int) (s : MI) : Option ((Int × Int) ⊕ (Int)) :=
  fModel_garageFor_j96_l5 z1 z3 z2 s
set_option maxRecDepth 100000 in
set_option maxHeartbeats 4000000 in
theorem bModel_garageFor_j95_l5 {G : GT} {E : ET} {o : Nat} {s mi : MI} {z1 : Int} {z2 : Int} {z3 : Int} {r : RT} {w : (Int × Int) ⊕ (Int)} (g : gL E o)  (h : fModel_garageFor_j95_l5 z1 z2 z3 s = some w) (hK : Sum.elim (qModel_garageFor_l5 G E o mi z1 s r) (kModel_garageFor_l5 G E o mi z1 s r) w) : sM (xModel_garageFor G) 95 [some (.inr o), some (.inl z1), some (.inl z2), some (.inl z3), none, none] [] E (sm_gl o 10 s mi) r := by
  have hN1 := g.1
  have hN2 := g.2.1
  unfold fModel_garageFor_j95_l5 at h
  refine sm_iload_n dX10_garageFor_95 rfl ?_
  exact sm_less (lv' := [some (.inr o), some (.inl z1), none, some (.inl z3), none, none]) ⟨rfl, rfl, rfl, trivial⟩ (bModel_garageFor_j96_l5 g   h hK)
def fModel_garageFor_j91_l5 (z1 : Int) (z3 : Int) (s : MI) : Option ((Int × Int) ⊕ (Int)) :=
  fModel_garageFor_j96_l5 z1 z3 z3 s
set_option maxRecDepth 100000 in
set_option maxHeartbeats 4000000 in
theorem bModel_garageFor_j91_l5 {G : GT} {E : ET} {o : Nat} {s mi : MI} {z1 : Int} {z3 : Int} {r : RT} {w : (Int × Int) ⊕ (Int)} (g : gL E o)  (h : fModel_garageFor_j91_l5 z1 z3 s = some w) (hK : Sum.elim (qModel_garageFor_l5 G E o mi z1 s r) (kModel_garageFor_l5 G E o mi z1 s r) w) : sM (xModel_garageFor G) 91 [some (.inr o), some (.inl z1), none, some (.inl z3), none, none] [] E (sm_gl o 10 s mi) r := by
  have hN1 := g.1
  have hN2 := g.2.1
  unfold fModel_garageFor_j91_l5 at h
  refine sm_iload_n dX10_garageFor_91 rfl ?_
  refine sm_goto 96 dX10_garageFor_92 rfl ?_
  exact sm_less (lv' := [some (.inr o), some (.inl z1), none, some (.inl z3), none, none]) ⟨rfl, rfl, rfl, trivial⟩ (bModel_garageFor_j96_l5 g   h hK)
def fModel_garageFor_j62_l5 (z1 : Int) (z2 : Int) (z3 : Int) (z4 : Int) (y0 : Int) (s : MI) : Option ((Int × Int) ⊕ (Int)) :=
  (if sm_w y0 = 0 then fModel_garageFor_j95_l5 z1 z2 z3 s else (if sm_w z2 = (-5) then fModel_garageFor_j91_l5 z1 z3 s else Option.bind (fModel_ofGarage z2 0 s) (fun p7 => Option.bind (fModel_way z1 p7 s) (fun p10 => (if sm_w p10 ≤ sm_w z4 then fModel_garageFor_j95_l5 z1 z2 z3 s else fModel_garageFor_j91_l5 z1 z3 s)))))
set_option maxRecDepth 100000 in
set_option maxHeartbeats 4000000 in
theorem bModel_garageFor_j62_l5 {G : GT} {E : ET} {o : Nat} {s mi : MI} {z1 : Int} {z2 : Int} {z3 : Int} {z4 : Int} {y0 : Int} {r : RT} {w : (Int × Int) ⊕ (Int)} (g : gL E o)  (h : fModel_garageFor_j62_l5 z1 z2 z3 z4 y0 s = some w) (hK : Sum.elim (qModel_garageFor_l5 G E o mi z1 s r) (kModel_garageFor_l5 G E o mi z1 s r) w) : sM (xModel_garageFor G) 62 [some (.inr o), some (.inl z1), some (.inl z2), some (.inl z3), some (.inl z4), none] [.inl y0] E (sm_gl o 10 s mi) r := by
  have hN1 := g.1
  have hN2 := g.2.1
  unfold fModel_garageFor_j62_l5 at h
  refine sm_istore dX10_garageFor_62 (Nat.le_of_ble_eq_true rfl) ?_
  refine sm_iload dX10_garageFor_64 rfl ?_
  refine sm_if_eq 95 dX10_garageFor_66 rfl (fun c15 => ?_) (fun c15 => ?_)
  · rw [if_pos c15] at h
    exact sm_less (lv' := [some (.inr o), some (.inl z1), some (.inl z2), some (.inl z3), none, none]) ⟨rfl, rfl, rfl, rfl, trivial⟩ (bModel_garageFor_j95_l5 g   h hK)
  · rw [if_neg c15] at h
    refine sm_iload_n dX10_garageFor_69 rfl ?_
    refine sm_bipush dX10_garageFor_70 rfl ?_
    refine sc_icmp_eq (X' := sm_w z2) (Y' := (-5)) 91 dX10_garageFor_72 rfl rfl (by decide) (fun c14 => ?_) (fun c14 => ?_)
    · rw [if_pos c14] at h
      exact sm_less (lv' := [some (.inr o), some (.inl z1), none, some (.inl z3), none, none]) ⟨rfl, rfl, rfl, trivial⟩ (bModel_garageFor_j91_l5 g   h hK)
    · rw [if_neg c14] at h
      refine sm_iload dX10_garageFor_75 rfl ?_
      refine sm_aload_n dX10_garageFor_77 rfl ?_
      refine sm_iload_n dX10_garageFor_78 rfl ?_
      refine sm_aload_n dX10_garageFor_79 rfl ?_
      refine sm_iload_n dX10_garageFor_80 rfl ?_
      refine sm_iconst dX10_garageFor_81 ?_
      obtain ⟨p7, hp8, h⟩ := sl_bind h
      have hc9 := bModel_ofGarage (G := G) (E := E) (o := o) (s := s) (mi := mi) g  hp8
      refine sc_callV1 (avs := [.inl z2, .inl 0]) (st := [.inl z1, .inr o, .inl z4]) lk_RX10_117 rfl vf_X10_ofGarage hc9 ⟨(Nat.le_of_ble_eq_true rfl), (Nat.le_of_ble_eq_true rfl)⟩ ⟨rfl, (Nat.le_of_ble_eq_true rfl)⟩ g.2.2.1 (by omega) rfl dX10_garageFor_82 ?_
      obtain ⟨p10, hp11, h⟩ := sl_bind h
      have hc12 := bModel_way (G := G) (E := E) (o := o) (s := s) (mi := mi) g  hp11
      refine sc_callV1 (avs := [.inl z1, .inl p7]) (st := [.inl z4]) lk_RX10_53 rfl vf_X10_way hc12 ⟨(Nat.le_of_ble_eq_true rfl), (Nat.le_of_ble_eq_true rfl)⟩ ⟨rfl, (Nat.le_of_ble_eq_true rfl)⟩ g.2.2.1 (by omega) rfl dX10_garageFor_85 ?_
      refine sc_icmp_ge (X' := sm_w z4) (Y' := sm_w p10) 95 dX10_garageFor_88 rfl rfl rfl (fun c13 => ?_) (fun c13 => ?_)
      · rw [if_pos c13] at h
        exact sm_less (lv' := [some (.inr o), some (.inl z1), some (.inl z2), some (.inl z3), none, none]) ⟨rfl, rfl, rfl, rfl, trivial⟩ (bModel_garageFor_j95_l5 g   h hK)
      · rw [if_neg c13] at h
        exact sm_less (lv' := [some (.inr o), some (.inl z1), none, some (.inl z3), none, none]) ⟨rfl, rfl, rfl, trivial⟩ (bModel_garageFor_j91_l5 g   h hK)
def fModel_garageFor_j61_l5 (z1 : Int) (z2 : Int) (z3 : Int) (z4 : Int) (s : MI) : Option ((Int × Int) ⊕ (Int)) :=
  fModel_garageFor_j62_l5 z1 z2 z3 z4 0 s
set_option maxRecDepth 100000 in
set_option maxHeartbeats 4000000 in
theorem bModel_garageFor_j61_l5 {G : GT} {E : ET} {o : Nat} {s mi : MI} {z1 : Int} {z2 : Int} {z3 : Int} {z4 : Int} {r : RT} {w : (Int × Int) ⊕ (Int)} (g : gL E o)  (h : fModel_garageFor_j61_l5 z1 z2 z3 z4 s = some w) (hK : Sum.elim (qModel_garageFor_l5 G E o mi z1 s r) (kModel_garageFor_l5 G E o mi z1 s r) w) : sM (xModel_garageFor G) 61 [some (.inr o), some (.inl z1), some (.inl z2), some (.inl z3), some (.inl z4), none] [] E (sm_gl o 10 s mi) r := by
  have hN1 := g.1
  have hN2 := g.2.1
  unfold fModel_garageFor_j61_l5 at h
  refine sm_iconst dX10_garageFor_61 ?_
  exact sm_less (lv' := [some (.inr o), some (.inl z1), some (.inl z2), some (.inl z3), some (.inl z4), none]) ⟨rfl, rfl, rfl, rfl, rfl, trivial⟩ (bModel_garageFor_j62_l5 g   h hK)
def fModel_garageFor_l5 (z1 : Int) (z2 : Int) (z3 : Int) (s : MI) : Option ((Int × Int) ⊕ (Int)) :=
  (if sm_w (s 1 8) ≤ sm_w z3 then some (.inr z2) else Option.bind (fModel_ofGarage z3 0 s) (fun p1 => Option.bind (fModel_way z1 p1 s) (fun p4 => (if 100000 ≤ sm_w p4 then fModel_garageFor_j61_l5 z1 z2 z3 p4 s else Option.bind (fModel_ofGarage z3 2 s) (fun p16 => Option.bind (fModel_underWay z3 s) (fun p19 => Option.bind (fModel_ofGarage z3 1 s) (fun p22 => (if sm_w p22 ≤ sm_w (p16 + p19) then fModel_garageFor_j61_l5 z1 z2 z3 p4 s else fModel_garageFor_j62_l5 z1 z2 z3 p4 1 s))))))))
set_option maxRecDepth 100000 in
set_option maxHeartbeats 4000000 in
theorem bModel_garageFor_l5 {G : GT} {E : ET} {o : Nat} {s mi : MI} {z1 : Int} {z2 : Int} {z3 : Int} {r : RT} {w : (Int × Int) ⊕ (Int)} (g : gL E o)  (h : fModel_garageFor_l5 z1 z2 z3 s = some w) (hK : Sum.elim (qModel_garageFor_l5 G E o mi z1 s r) (kModel_garageFor_l5 G E o mi z1 s r) w) : qModel_garageFor_l5 G E o mi z1 s r (z2, z3) := by
  have hN1 := g.1
  have hN2 := g.2.1
  unfold fModel_garageFor_l5 at h
  show sM (xModel_garageFor G) 5 [some (.inr o), some (.inl z1), some (.inl z2), some (.inl z3), none, none] [] E (sm_gl o 10 s mi) r
  refine sm_iload_n dX10_garageFor_5 rfl ?_
  refine sm_aload_n dX10_garageFor_6 rfl ?_
  refine sm_getR lf_RX10_7 fR_7_0 g.2.2.1 (by omega) g.2.2.2.1.2 dX10_garageFor_7 ?_
  refine sm_bipush dX10_garageFor_10 rfl ?_
  refine sl_ialdk (D := 1) (k := 8) g.2.2.2.1.1 rfl (by omega) hN2 ⟨by decide, by decide⟩ dX10_garageFor_12 ?_
  refine sc_icmp_ge (X' := sm_w z3) (Y' := sm_w (s 1 8)) 103 dX10_garageFor_13 rfl rfl rfl (fun c27 => ?_) (fun c27 => ?_)
  · rw [if_pos c27] at h
    cases h
    exact sm_less (lv' := [none, none, some (.inl z2), none, none, none]) ⟨rfl, trivial⟩ hK
  · rw [if_neg c27] at h
    refine sm_aload_n dX10_garageFor_16 rfl ?_
    refine sm_iload_n dX10_garageFor_17 rfl ?_
    refine sm_aload_n dX10_garageFor_18 rfl ?_
    refine sm_iload_n dX10_garageFor_19 rfl ?_
    refine sm_iconst dX10_garageFor_20 ?_
    obtain ⟨p1, hp2, h⟩ := sl_bind h
    have hc3 := bModel_ofGarage (G := G) (E := E) (o := o) (s := s) (mi := mi) g  hp2
    refine sc_callV1 (avs := [.inl z3, .inl 0]) (st := [.inl z1, .inr o]) lk_RX10_117 rfl vf_X10_ofGarage hc3 ⟨(Nat.le_of_ble_eq_true rfl), (Nat.le_of_ble_eq_true rfl)⟩ ⟨rfl, (Nat.le_of_ble_eq_true rfl)⟩ g.2.2.1 (by omega) rfl dX10_garageFor_21 ?_
    obtain ⟨p4, hp5, h⟩ := sl_bind h
    have hc6 := bModel_way (G := G) (E := E) (o := o) (s := s) (mi := mi) g  hp5
    refine sc_callV1 (avs := [.inl z1, .inl p1]) (st := []) lk_RX10_53 rfl vf_X10_way hc6 ⟨(Nat.le_of_ble_eq_true rfl), (Nat.le_of_ble_eq_true rfl)⟩ ⟨rfl, (Nat.le_of_ble_eq_true rfl)⟩ g.2.2.1 (by omega) rfl dX10_garageFor_24 ?_
    refine sm_istore dX10_garageFor_27 (Nat.le_of_ble_eq_true rfl) ?_
    refine sm_iload dX10_garageFor_29 rfl ?_
    refine sm_ldc (v := 100000) rfl lc_RX10_52 dX10_garageFor_31 ?_
    refine sc_icmp_ge (X' := sm_w p4) (Y' := 100000) 61 dX10_garageFor_33 rfl rfl (by decide) (fun c26 => ?_) (fun c26 => ?_)
    · rw [if_pos c26] at h
      exact sm_less (lv' := [some (.inr o), some (.inl z1), some (.inl z2), some (.inl z3), some (.inl p4), none]) ⟨rfl, rfl, rfl, rfl, rfl, trivial⟩ (bModel_garageFor_j61_l5 g   h hK)
    · rw [if_neg c26] at h
      refine sm_aload_n dX10_garageFor_36 rfl ?_
      refine sm_iload_n dX10_garageFor_37 rfl ?_
      refine sm_iconst dX10_garageFor_38 ?_
      obtain ⟨p16, hp17, h⟩ := sl_bind h
      have hc18 := bModel_ofGarage (G := G) (E := E) (o := o) (s := s) (mi := mi) g  hp17
      refine sc_callV1 (avs := [.inl z3, .inl 2]) (st := []) lk_RX10_117 rfl vf_X10_ofGarage hc18 ⟨(Nat.le_of_ble_eq_true rfl), (Nat.le_of_ble_eq_true rfl)⟩ ⟨rfl, (Nat.le_of_ble_eq_true rfl)⟩ g.2.2.1 (by omega) rfl dX10_garageFor_39 ?_
      refine sm_aload_n dX10_garageFor_42 rfl ?_
      refine sm_iload_n dX10_garageFor_43 rfl ?_
      obtain ⟨p19, hp20, h⟩ := sl_bind h
      have hc21 := bModel_underWay (G := G) (E := E) (o := o) (s := s) (mi := mi) g  hp20
      refine sc_callV1 (avs := [.inl z3]) (st := [.inl p16]) lk_RX10_120 rfl vf_X10_underWay hc21 ⟨(Nat.le_of_ble_eq_true rfl), (Nat.le_of_ble_eq_true rfl)⟩ ⟨rfl, (Nat.le_of_ble_eq_true rfl)⟩ g.2.2.1 (by omega) rfl dX10_garageFor_44 ?_
      refine sm_iadd dX10_garageFor_47 ?_
      refine sm_aload_n dX10_garageFor_48 rfl ?_
      refine sm_iload_n dX10_garageFor_49 rfl ?_
      refine sm_iconst dX10_garageFor_50 ?_
      obtain ⟨p22, hp23, h⟩ := sl_bind h
      have hc24 := bModel_ofGarage (G := G) (E := E) (o := o) (s := s) (mi := mi) g  hp23
      refine sc_callV1 (avs := [.inl z3, .inl 1]) (st := [.inl (p16 + p19)]) lk_RX10_117 rfl vf_X10_ofGarage hc24 ⟨(Nat.le_of_ble_eq_true rfl), (Nat.le_of_ble_eq_true rfl)⟩ ⟨rfl, (Nat.le_of_ble_eq_true rfl)⟩ g.2.2.1 (by omega) rfl dX10_garageFor_51 ?_
      refine sc_icmp_ge (X' := sm_w (p16 + p19)) (Y' := sm_w p22) 61 dX10_garageFor_54 rfl rfl rfl (fun c25 => ?_) (fun c25 => ?_)
      · rw [if_pos c25] at h
        exact sm_less (lv' := [some (.inr o), some (.inl z1), some (.inl z2), some (.inl z3), some (.inl p4), none]) ⟨rfl, rfl, rfl, rfl, rfl, trivial⟩ (bModel_garageFor_j61_l5 g   h hK)
      · rw [if_neg c25] at h
        refine sm_iconst dX10_garageFor_57 ?_
        refine sm_goto 62 dX10_garageFor_58 rfl ?_
        exact sm_less (lv' := [some (.inr o), some (.inl z1), some (.inl z2), some (.inl z3), some (.inl p4), none]) ⟨rfl, rfl, rfl, rfl, rfl, trivial⟩ (bModel_garageFor_j62_l5 g   h hK)
def fModel_garageFor (z1 : Int) (s : MI) : Option (Int) :=
  Option.bind (sl_it (fun (t : Int × Int) => fModel_garageFor_l5 z1 t.1 t.2 s) sl_fu ((-5), 0)) (fun x30 => some x30)
set_option maxRecDepth 100000 in
set_option maxHeartbeats 4000000 in
theorem bModel_garageFor {G : GT} {E : ET} {o : Nat} {s mi : MI} {z1 : Int} {w : Int} (g : gL E o)  (h : fModel_garageFor z1 s = some w) : cN G yX10_garageFor cX10_garageFor 6 (some .int) 2 45 [.inr o, .inl z1] E (sm_gl o 10 s mi) (some (.inl w), E, (sm_gl o 10 s mi)) := by
  have hN1 := g.1
  have hN2 := g.2.1
  unfold fModel_garageFor at h
  refine sm_meth (by decide +kernel) (Nat.le_of_ble_eq_true rfl) ?_
  show sM (xModel_garageFor G) 0 [some (.inr o), some (.inl z1), none, none, none, none] [] E (sm_gl o 10 s mi) _
  refine sm_bipush dX10_garageFor_0 rfl ?_
  refine sm_istore_n dX10_garageFor_2 (Nat.le_of_ble_eq_true rfl) ?_
  refine sm_iconst dX10_garageFor_3 ?_
  refine sm_istore_n dX10_garageFor_4 (Nat.le_of_ble_eq_true rfl) ?_
  obtain ⟨x30, hy29, h⟩ := sl_bind h
  refine sm_less (lv' := [some (.inr o), some (.inl z1), some (.inl (-5)), some (.inl 0), none, none]) ⟨rfl, rfl, rfl, rfl, trivial⟩ (sl_itE (P := qModel_garageFor_l5 G E o mi z1 s _) (K := kModel_garageFor_l5 G E o mi z1 s _) (fun t q hq hk => bModel_garageFor_l5 g  hq hk) sl_fu _ x30 hy29 ?_)
  show sM (xModel_garageFor G) 103 [none, none, some (.inl x30), none, none, none] [] E (sm_gl o 10 s mi) _
  refine sm_iload_n dX10_garageFor_103 rfl ?_
  cases h
  exact sm_ireturn dX10_garageFor_104 (Or.inl rfl)
abbrev xModel_leaves (G : GT) : XT := (G, yX10_leaves.cls, cX10_leaves, 3, none, decide (yX10_leaves.name = "<init>"), 2, 44)
def fModel_leaves (z1 : Int) (s : MI) : Option (MI) :=
  Option.bind (fModel_ofPatrol z1 5 s) (fun p1 => Option.bind (fModel_laysCall p1 5 3 s) (fun p4 => Option.bind (fModel_laysCall p1 6 (-5) p4) (fun p7 => Option.bind (fModel_frees z1 p7) (fun p10 => some p10))))
set_option maxRecDepth 100000 in
set_option maxHeartbeats 4000000 in
theorem bModel_leaves {G : GT} {E : ET} {o : Nat} {s mi : MI} {z1 : Int} {w : MI} (g : gL E o)  (h : fModel_leaves z1 s = some w) : cN G yX10_leaves cX10_leaves 3 none 2 44 [.inr o, .inl z1] E (sm_gl o 10 s mi) (none, E, sm_gl o 10 w mi) := by
  have hN1 := g.1
  have hN2 := g.2.1
  unfold fModel_leaves at h
  refine sm_meth (by decide +kernel) (Nat.le_of_ble_eq_true rfl) ?_
  show sM (xModel_leaves G) 0 [some (.inr o), some (.inl z1), none] [] E (sm_gl o 10 s mi) _
  refine sm_aload_n dX10_leaves_0 rfl ?_
  refine sm_iload_n dX10_leaves_1 rfl ?_
  refine sm_iconst dX10_leaves_2 ?_
  obtain ⟨p1, hp2, h⟩ := sl_bind h
  have hc3 := bModel_ofPatrol (G := G) (E := E) (o := o) (s := s) (mi := mi) g  hp2
  refine sc_callV1 (avs := [.inl z1, .inl 5]) (st := []) lk_RX10_88 rfl vf_X10_ofPatrol hc3 ⟨(Nat.le_of_ble_eq_true rfl), (Nat.le_of_ble_eq_true rfl)⟩ ⟨rfl, (Nat.le_of_ble_eq_true rfl)⟩ g.2.2.1 (by omega) rfl dX10_leaves_3 ?_
  refine sm_istore_n dX10_leaves_6 (Nat.le_of_ble_eq_true rfl) ?_
  refine sm_aload_n dX10_leaves_7 rfl ?_
  refine sm_iload_n dX10_leaves_8 rfl ?_
  refine sm_iconst dX10_leaves_9 ?_
  refine sm_iconst dX10_leaves_10 ?_
  obtain ⟨p4, hp5, h⟩ := sl_bind h
  have hc6 := bModel_laysCall (G := G) (E := E) (o := o) (s := s) (mi := mi) g  hp5
  refine sc_callV0 (avs := [.inl p1, .inl 5, .inl 3]) (st := []) lk_RX10_82 rfl vf_X10_laysCall hc6 ⟨(Nat.le_of_ble_eq_true rfl), (Nat.le_of_ble_eq_true rfl)⟩ ⟨rfl, (Nat.le_of_ble_eq_true rfl)⟩ g.2.2.1 (by omega) rfl dX10_leaves_11 ?_
  refine sm_aload_n dX10_leaves_14 rfl ?_
  refine sm_iload_n dX10_leaves_15 rfl ?_
  refine sm_bipush dX10_leaves_16 rfl ?_
  refine sm_bipush dX10_leaves_18 rfl ?_
  obtain ⟨p7, hp8, h⟩ := sl_bind h
  have hc9 := bModel_laysCall (G := G) (E := E) (o := o) (s := p4) (mi := mi) g  hp8
  refine sc_callV0 (avs := [.inl p1, .inl 6, .inl (-5)]) (st := []) lk_RX10_82 rfl vf_X10_laysCall hc9 ⟨(Nat.le_of_ble_eq_true rfl), (Nat.le_of_ble_eq_true rfl)⟩ ⟨rfl, (Nat.le_of_ble_eq_true rfl)⟩ g.2.2.1 (by omega) rfl dX10_leaves_20 ?_
  refine sm_aload_n dX10_leaves_23 rfl ?_
  refine sm_iload_n dX10_leaves_24 rfl ?_
  obtain ⟨p10, hp11, h⟩ := sl_bind h
  have hc12 := bModel_frees (G := G) (E := E) (o := o) (s := p7) (mi := mi) g  hp11
  refine sc_callV0 (avs := [.inl z1]) (st := []) lk_RX10_68 rfl vf_X10_frees hc12 ⟨(Nat.le_of_ble_eq_true rfl), (Nat.le_of_ble_eq_true rfl)⟩ ⟨rfl, (Nat.le_of_ble_eq_true rfl)⟩ g.2.2.1 (by omega) rfl dX10_leaves_25 ?_
  cases h
  exact sm_return rfl dX10_leaves_28
abbrev xModel_tows (G : GT) : XT := (G, yX10_tows.cls, cX10_tows, 13, none, decide (yX10_tows.name = "<init>"), 3, 70)
abbrev qModel_tows_l77 (G : GT) (E : ET) (o : Nat) (mi : MI) (z1 : Int) (z2 : Int) (z3 : Int) (z4 : Int) (z5 : Int) (z6 : Int) (s : MI) (r : RT) (t : Int × Int × Int × Int) : Prop := sM (xModel_tows G) 77 [some (.inr o), some (.inl z1), some (.inl z2), some (.inl z3), some (.inl z4), some (.inl z5), some (.inl z6), some (.inl t.1), some (.inl t.2.1), some (.inl t.2.2.1), some (.inl t.2.2.2), none, none] [] E (sm_gl o 10 s mi) r
abbrev kModel_tows_l77 (G : GT) (E : ET) (o : Nat) (mi : MI) (z1 : Int) (z2 : Int) (z3 : Int) (z4 : Int) (z5 : Int) (z6 : Int) (s : MI) (r : RT) (x : Int × Int) : Prop := sM (xModel_tows G) 210 [some (.inr o), some (.inl z1), some (.inl z2), none, some (.inl z4), none, none, some (.inl x.1), some (.inl x.2), none, none, none, none] [] E (sm_gl o 10 s mi) r
def fModel_tows_j202_l77 (z1 : Int) (z2 : Int) (z3 : Int) (z4 : Int) (z5 : Int) (z6 : Int) (z7 : Int) (z8 : Int) (z10 : Int) (y0 : Int) (s : MI) : Option ((Int × Int × Int × Int) ⊕ (Int × Int)) :=
  some (.inl (z7, z8, y0, (z10 + 1)))
set_option maxRecDepth 100000 in
set_option maxHeartbeats 4000000 in
theorem bModel_tows_j202_l77 {G : GT} {E : ET} {o : Nat} {s mi : MI} {z1 : Int} {z2 : Int} {z3 : Int} {z4 : Int} {z5 : Int} {z6 : Int} {z7 : Int} {z8 : Int} {z10 : Int} {y0 : Int} {r : RT} {w : (Int × Int × Int × Int) ⊕ (Int × Int)} (g : gL E o)  (h : fModel_tows_j202_l77 z1 z2 z3 z4 z5 z6 z7 z8 z10 y0 s = some w) (hK : Sum.elim (qModel_tows_l77 G E o mi z1 z2 z3 z4 z5 z6 s r) (kModel_tows_l77 G E o mi z1 z2 z3 z4 z5 z6 s r) w) : sM (xModel_tows G) 202 [some (.inr o), some (.inl z1), some (.inl z2), some (.inl z3), some (.inl z4), some (.inl z5), some (.inl z6), some (.inl z7), some (.inl z8), none, some (.inl z10), none, none] [.inl y0] E (sm_gl o 10 s mi) r := by
  have hN1 := g.1
  have hN2 := g.2.1
  unfold fModel_tows_j202_l77 at h
  refine sm_istore dX10_tows_202 (Nat.le_of_ble_eq_true rfl) ?_
  refine sm_iinc dX10_tows_204 (Nat.le_of_ble_eq_true rfl) rfl ?_
  refine sm_goto 77 dX10_tows_207 rfl ?_
  cases h
  exact sm_less (lv' := [some (.inr o), some (.inl z1), some (.inl z2), some (.inl z3), some (.inl z4), some (.inl z5), some (.inl z6), some (.inl z7), some (.inl z8), some (.inl y0), some (.inl (z10 + 1)), none, none]) ⟨rfl, rfl, rfl, rfl, rfl, rfl, rfl, rfl, rfl, rfl, rfl, trivial⟩ hK
def fModel_tows_j201_l77 (z1 : Int) (z2 : Int) (z3 : Int) (z4 : Int) (z5 : Int) (z6 : Int) (z7 : Int) (z8 : Int) (z10 : Int) (s : MI) : Option ((Int × Int × Int × Int) ⊕ (Int × Int)) :=
  fModel_tows_j202_l77 z1 z2 z3 z4 z5 z6 z7 z8 z10 0 s
set_option maxRecDepth 100000 in
set_option maxHeartbeats 4000000 in
theorem bModel_tows_j201_l77 {G : GT} {E : ET} {o : Nat} {s mi : MI} {z1 : Int} {z2 : Int} {z3 : Int} {z4 : Int} {z5 : Int} {z6 : Int} {z7 : Int} {z8 : Int} {z10 : Int} {r : RT} {w : (Int × Int × Int × Int) ⊕ (Int × Int)} (g : gL E o)  (h : fModel_tows_j201_l77 z1 z2 z3 z4 z5 z6 z7 z8 z10 s = some w) (hK : Sum.elim (qModel_tows_l77 G E o mi z1 z2 z3 z4 z5 z6 s r) (kModel_tows_l77 G E o mi z1 z2 z3 z4 z5 z6 s r) w) : sM (xModel_tows G) 201 [some (.inr o), some (.inl z1), some (.inl z2), some (.inl z3), some (.inl z4), some (.inl z5), some (.inl z6), some (.inl z7), some (.inl z8), none, some (.inl z10), none, none] [] E (sm_gl o 10 s mi) r := by
  have hN1 := g.1
  have hN2 := g.2.1
  unfold fModel_tows_j201_l77 at h
  refine sm_iconst dX10_tows_201 ?_
  exact sm_less (lv' := [some (.inr o), some (.inl z1), some (.inl z2), some (.inl z3), some (.inl z4), some (.inl z5), some (.inl z6), some (.inl z7), some (.inl z8), none, some (.inl z10), none, none]) ⟨rfl, rfl, rfl, rfl, rfl, rfl, rfl, rfl, rfl, rfl, trivial⟩ (bModel_tows_j202_l77 g   h hK)
def fModel_tows_j185_l77 (z1 : Int) (z2 : Int) (z3 : Int) (z4 : Int) (z5 : Int) (z6 : Int) (z8 : Int) (z9 : Int) (z10 : Int) (z12 : Int) (y0 : Int) (s : MI) : Option ((Int × Int × Int × Int) ⊕ (Int × Int)) :=
  (if sm_w z9 = 0 then fModel_tows_j201_l77 z1 z2 z3 z4 z5 z6 y0 z8 z10 s else (if sm_w z12 = 0 then fModel_tows_j202_l77 z1 z2 z3 z4 z5 z6 y0 z8 z10 1 s else fModel_tows_j201_l77 z1 z2 z3 z4 z5 z6 y0 z8 z10 s))
set_option maxRecDepth 100000 in
set_option maxHeartbeats 4000000 in
theorem bModel_tows_j185_l77 {G : GT} {E : ET} {o : Nat} {s mi : MI} {z1 : Int} {z2 : Int} {z3 : Int} {z4 : Int} {z5 : Int} {z6 : Int} {z8 : Int} {z9 : Int} {z10 : Int} {z12 : Int} {y0 : Int} {r : RT} {w : (Int × Int × Int × Int) ⊕ (Int × Int)} (g : gL E o)  (h : fModel_tows_j185_l77 z1 z2 z3 z4 z5 z6 z8 z9 z10 z12 y0 s = some w) (hK : Sum.elim (qModel_tows_l77 G E o mi z1 z2 z3 z4 z5 z6 s r) (kModel_tows_l77 G E o mi z1 z2 z3 z4 z5 z6 s r) w) : sM (xModel_tows G) 185 [some (.inr o), some (.inl z1), some (.inl z2), some (.inl z3), some (.inl z4), some (.inl z5), some (.inl z6), none, some (.inl z8), some (.inl z9), some (.inl z10), none, some (.inl z12)] [.inl y0] E (sm_gl o 10 s mi) r := by
  have hN1 := g.1
  have hN2 := g.2.1
  unfold fModel_tows_j185_l77 at h
  refine sm_istore dX10_tows_185 (Nat.le_of_ble_eq_true rfl) ?_
  refine sm_iload dX10_tows_187 rfl ?_
  refine sm_if_eq 201 dX10_tows_189 rfl (fun c29 => ?_) (fun c29 => ?_)
  · rw [if_pos c29] at h
    exact sm_less (lv' := [some (.inr o), some (.inl z1), some (.inl z2), some (.inl z3), some (.inl z4), some (.inl z5), some (.inl z6), some (.inl y0), some (.inl z8), none, some (.inl z10), none, none]) ⟨rfl, rfl, rfl, rfl, rfl, rfl, rfl, rfl, rfl, rfl, trivial⟩ (bModel_tows_j201_l77 g   h hK)
  · rw [if_neg c29] at h
    refine sm_iload dX10_tows_192 rfl ?_
    refine sm_if_ne 201 dX10_tows_194 rfl (fun c28 => ?_) (fun c28 => ?_)
    · rw [if_neg c28] at h
      exact sm_less (lv' := [some (.inr o), some (.inl z1), some (.inl z2), some (.inl z3), some (.inl z4), some (.inl z5), some (.inl z6), some (.inl y0), some (.inl z8), none, some (.inl z10), none, none]) ⟨rfl, rfl, rfl, rfl, rfl, rfl, rfl, rfl, rfl, rfl, trivial⟩ (bModel_tows_j201_l77 g   h hK)
    · rw [if_pos c28] at h
      refine sm_iconst dX10_tows_197 ?_
      refine sm_goto 202 dX10_tows_198 rfl ?_
      exact sm_less (lv' := [some (.inr o), some (.inl z1), some (.inl z2), some (.inl z3), some (.inl z4), some (.inl z5), some (.inl z6), some (.inl y0), some (.inl z8), none, some (.inl z10), none, none]) ⟨rfl, rfl, rfl, rfl, rfl, rfl, rfl, rfl, rfl, rfl, trivial⟩ (bModel_tows_j202_l77 g   h hK)
def fModel_tows_j171_l77 (z1 : Int) (z2 : Int) (z3 : Int) (z4 : Int) (z5 : Int) (z6 : Int) (z7 : Int) (z8 : Int) (z9 : Int) (z10 : Int) (z11 : Int) (y0 : Int) (s : MI) : Option ((Int × Int × Int × Int) ⊕ (Int × Int)) :=
  (if sm_w z9 = 0 then fModel_tows_j185_l77 z1 z2 z3 z4 z5 z6 z8 z9 z10 y0 z7 s else fModel_tows_j185_l77 z1 z2 z3 z4 z5 z6 z8 z9 z10 y0 z11 s)
set_option maxRecDepth 100000 in
set_option maxHeartbeats 4000000 in
theorem bModel_tows_j171_l77 {G : GT} {E : ET} {o : Nat} {s mi : MI} {z1 : Int} {z2 : Int} {z3 : Int} {z4 : Int} {z5 : Int} {z6 : Int} {z7 : Int} {z8 : Int} {z9 : Int} {z10 : Int} {z11 : Int} {y0 : Int} {r : RT} {w : (Int × Int × Int × Int) ⊕ (Int × Int)} (g : gL E o)  (h : fModel_tows_j171_l77 z1 z2 z3 z4 z5 z6 z7 z8 z9 z10 z11 y0 s = some w) (hK : Sum.elim (qModel_tows_l77 G E o mi z1 z2 z3 z4 z5 z6 s r) (kModel_tows_l77 G E o mi z1 z2 z3 z4 z5 z6 s r) w) : sM (xModel_tows G) 171 [some (.inr o), some (.inl z1), some (.inl z2), some (.inl z3), some (.inl z4), some (.inl z5), some (.inl z6), some (.inl z7), some (.inl z8), some (.inl z9), some (.inl z10), some (.inl z11), none] [.inl y0] E (sm_gl o 10 s mi) r := by
  have hN1 := g.1
  have hN2 := g.2.1
  unfold fModel_tows_j171_l77 at h
  refine sm_istore dX10_tows_171 (Nat.le_of_ble_eq_true rfl) ?_
  refine sm_iload dX10_tows_173 rfl ?_
  refine sm_if_eq 183 dX10_tows_175 rfl (fun c30 => ?_) (fun c30 => ?_)
  · rw [if_pos c30] at h
    refine sm_iload dX10_tows_183 rfl ?_
    exact sm_less (lv' := [some (.inr o), some (.inl z1), some (.inl z2), some (.inl z3), some (.inl z4), some (.inl z5), some (.inl z6), none, some (.inl z8), some (.inl z9), some (.inl z10), none, some (.inl y0)]) ⟨rfl, rfl, rfl, rfl, rfl, rfl, rfl, rfl, rfl, rfl, rfl, trivial⟩ (bModel_tows_j185_l77 g   h hK)
  · rw [if_neg c30] at h
    refine sm_iload dX10_tows_178 rfl ?_
    refine sm_goto 185 dX10_tows_180 rfl ?_
    exact sm_less (lv' := [some (.inr o), some (.inl z1), some (.inl z2), some (.inl z3), some (.inl z4), some (.inl z5), some (.inl z6), none, some (.inl z8), some (.inl z9), some (.inl z10), none, some (.inl y0)]) ⟨rfl, rfl, rfl, rfl, rfl, rfl, rfl, rfl, rfl, rfl, rfl, trivial⟩ (bModel_tows_j185_l77 g   h hK)
def fModel_tows_j166_l77 (z1 : Int) (z2 : Int) (z3 : Int) (z4 : Int) (z5 : Int) (z6 : Int) (z7 : Int) (z8 : Int) (z9 : Int) (z10 : Int) (z11 : Int) (s : MI) : Option ((Int × Int × Int × Int) ⊕ (Int × Int)) :=
  fModel_tows_j171_l77 z1 z2 z3 z4 z5 z6 z7 z8 z9 z10 z11 1 s
set_option maxRecDepth 100000 in
set_option maxHeartbeats 4000000 in
theorem bModel_tows_j166_l77 {G : GT} {E : ET} {o : Nat} {s mi : MI} {z1 : Int} {z2 : Int} {z3 : Int} {z4 : Int} {z5 : Int} {z6 : Int} {z7 : Int} {z8 : Int} {z9 : Int} {z10 : Int} {z11 : Int} {r : RT} {w : (Int × Int × Int × Int) ⊕ (Int × Int)} (g : gL E o)  (h : fModel_tows_j166_l77 z1 z2 z3 z4 z5 z6 z7 z8 z9 z10 z11 s = some w) (hK : Sum.elim (qModel_tows_l77 G E o mi z1 z2 z3 z4 z5 z6 s r) (kModel_tows_l77 G E o mi z1 z2 z3 z4 z5 z6 s r) w) : sM (xModel_tows G) 166 [some (.inr o), some (.inl z1), some (.inl z2), some (.inl z3), some (.inl z4), some (.inl z5), some (.inl z6), some (.inl z7), some (.inl z8), some (.inl z9), some (.inl z10), some (.inl z11), none] [] E (sm_gl o 10 s mi) r := by
  have hN1 := g.1
  have hN2 := g.2.1
  unfold fModel_tows_j166_l77 at h
  refine sm_iconst dX10_tows_166 ?_
  refine sm_goto 171 dX10_tows_167 rfl ?_
  exact sm_less (lv' := [some (.inr o), some (.inl z1), some (.inl z2), some (.inl z3), some (.inl z4), some (.inl z5), some (.inl z6), some (.inl z7), some (.inl z8), some (.inl z9), some (.inl z10), some (.inl z11), none]) ⟨rfl, rfl, rfl, rfl, rfl, rfl, rfl, rfl, rfl, rfl, rfl, rfl, trivial⟩ (bModel_tows_j171_l77 g   h hK)
def fModel_tows_j146_l77 (z1 : Int) (z2 : Int) (z3 : Int) (z4 : Int) (z5 : Int) (z6 : Int) (z7 : Int) (z9 : Int) (z10 : Int) (z11 : Int) (y0 : Int) (y1 : Int) (s : MI) : Option ((Int × Int × Int × Int) ⊕ (Int × Int)) :=
  Option.bind (fModel_region z11) (fun p25 => (if sm_w p25 = sm_w z6 then (if sm_w z11 = sm_w z5 then fModel_tows_j166_l77 z1 z2 z3 z4 z5 z6 z7 (y0 + y1) z9 z10 z11 s else fModel_tows_j171_l77 z1 z2 z3 z4 z5 z6 z7 (y0 + y1) z9 z10 z11 0 s) else fModel_tows_j166_l77 z1 z2 z3 z4 z5 z6 z7 (y0 + y1) z9 z10 z11 s))
set_option maxRecDepth 100000 in
set_option maxHeartbeats 4000000 in
theorem bModel_tows_j146_l77 {G : GT} {E : ET} {o : Nat} {s mi : MI} {z1 : Int} {z2 : Int} {z3 : Int} {z4 : Int} {z5 : Int} {z6 : Int} {z7 : Int} {z9 : Int} {z10 : Int} {z11 : Int} {y0 : Int} {y1 : Int} {r : RT} {w : (Int × Int × Int × Int) ⊕ (Int × Int)} (g : gL E o)  (h : fModel_tows_j146_l77 z1 z2 z3 z4 z5 z6 z7 z9 z10 z11 y0 y1 s = some w) (hK : Sum.elim (qModel_tows_l77 G E o mi z1 z2 z3 z4 z5 z6 s r) (kModel_tows_l77 G E o mi z1 z2 z3 z4 z5 z6 s r) w) : sM (xModel_tows G) 146 [some (.inr o), some (.inl z1), some (.inl z2), some (.inl z3), some (.inl z4), some (.inl z5), some (.inl z6), some (.inl z7), none, some (.inl z9), some (.inl z10), some (.inl z11), none] [.inl y1, .inl y0] E (sm_gl o 10 s mi) r := by
  have hN1 := g.1
  have hN2 := g.2.1
  unfold fModel_tows_j146_l77 at h
  refine sm_iadd dX10_tows_146 ?_
  refine sm_istore dX10_tows_147 (Nat.le_of_ble_eq_true rfl) ?_
  refine sm_iload dX10_tows_149 rfl ?_
  obtain ⟨p25, hp26, h⟩ := sl_bind h
  have hc27 := bModel_region (G := G) (E := E) (mi := (sm_gl o 10 s mi))   hp26
  refine sc_callS1 (avs := [.inl z11]) (st := []) lk_RX10_129 rfl sf_X10_region hc27 ⟨(Nat.le_of_ble_eq_true rfl), (Nat.le_of_ble_eq_true rfl)⟩ ⟨rfl, (Nat.le_of_ble_eq_true rfl)⟩ rfl dX10_tows_151 ?_
  refine sm_iload dX10_tows_154 rfl ?_
  refine sc_icmp_ne (X' := sm_w p25) (Y' := sm_w z6) 166 dX10_tows_156 rfl rfl rfl (fun c32 => ?_) (fun c32 => ?_)
  · rw [if_neg c32] at h
    exact sm_less (lv' := [some (.inr o), some (.inl z1), some (.inl z2), some (.inl z3), some (.inl z4), some (.inl z5), some (.inl z6), some (.inl z7), some (.inl (y0 + y1)), some (.inl z9), some (.inl z10), some (.inl z11), none]) ⟨rfl, rfl, rfl, rfl, rfl, rfl, rfl, rfl, rfl, rfl, rfl, rfl, trivial⟩ (bModel_tows_j166_l77 g   h hK)
  · rw [if_pos c32] at h
    refine sm_iload dX10_tows_159 rfl ?_
    refine sm_iload dX10_tows_161 rfl ?_
    refine sc_icmp_ne (X' := sm_w z11) (Y' := sm_w z5) 170 dX10_tows_163 rfl rfl rfl (fun c31 => ?_) (fun c31 => ?_)
    · rw [if_neg c31] at h
      refine sm_iconst dX10_tows_170 ?_
      exact sm_less (lv' := [some (.inr o), some (.inl z1), some (.inl z2), some (.inl z3), some (.inl z4), some (.inl z5), some (.inl z6), some (.inl z7), some (.inl (y0 + y1)), some (.inl z9), some (.inl z10), some (.inl z11), none]) ⟨rfl, rfl, rfl, rfl, rfl, rfl, rfl, rfl, rfl, rfl, rfl, rfl, trivial⟩ (bModel_tows_j171_l77 g   h hK)
    · rw [if_pos c31] at h
      exact sm_less (lv' := [some (.inr o), some (.inl z1), some (.inl z2), some (.inl z3), some (.inl z4), some (.inl z5), some (.inl z6), some (.inl z7), some (.inl (y0 + y1)), some (.inl z9), some (.inl z10), some (.inl z11), none]) ⟨rfl, rfl, rfl, rfl, rfl, rfl, rfl, rfl, rfl, rfl, rfl, rfl, trivial⟩ (bModel_tows_j166_l77 g   h hK)
def fModel_tows_j120_l77 (z1 : Int) (z2 : Int) (z3 : Int) (z4 : Int) (z5 : Int) (z6 : Int) (z7 : Int) (z8 : Int) (z10 : Int) (z11 : Int) (y0 : Int) (s : MI) : Option ((Int × Int × Int × Int) ⊕ (Int × Int)) :=
  (if sm_w y0 = 0 then fModel_tows_j146_l77 z1 z2 z3 z4 z5 z6 z7 y0 z10 z11 z8 0 s else if 0 ≤ sm_w ((12 * z7) + z11) ∧ sm_w ((12 * z7) + z11) < 144 then fModel_tows_j146_l77 z1 z2 z3 z4 z5 z6 z7 y0 z10 z11 z8 (s 6 (sm_w ((12 * z7) + z11)).toNat) s else none)
set_option maxRecDepth 100000 in
set_option maxHeartbeats 4000000 in
theorem bModel_tows_j120_l77 {G : GT} {E : ET} {o : Nat} {s mi : MI} {z1 : Int} {z2 : Int} {z3 : Int} {z4 : Int} {z5 : Int} {z6 : Int} {z7 : Int} {z8 : Int} {z10 : Int} {z11 : Int} {y0 : Int} {r : RT} {w : (Int × Int × Int × Int) ⊕ (Int × Int)} (g : gL E o)  (h : fModel_tows_j120_l77 z1 z2 z3 z4 z5 z6 z7 z8 z10 z11 y0 s = some w) (hK : Sum.elim (qModel_tows_l77 G E o mi z1 z2 z3 z4 z5 z6 s r) (kModel_tows_l77 G E o mi z1 z2 z3 z4 z5 z6 s r) w) : sM (xModel_tows G) 120 [some (.inr o), some (.inl z1), some (.inl z2), some (.inl z3), some (.inl z4), some (.inl z5), some (.inl z6), some (.inl z7), some (.inl z8), none, some (.inl z10), some (.inl z11), none] [.inl y0] E (sm_gl o 10 s mi) r := by
  have hN1 := g.1
  have hN2 := g.2.1
  unfold fModel_tows_j120_l77 at h
  refine sm_istore dX10_tows_120 (Nat.le_of_ble_eq_true rfl) ?_
  refine sm_iload dX10_tows_122 rfl ?_
  refine sm_iload dX10_tows_124 rfl ?_
  refine sm_if_eq 145 dX10_tows_126 rfl (fun c34 => ?_) (fun c34 => ?_)
  · rw [if_pos c34] at h
    refine sm_iconst dX10_tows_145 ?_
    exact sm_less (lv' := [some (.inr o), some (.inl z1), some (.inl z2), some (.inl z3), some (.inl z4), some (.inl z5), some (.inl z6), some (.inl z7), none, some (.inl y0), some (.inl z10), some (.inl z11), none]) ⟨rfl, rfl, rfl, rfl, rfl, rfl, rfl, rfl, rfl, rfl, rfl, trivial⟩ (bModel_tows_j146_l77 g   h hK)
  · rw [if_neg c34] at h
    refine sm_aload_n dX10_tows_129 rfl ?_
    refine sm_getR lf_RX10_25 fR_7_8 g.2.2.1 (by omega) g.2.2.2.2.2.2.2.2.1.2 dX10_tows_130 ?_
    refine sm_bipush dX10_tows_133 rfl ?_
    refine sm_iload dX10_tows_135 rfl ?_
    refine sm_imul dX10_tows_137 ?_
    refine sm_iload dX10_tows_138 rfl ?_
    refine sm_iadd dX10_tows_140 ?_
    obtain ⟨q33, h⟩ := sl_guard h
    have xq33 := (sl_ix (m := 144) q33).2
    refine sl_ialdk (D := 6) (k := (sm_w ((12 * z7) + z11)).toNat) g.2.2.2.2.2.2.2.2.1.1 rfl (by omega) hN2 (sl_ix (m := 144) q33) dX10_tows_141 ?_
    refine sm_goto 146 dX10_tows_142 rfl ?_
    exact sm_less (lv' := [some (.inr o), some (.inl z1), some (.inl z2), some (.inl z3), some (.inl z4), some (.inl z5), some (.inl z6), some (.inl z7), none, some (.inl y0), some (.inl z10), some (.inl z11), none]) ⟨rfl, rfl, rfl, rfl, rfl, rfl, rfl, rfl, rfl, rfl, rfl, trivial⟩ (bModel_tows_j146_l77 g   h hK)
def fModel_tows_j115_l77 (z1 : Int) (z2 : Int) (z3 : Int) (z4 : Int) (z5 : Int) (z6 : Int) (z7 : Int) (z8 : Int) (z10 : Int) (z11 : Int) (s : MI) : Option ((Int × Int × Int × Int) ⊕ (Int × Int)) :=
  fModel_tows_j120_l77 z1 z2 z3 z4 z5 z6 z7 z8 z10 z11 1 s
set_option maxRecDepth 100000 in
set_option maxHeartbeats 4000000 in
theorem bModel_tows_j115_l77 {G : GT} {E : ET} {o : Nat} {s mi : MI} {z1 : Int} {z2 : Int} {z3 : Int} {z4 : Int} {z5 : Int} {z6 : Int} {z7 : Int} {z8 : Int} {z10 : Int} {z11 : Int} {r : RT} {w : (Int × Int × Int × Int) ⊕ (Int × Int)} (g : gL E o)  (h : fModel_tows_j115_l77 z1 z2 z3 z4 z5 z6 z7 z8 z10 z11 s = some w) (hK : Sum.elim (qModel_tows_l77 G E o mi z1 z2 z3 z4 z5 z6 s r) (kModel_tows_l77 G E o mi z1 z2 z3 z4 z5 z6 s r) w) : sM (xModel_tows G) 115 [some (.inr o), some (.inl z1), some (.inl z2), some (.inl z3), some (.inl z4), some (.inl z5), some (.inl z6), some (.inl z7), some (.inl z8), none, some (.inl z10), some (.inl z11), none] [] E (sm_gl o 10 s mi) r := by
  have hN1 := g.1
  have hN2 := g.2.1
  unfold fModel_tows_j115_l77 at h
  refine sm_iconst dX10_tows_115 ?_
  refine sm_goto 120 dX10_tows_116 rfl ?_
  exact sm_less (lv' := [some (.inr o), some (.inl z1), some (.inl z2), some (.inl z3), some (.inl z4), some (.inl z5), some (.inl z6), some (.inl z7), some (.inl z8), none, some (.inl z10), some (.inl z11), none]) ⟨rfl, rfl, rfl, rfl, rfl, rfl, rfl, rfl, rfl, rfl, rfl, trivial⟩ (bModel_tows_j120_l77 g   h hK)
def fModel_tows_l77 (z1 : Int) (z2 : Int) (z3 : Int) (z4 : Int) (z5 : Int) (z6 : Int) (z7 : Int) (z8 : Int) (z9 : Int) (z10 : Int) (s : MI) : Option ((Int × Int × Int × Int) ⊕ (Int × Int)) :=
  (if 12 ≤ sm_w z10 then some (.inr (z7, z8)) else (if sm_w z9 = 0 then some (.inr (z7, z8)) else Option.bind (fModel_nextOn z7 z5 s) (fun p19 => Option.bind (fModel_region p19) (fun p22 => (if sm_w p22 = sm_w z6 then fModel_tows_j115_l77 z1 z2 z3 z4 z5 z6 z7 z8 z10 p19 s else (if sm_w z7 = sm_w z3 then fModel_tows_j115_l77 z1 z2 z3 z4 z5 z6 z7 z8 z10 p19 s else fModel_tows_j120_l77 z1 z2 z3 z4 z5 z6 z7 z8 z10 p19 0 s))))))
set_option maxRecDepth 100000 in
set_option maxHeartbeats 4000000 in
theorem bModel_tows_l77 {G : GT} {E : ET} {o : Nat} {s mi : MI} {z1 : Int} {z2 : Int} {z3 : Int} {z4 : Int} {z5 : Int} {z6 : Int} {z7 : Int} {z8 : Int} {z9 : Int} {z10 : Int} {r : RT} {w : (Int × Int × Int × Int) ⊕ (Int × Int)} (g : gL E o)  (h : fModel_tows_l77 z1 z2 z3 z4 z5 z6 z7 z8 z9 z10 s = some w) (hK : Sum.elim (qModel_tows_l77 G E o mi z1 z2 z3 z4 z5 z6 s r) (kModel_tows_l77 G E o mi z1 z2 z3 z4 z5 z6 s r) w) : qModel_tows_l77 G E o mi z1 z2 z3 z4 z5 z6 s r (z7, z8, z9, z10) := by
  have hN1 := g.1
  have hN2 := g.2.1
  unfold fModel_tows_l77 at h
  show sM (xModel_tows G) 77 [some (.inr o), some (.inl z1), some (.inl z2), some (.inl z3), some (.inl z4), some (.inl z5), some (.inl z6), some (.inl z7), some (.inl z8), some (.inl z9), some (.inl z10), none, none] [] E (sm_gl o 10 s mi) r
  refine sm_iload dX10_tows_77 rfl ?_
  refine sm_bipush dX10_tows_79 rfl ?_
  refine sc_icmp_ge (X' := sm_w z10) (Y' := 12) 210 dX10_tows_81 rfl rfl (by decide) (fun c38 => ?_) (fun c38 => ?_)
  · rw [if_pos c38] at h
    cases h
    exact sm_less (lv' := [some (.inr o), some (.inl z1), some (.inl z2), none, some (.inl z4), none, none, some (.inl z7), some (.inl z8), none, none, none, none]) ⟨rfl, rfl, rfl, rfl, rfl, rfl, trivial⟩ hK
  · rw [if_neg c38] at h
    refine sm_iload dX10_tows_84 rfl ?_
    refine sm_if_eq 210 dX10_tows_86 rfl (fun c37 => ?_) (fun c37 => ?_)
    · rw [if_pos c37] at h
      cases h
      exact sm_less (lv' := [some (.inr o), some (.inl z1), some (.inl z2), none, some (.inl z4), none, none, some (.inl z7), some (.inl z8), none, none, none, none]) ⟨rfl, rfl, rfl, rfl, rfl, rfl, trivial⟩ hK
    · rw [if_neg c37] at h
      refine sm_aload_n dX10_tows_89 rfl ?_
      refine sm_iload dX10_tows_90 rfl ?_
      refine sm_iload dX10_tows_92 rfl ?_
      obtain ⟨p19, hp20, h⟩ := sl_bind h
      have hc21 := bModel_nextOn (G := G) (E := E) (o := o) (s := s) (mi := mi) g  hp20
      refine sc_callV1 (avs := [.inl z7, .inl z5]) (st := []) lk_RX10_132 rfl vf_X10_nextOn hc21 ⟨(Nat.le_of_ble_eq_true rfl), (Nat.le_of_ble_eq_true rfl)⟩ ⟨rfl, (Nat.le_of_ble_eq_true rfl)⟩ g.2.2.1 (by omega) rfl dX10_tows_94 ?_
      refine sm_istore dX10_tows_97 (Nat.le_of_ble_eq_true rfl) ?_
      refine sm_iload dX10_tows_99 rfl ?_
      obtain ⟨p22, hp23, h⟩ := sl_bind h
      have hc24 := bModel_region (G := G) (E := E) (mi := (sm_gl o 10 s mi))   hp23
      refine sc_callS1 (avs := [.inl p19]) (st := []) lk_RX10_129 rfl sf_X10_region hc24 ⟨(Nat.le_of_ble_eq_true rfl), (Nat.le_of_ble_eq_true rfl)⟩ ⟨rfl, (Nat.le_of_ble_eq_true rfl)⟩ rfl dX10_tows_101 ?_
      refine sm_iload dX10_tows_104 rfl ?_
      refine sc_icmp_eq (X' := sm_w p22) (Y' := sm_w z6) 115 dX10_tows_106 rfl rfl rfl (fun c36 => ?_) (fun c36 => ?_)
      · rw [if_pos c36] at h
        exact sm_less (lv' := [some (.inr o), some (.inl z1), some (.inl z2), some (.inl z3), some (.inl z4), some (.inl z5), some (.inl z6), some (.inl z7), some (.inl z8), none, some (.inl z10), some (.inl p19), none]) ⟨rfl, rfl, rfl, rfl, rfl, rfl, rfl, rfl, rfl, rfl, rfl, trivial⟩ (bModel_tows_j115_l77 g   h hK)
      · rw [if_neg c36] at h
        refine sm_iload dX10_tows_109 rfl ?_
        refine sm_iload_n dX10_tows_111 rfl ?_
        refine sc_icmp_ne (X' := sm_w z7) (Y' := sm_w z3) 119 dX10_tows_112 rfl rfl rfl (fun c35 => ?_) (fun c35 => ?_)
        · rw [if_neg c35] at h
          refine sm_iconst dX10_tows_119 ?_
          exact sm_less (lv' := [some (.inr o), some (.inl z1), some (.inl z2), some (.inl z3), some (.inl z4), some (.inl z5), some (.inl z6), some (.inl z7), some (.inl z8), none, some (.inl z10), some (.inl p19), none]) ⟨rfl, rfl, rfl, rfl, rfl, rfl, rfl, rfl, rfl, rfl, rfl, trivial⟩ (bModel_tows_j120_l77 g   h hK)
        · rw [if_pos c35] at h
          exact sm_less (lv' := [some (.inr o), some (.inl z1), some (.inl z2), some (.inl z3), some (.inl z4), some (.inl z5), some (.inl z6), some (.inl z7), some (.inl z8), none, some (.inl z10), some (.inl p19), none]) ⟨rfl, rfl, rfl, rfl, rfl, rfl, rfl, rfl, rfl, rfl, rfl, trivial⟩ (bModel_tows_j115_l77 g   h hK)
def fModel_tows_j234 (z1 : Int) (z2 : Int) (z4 : Int) (z7 : Int) (y1 : Int) (y2 : Int) (y3 : Int) (s : MI) : Option (MI) :=
  Option.bind (fModel_laysPatrol y1 y2 y3 s) (fun p45 => Option.bind (fModel_laysPatrol z1 12 z7 p45) (fun p48 => Option.bind (fModel_laysPatrol z1 13 z4 p48) (fun p51 => Option.bind (fModel_laysCall z2 5 4 p51) (fun p54 => Option.bind (fModel_laysCall z2 6 z1 p54) (fun p57 => some p57)))))
set_option maxRecDepth 100000 in
set_option maxHeartbeats 4000000 in
theorem bModel_tows_j234 {G : GT} {E : ET} {o : Nat} {s mi : MI} {z1 : Int} {z2 : Int} {z4 : Int} {z7 : Int} {y1 : Int} {y2 : Int} {y3 : Int} {w : MI} (g : gL E o)  (h : fModel_tows_j234 z1 z2 z4 z7 y1 y2 y3 s = some w) : sM (xModel_tows G) 234 [some (.inr o), some (.inl z1), some (.inl z2), none, some (.inl z4), none, none, some (.inl z7), none, none, none, none, none] [.inl y3, .inl y2, .inl y1, .inr o] E (sm_gl o 10 s mi) (none, E, sm_gl o 10 w mi) := by
  have hN1 := g.1
  have hN2 := g.2.1
  unfold fModel_tows_j234 at h
  obtain ⟨p45, hp46, h⟩ := sl_bind h
  have hc47 := bModel_laysPatrol (G := G) (E := E) (o := o) (s := s) (mi := mi) g  hp46
  refine sc_callV0 (avs := [.inl y1, .inl y2, .inl y3]) (st := []) lk_RX10_64 rfl vf_X10_laysPatrol hc47 ⟨(Nat.le_of_ble_eq_true rfl), (Nat.le_of_ble_eq_true rfl)⟩ ⟨rfl, (Nat.le_of_ble_eq_true rfl)⟩ g.2.2.1 (by omega) rfl dX10_tows_234 ?_
  refine sm_aload_n dX10_tows_237 rfl ?_
  refine sm_iload_n dX10_tows_238 rfl ?_
  refine sm_bipush dX10_tows_239 rfl ?_
  refine sm_iload dX10_tows_241 rfl ?_
  obtain ⟨p48, hp49, h⟩ := sl_bind h
  have hc50 := bModel_laysPatrol (G := G) (E := E) (o := o) (s := p45) (mi := mi) g  hp49
  refine sc_callV0 (avs := [.inl z1, .inl 12, .inl z7]) (st := []) lk_RX10_64 rfl vf_X10_laysPatrol hc50 ⟨(Nat.le_of_ble_eq_true rfl), (Nat.le_of_ble_eq_true rfl)⟩ ⟨rfl, (Nat.le_of_ble_eq_true rfl)⟩ g.2.2.1 (by omega) rfl dX10_tows_243 ?_
  refine sm_aload_n dX10_tows_246 rfl ?_
  refine sm_iload_n dX10_tows_247 rfl ?_
  refine sm_bipush dX10_tows_248 rfl ?_
  refine sm_iload dX10_tows_250 rfl ?_
  obtain ⟨p51, hp52, h⟩ := sl_bind h
  have hc53 := bModel_laysPatrol (G := G) (E := E) (o := o) (s := p48) (mi := mi) g  hp52
  refine sc_callV0 (avs := [.inl z1, .inl 13, .inl z4]) (st := []) lk_RX10_64 rfl vf_X10_laysPatrol hc53 ⟨(Nat.le_of_ble_eq_true rfl), (Nat.le_of_ble_eq_true rfl)⟩ ⟨rfl, (Nat.le_of_ble_eq_true rfl)⟩ g.2.2.1 (by omega) rfl dX10_tows_252 ?_
  refine sm_aload_n dX10_tows_255 rfl ?_
  refine sm_iload_n dX10_tows_256 rfl ?_
  refine sm_iconst dX10_tows_257 ?_
  refine sm_iconst dX10_tows_258 ?_
  obtain ⟨p54, hp55, h⟩ := sl_bind h
  have hc56 := bModel_laysCall (G := G) (E := E) (o := o) (s := p51) (mi := mi) g  hp55
  refine sc_callV0 (avs := [.inl z2, .inl 5, .inl 4]) (st := []) lk_RX10_82 rfl vf_X10_laysCall hc56 ⟨(Nat.le_of_ble_eq_true rfl), (Nat.le_of_ble_eq_true rfl)⟩ ⟨rfl, (Nat.le_of_ble_eq_true rfl)⟩ g.2.2.1 (by omega) rfl dX10_tows_259 ?_
  refine sm_aload_n dX10_tows_262 rfl ?_
  refine sm_iload_n dX10_tows_263 rfl ?_
  refine sm_bipush dX10_tows_264 rfl ?_
  refine sm_iload_n dX10_tows_266 rfl ?_
  obtain ⟨p57, hp58, h⟩ := sl_bind h
  have hc59 := bModel_laysCall (G := G) (E := E) (o := o) (s := p54) (mi := mi) g  hp58
  refine sc_callV0 (avs := [.inl z2, .inl 6, .inl z1]) (st := []) lk_RX10_82 rfl vf_X10_laysCall hc59 ⟨(Nat.le_of_ble_eq_true rfl), (Nat.le_of_ble_eq_true rfl)⟩ ⟨rfl, (Nat.le_of_ble_eq_true rfl)⟩ g.2.2.1 (by omega) rfl dX10_tows_267 ?_
  cases h
  exact sm_return rfl dX10_tows_270
def fModel_tows_j210 (z1 : Int) (z2 : Int) (z4 : Int) (z7 : Int) (z8 : Int) (s : MI) : Option (MI) :=
  Option.bind (fModel_laysPatrol z1 3 3 s) (fun p42 => (if sm_w z8 = 0 then fModel_tows_j234 z1 z2 z4 z7 z1 6 1 p42 else fModel_tows_j234 z1 z2 z4 z7 z1 6 (2 * z8) p42))
set_option maxRecDepth 100000 in
set_option maxHeartbeats 4000000 in
theorem bModel_tows_j210 {G : GT} {E : ET} {o : Nat} {s mi : MI} {z1 : Int} {z2 : Int} {z4 : Int} {z7 : Int} {z8 : Int} {w : MI} (g : gL E o)  (h : fModel_tows_j210 z1 z2 z4 z7 z8 s = some w) : sM (xModel_tows G) 210 [some (.inr o), some (.inl z1), some (.inl z2), none, some (.inl z4), none, none, some (.inl z7), some (.inl z8), none, none, none, none] [] E (sm_gl o 10 s mi) (none, E, sm_gl o 10 w mi) := by
  have hN1 := g.1
  have hN2 := g.2.1
  unfold fModel_tows_j210 at h
  refine sm_aload_n dX10_tows_210 rfl ?_
  refine sm_iload_n dX10_tows_211 rfl ?_
  refine sm_iconst dX10_tows_212 ?_
  refine sm_iconst dX10_tows_213 ?_
  obtain ⟨p42, hp43, h⟩ := sl_bind h
  have hc44 := bModel_laysPatrol (G := G) (E := E) (o := o) (s := s) (mi := mi) g  hp43
  refine sc_callV0 (avs := [.inl z1, .inl 3, .inl 3]) (st := []) lk_RX10_64 rfl vf_X10_laysPatrol hc44 ⟨(Nat.le_of_ble_eq_true rfl), (Nat.le_of_ble_eq_true rfl)⟩ ⟨rfl, (Nat.le_of_ble_eq_true rfl)⟩ g.2.2.1 (by omega) rfl dX10_tows_214 ?_
  refine sm_aload_n dX10_tows_217 rfl ?_
  refine sm_iload_n dX10_tows_218 rfl ?_
  refine sm_bipush dX10_tows_219 rfl ?_
  refine sm_iload dX10_tows_221 rfl ?_
  refine sm_if_ne 230 dX10_tows_223 rfl (fun c60 => ?_) (fun c60 => ?_)
  · rw [if_neg c60] at h
    refine sm_iconst dX10_tows_230 ?_
    refine sm_iload dX10_tows_231 rfl ?_
    refine sm_imul dX10_tows_233 ?_
    exact sm_less (lv' := [some (.inr o), some (.inl z1), some (.inl z2), none, some (.inl z4), none, none, some (.inl z7), none, none, none, none, none]) ⟨rfl, rfl, rfl, rfl, rfl, trivial⟩ (bModel_tows_j234 g   h)
  · rw [if_pos c60] at h
    refine sm_iconst dX10_tows_226 ?_
    refine sm_goto 234 dX10_tows_227 rfl ?_
    exact sm_less (lv' := [some (.inr o), some (.inl z1), some (.inl z2), none, some (.inl z4), none, none, some (.inl z7), none, none, none, none, none]) ⟨rfl, rfl, rfl, rfl, rfl, trivial⟩ (bModel_tows_j234 g   h)
def fModel_tows_j72 (z1 : Int) (z2 : Int) (z3 : Int) (z4 : Int) (z5 : Int) (z6 : Int) (z7 : Int) (z8 : Int) (y0 : Int) (s : MI) : Option (MI) :=
  Option.bind (sl_it (fun (t : Int × Int × Int × Int) => fModel_tows_l77 z1 z2 z3 z4 z5 z6 t.1 t.2.1 t.2.2.1 t.2.2.2 s) sl_fu (z7, z8, y0, 0)) (fun x41 => fModel_tows_j210 z1 z2 z4 x41.1 x41.2 s)
set_option maxRecDepth 100000 in
set_option maxHeartbeats 4000000 in
theorem bModel_tows_j72 {G : GT} {E : ET} {o : Nat} {s mi : MI} {z1 : Int} {z2 : Int} {z3 : Int} {z4 : Int} {z5 : Int} {z6 : Int} {z7 : Int} {z8 : Int} {y0 : Int} {w : MI} (g : gL E o)  (h : fModel_tows_j72 z1 z2 z3 z4 z5 z6 z7 z8 y0 s = some w) : sM (xModel_tows G) 72 [some (.inr o), some (.inl z1), some (.inl z2), some (.inl z3), some (.inl z4), some (.inl z5), some (.inl z6), some (.inl z7), some (.inl z8), none, none, none, none] [.inl y0] E (sm_gl o 10 s mi) (none, E, sm_gl o 10 w mi) := by
  have hN1 := g.1
  have hN2 := g.2.1
  unfold fModel_tows_j72 at h
  refine sm_istore dX10_tows_72 (Nat.le_of_ble_eq_true rfl) ?_
  refine sm_iconst dX10_tows_74 ?_
  refine sm_istore dX10_tows_75 (Nat.le_of_ble_eq_true rfl) ?_
  obtain ⟨x41, hy40, h⟩ := sl_bind h
  refine sm_less (lv' := [some (.inr o), some (.inl z1), some (.inl z2), some (.inl z3), some (.inl z4), some (.inl z5), some (.inl z6), some (.inl z7), some (.inl z8), some (.inl y0), some (.inl 0), none, none]) ⟨rfl, rfl, rfl, rfl, rfl, rfl, rfl, rfl, rfl, rfl, rfl, trivial⟩ (sl_itE (P := qModel_tows_l77 G E o mi z1 z2 z3 z4 z5 z6 s _) (K := kModel_tows_l77 G E o mi z1 z2 z3 z4 z5 z6 s _) (fun t q hq hk => bModel_tows_l77 g  hq hk) sl_fu _ x41 hy40 ?_)
  show sM (xModel_tows G) 210 [some (.inr o), some (.inl z1), some (.inl z2), none, some (.inl z4), none, none, some (.inl x41.1), some (.inl x41.2), none, none, none, none] [] E (sm_gl o 10 s mi) _
  exact sm_less (lv' := [some (.inr o), some (.inl z1), some (.inl z2), none, some (.inl z4), none, none, some (.inl x41.1), some (.inl x41.2), none, none, none, none]) ⟨rfl, rfl, rfl, rfl, rfl, rfl, trivial⟩ (bModel_tows_j210 g   h)
def fModel_tows (z1 : Int) (s : MI) : Option (MI) :=
  Option.bind (fModel_ofPatrol z1 5 s) (fun p1 => Option.bind (fModel_ofCall p1 1 s) (fun p4 => Option.bind (fModel_garageFor p4 s) (fun p7 => (if sm_w p7 = (-5) then Option.bind (fModel_leaves z1 s) (fun p62 => some p62) else Option.bind (fModel_ofGarage p7 0 s) (fun p10 => Option.bind (fModel_ofPatrol z1 0 s) (fun p13 => Option.bind (fModel_region p13) (fun p16 => (if sm_w p4 = sm_w p10 then fModel_tows_j72 z1 p1 p4 p7 p10 p16 p4 0 0 s else fModel_tows_j72 z1 p1 p4 p7 p10 p16 p4 0 1 s))))))))
set_option maxRecDepth 100000 in
set_option maxHeartbeats 4000000 in
theorem bModel_tows {G : GT} {E : ET} {o : Nat} {s mi : MI} {z1 : Int} {w : MI} (g : gL E o)  (h : fModel_tows z1 s = some w) : cN G yX10_tows cX10_tows 13 none 3 70 [.inr o, .inl z1] E (sm_gl o 10 s mi) (none, E, sm_gl o 10 w mi) := by
  have hN1 := g.1
  have hN2 := g.2.1
  unfold fModel_tows at h
  refine sm_meth (by decide +kernel) (Nat.le_of_ble_eq_true rfl) ?_
  show sM (xModel_tows G) 0 [some (.inr o), some (.inl z1), none, none, none, none, none, none, none, none, none, none, none] [] E (sm_gl o 10 s mi) _
  refine sm_aload_n dX10_tows_0 rfl ?_
  refine sm_iload_n dX10_tows_1 rfl ?_
  refine sm_iconst dX10_tows_2 ?_
  obtain ⟨p1, hp2, h⟩ := sl_bind h
  have hc3 := bModel_ofPatrol (G := G) (E := E) (o := o) (s := s) (mi := mi) g  hp2
  refine sc_callV1 (avs := [.inl z1, .inl 5]) (st := []) lk_RX10_88 rfl vf_X10_ofPatrol hc3 ⟨(Nat.le_of_ble_eq_true rfl), (Nat.le_of_ble_eq_true rfl)⟩ ⟨rfl, (Nat.le_of_ble_eq_true rfl)⟩ g.2.2.1 (by omega) rfl dX10_tows_3 ?_
  refine sm_istore_n dX10_tows_6 (Nat.le_of_ble_eq_true rfl) ?_
  refine sm_aload_n dX10_tows_7 rfl ?_
  refine sm_iload_n dX10_tows_8 rfl ?_
  refine sm_iconst dX10_tows_9 ?_
  obtain ⟨p4, hp5, h⟩ := sl_bind h
  have hc6 := bModel_ofCall (G := G) (E := E) (o := o) (s := s) (mi := mi) g  hp5
  refine sc_callV1 (avs := [.inl p1, .inl 1]) (st := []) lk_RX10_72 rfl vf_X10_ofCall hc6 ⟨(Nat.le_of_ble_eq_true rfl), (Nat.le_of_ble_eq_true rfl)⟩ ⟨rfl, (Nat.le_of_ble_eq_true rfl)⟩ g.2.2.1 (by omega) rfl dX10_tows_10 ?_
  refine sm_istore_n dX10_tows_13 (Nat.le_of_ble_eq_true rfl) ?_
  refine sm_aload_n dX10_tows_14 rfl ?_
  refine sm_iload_n dX10_tows_15 rfl ?_
  obtain ⟨p7, hp8, h⟩ := sl_bind h
  have hc9 := bModel_garageFor (G := G) (E := E) (o := o) (s := s) (mi := mi) g  hp8
  refine sc_callV1 (avs := [.inl p4]) (st := []) lk_RX10_123 rfl vf_X10_garageFor hc9 ⟨(Nat.le_of_ble_eq_true rfl), (Nat.le_of_ble_eq_true rfl)⟩ ⟨rfl, (Nat.le_of_ble_eq_true rfl)⟩ g.2.2.1 (by omega) rfl dX10_tows_16 ?_
  refine sm_istore dX10_tows_19 (Nat.le_of_ble_eq_true rfl) ?_
  refine sm_iload dX10_tows_21 rfl ?_
  refine sm_bipush dX10_tows_23 rfl ?_
  refine sc_icmp_ne (X' := sm_w p7) (Y' := (-5)) 34 dX10_tows_25 rfl rfl (by decide) (fun c65 => ?_) (fun c65 => ?_)
  · rw [if_neg c65] at h
    refine sm_aload_n dX10_tows_34 rfl ?_
    refine sm_iload dX10_tows_35 rfl ?_
    refine sm_iconst dX10_tows_37 ?_
    obtain ⟨p10, hp11, h⟩ := sl_bind h
    have hc12 := bModel_ofGarage (G := G) (E := E) (o := o) (s := s) (mi := mi) g  hp11
    refine sc_callV1 (avs := [.inl p7, .inl 0]) (st := []) lk_RX10_117 rfl vf_X10_ofGarage hc12 ⟨(Nat.le_of_ble_eq_true rfl), (Nat.le_of_ble_eq_true rfl)⟩ ⟨rfl, (Nat.le_of_ble_eq_true rfl)⟩ g.2.2.1 (by omega) rfl dX10_tows_38 ?_
    refine sm_istore dX10_tows_41 (Nat.le_of_ble_eq_true rfl) ?_
    refine sm_aload_n dX10_tows_43 rfl ?_
    refine sm_iload_n dX10_tows_44 rfl ?_
    refine sm_iconst dX10_tows_45 ?_
    obtain ⟨p13, hp14, h⟩ := sl_bind h
    have hc15 := bModel_ofPatrol (G := G) (E := E) (o := o) (s := s) (mi := mi) g  hp14
    refine sc_callV1 (avs := [.inl z1, .inl 0]) (st := []) lk_RX10_88 rfl vf_X10_ofPatrol hc15 ⟨(Nat.le_of_ble_eq_true rfl), (Nat.le_of_ble_eq_true rfl)⟩ ⟨rfl, (Nat.le_of_ble_eq_true rfl)⟩ g.2.2.1 (by omega) rfl dX10_tows_46 ?_
    obtain ⟨p16, hp17, h⟩ := sl_bind h
    have hc18 := bModel_region (G := G) (E := E) (mi := (sm_gl o 10 s mi))   hp17
    refine sc_callS1 (avs := [.inl p13]) (st := []) lk_RX10_129 rfl sf_X10_region hc18 ⟨(Nat.le_of_ble_eq_true rfl), (Nat.le_of_ble_eq_true rfl)⟩ ⟨rfl, (Nat.le_of_ble_eq_true rfl)⟩ rfl dX10_tows_49 ?_
    refine sm_istore dX10_tows_52 (Nat.le_of_ble_eq_true rfl) ?_
    refine sm_iload_n dX10_tows_54 rfl ?_
    refine sm_istore dX10_tows_55 (Nat.le_of_ble_eq_true rfl) ?_
    refine sm_iconst dX10_tows_57 ?_
    refine sm_istore dX10_tows_58 (Nat.le_of_ble_eq_true rfl) ?_
    refine sm_iload dX10_tows_60 rfl ?_
    refine sm_iload dX10_tows_62 rfl ?_
    refine sc_icmp_eq (X' := sm_w p4) (Y' := sm_w p10) 71 dX10_tows_64 rfl rfl rfl (fun c61 => ?_) (fun c61 => ?_)
    · rw [if_pos c61] at h
      refine sm_iconst dX10_tows_71 ?_
      exact sm_less (lv' := [some (.inr o), some (.inl z1), some (.inl p1), some (.inl p4), some (.inl p7), some (.inl p10), some (.inl p16), some (.inl p4), some (.inl 0), none, none, none, none]) ⟨rfl, rfl, rfl, rfl, rfl, rfl, rfl, rfl, rfl, trivial⟩ (bModel_tows_j72 g   h)
    · rw [if_neg c61] at h
      refine sm_iconst dX10_tows_67 ?_
      refine sm_goto 72 dX10_tows_68 rfl ?_
      exact sm_less (lv' := [some (.inr o), some (.inl z1), some (.inl p1), some (.inl p4), some (.inl p7), some (.inl p10), some (.inl p16), some (.inl p4), some (.inl 0), none, none, none, none]) ⟨rfl, rfl, rfl, rfl, rfl, rfl, rfl, rfl, rfl, trivial⟩ (bModel_tows_j72 g   h)
  · rw [if_pos c65] at h
    refine sm_aload_n dX10_tows_28 rfl ?_
    refine sm_iload_n dX10_tows_29 rfl ?_
    obtain ⟨p62, hp63, h⟩ := sl_bind h
    have hc64 := bModel_leaves (G := G) (E := E) (o := o) (s := s) (mi := mi) g  hp63
    refine sc_callV0 (avs := [.inl z1]) (st := []) lk_RX10_126 rfl vf_X10_leaves hc64 ⟨(Nat.le_of_ble_eq_true rfl), (Nat.le_of_ble_eq_true rfl)⟩ ⟨rfl, (Nat.le_of_ble_eq_true rfl)⟩ g.2.2.1 (by omega) rfl dX10_tows_30 ?_
    cases h
    exact sm_return rfl dX10_tows_33
abbrev xModel_gets (G : GT) : XT := (G, yX10_gets.cls, cX10_gets, 5, none, decide (yX10_gets.name = "<init>"), 4, 102)
def fModel_gets_j217 (z1 : Int) (s : MI) : Option (MI) :=
  Option.bind (fModel_leaves z1 s) (fun p40 => some p40)
set_option maxRecDepth 100000 in
set_option maxHeartbeats 4000000 in
theorem bModel_gets_j217 {G : GT} {E : ET} {o : Nat} {s mi : MI} {z1 : Int} {w : MI} (g : gL E o)  (h : fModel_gets_j217 z1 s = some w) : sM (xModel_gets G) 217 [some (.inr o), some (.inl z1), none, none, none] [] E (sm_gl o 10 s mi) (none, E, sm_gl o 10 w mi) := by
  have hN1 := g.1
  have hN2 := g.2.1
  unfold fModel_gets_j217 at h
  refine sm_aload_n dX10_gets_217 rfl ?_
  refine sm_iload_n dX10_gets_218 rfl ?_
  obtain ⟨p40, hp41, h⟩ := sl_bind h
  have hc42 := bModel_leaves (G := G) (E := E) (o := o) (s := s) (mi := mi) g  hp41
  refine sc_callV0 (avs := [.inl z1]) (st := []) lk_RX10_126 rfl vf_X10_leaves hc42 ⟨(Nat.le_of_ble_eq_true rfl), (Nat.le_of_ble_eq_true rfl)⟩ ⟨rfl, (Nat.le_of_ble_eq_true rfl)⟩ g.2.2.1 (by omega) rfl dX10_gets_219 ?_
  cases h
  exact sm_return rfl dX10_gets_222
def fModel_gets_j134 (z1 : Int) (z2 : Int) (z3 : Int) (s : MI) : Option (MI) :=
  Option.bind (fModel_ofPatrol z1 1 s) (fun p31 => Option.bind (fModel_ofCall z2 2 s) (fun p34 => (if sm_w p31 < sm_w (p34 - 3) then Option.bind (fModel_ofPatrol z1 2 s) (fun p37 => (if sm_w p37 = 1 then Option.bind (fModel_ofPatrol z1 0 s) (fun p43 => Option.bind (fModel_region p43) (fun p46 => Option.bind (fModel_region z3) (fun p49 => (if sm_w p46 = sm_w p49 then Option.bind (fModel_tows z1 s) (fun p52 => some p52) else fModel_gets_j217 z1 s)))) else fModel_gets_j217 z1 s)) else Option.bind (fModel_laysPatrol z1 3 2 s) (fun p57 => Option.bind (fModel_ofCall z2 2 p57) (fun p60 => Option.bind (fModel_laysPatrol z1 6 (5 * p60) p57) (fun p63 => Option.bind (fModel_laysCall z2 5 2 p63) (fun p66 => some p66)))))))
set_option maxRecDepth 100000 in
set_option maxHeartbeats 4000000 in
theorem bModel_gets_j134 {G : GT} {E : ET} {o : Nat} {s mi : MI} {z1 : Int} {z2 : Int} {z3 : Int} {w : MI} (g : gL E o)  (h : fModel_gets_j134 z1 z2 z3 s = some w) : sM (xModel_gets G) 134 [some (.inr o), some (.inl z1), some (.inl z2), some (.inl z3), none] [] E (sm_gl o 10 s mi) (none, E, sm_gl o 10 w mi) := by
  have hN1 := g.1
  have hN2 := g.2.1
  unfold fModel_gets_j134 at h
  refine sm_aload_n dX10_gets_134 rfl ?_
  refine sm_iload_n dX10_gets_135 rfl ?_
  refine sm_iconst dX10_gets_136 ?_
  obtain ⟨p31, hp32, h⟩ := sl_bind h
  have hc33 := bModel_ofPatrol (G := G) (E := E) (o := o) (s := s) (mi := mi) g  hp32
  refine sc_callV1 (avs := [.inl z1, .inl 1]) (st := []) lk_RX10_88 rfl vf_X10_ofPatrol hc33 ⟨(Nat.le_of_ble_eq_true rfl), (Nat.le_of_ble_eq_true rfl)⟩ ⟨rfl, (Nat.le_of_ble_eq_true rfl)⟩ g.2.2.1 (by omega) rfl dX10_gets_137 ?_
  refine sm_aload_n dX10_gets_140 rfl ?_
  refine sm_iload_n dX10_gets_141 rfl ?_
  refine sm_iconst dX10_gets_142 ?_
  obtain ⟨p34, hp35, h⟩ := sl_bind h
  have hc36 := bModel_ofCall (G := G) (E := E) (o := o) (s := s) (mi := mi) g  hp35
  refine sc_callV1 (avs := [.inl z2, .inl 2]) (st := [.inl p31]) lk_RX10_72 rfl vf_X10_ofCall hc36 ⟨(Nat.le_of_ble_eq_true rfl), (Nat.le_of_ble_eq_true rfl)⟩ ⟨rfl, (Nat.le_of_ble_eq_true rfl)⟩ g.2.2.1 (by omega) rfl dX10_gets_143 ?_
  refine sm_iconst dX10_gets_146 ?_
  refine sm_isub dX10_gets_147 ?_
  refine sc_icmp_lt (X' := sm_w p31) (Y' := sm_w (p34 - 3)) 183 dX10_gets_148 rfl rfl rfl (fun c69 => ?_) (fun c69 => ?_)
  · rw [if_pos c69] at h
    refine sm_aload_n dX10_gets_183 rfl ?_
    refine sm_iload_n dX10_gets_184 rfl ?_
    refine sm_iconst dX10_gets_185 ?_
    obtain ⟨p37, hp38, h⟩ := sl_bind h
    have hc39 := bModel_ofPatrol (G := G) (E := E) (o := o) (s := s) (mi := mi) g  hp38
    refine sc_callV1 (avs := [.inl z1, .inl 2]) (st := []) lk_RX10_88 rfl vf_X10_ofPatrol hc39 ⟨(Nat.le_of_ble_eq_true rfl), (Nat.le_of_ble_eq_true rfl)⟩ ⟨rfl, (Nat.le_of_ble_eq_true rfl)⟩ g.2.2.1 (by omega) rfl dX10_gets_186 ?_
    refine sm_iconst dX10_gets_189 ?_
    refine sc_icmp_ne (X' := sm_w p37) (Y' := 1) 217 dX10_gets_190 rfl rfl (by decide) (fun c56 => ?_) (fun c56 => ?_)
    · rw [if_neg c56] at h
      exact sm_less (lv' := [some (.inr o), some (.inl z1), none, none, none]) ⟨rfl, rfl, trivial⟩ (bModel_gets_j217 g   h)
    · rw [if_pos c56] at h
      refine sm_aload_n dX10_gets_193 rfl ?_
      refine sm_iload_n dX10_gets_194 rfl ?_
      refine sm_iconst dX10_gets_195 ?_
      obtain ⟨p43, hp44, h⟩ := sl_bind h
      have hc45 := bModel_ofPatrol (G := G) (E := E) (o := o) (s := s) (mi := mi) g  hp44
      refine sc_callV1 (avs := [.inl z1, .inl 0]) (st := []) lk_RX10_88 rfl vf_X10_ofPatrol hc45 ⟨(Nat.le_of_ble_eq_true rfl), (Nat.le_of_ble_eq_true rfl)⟩ ⟨rfl, (Nat.le_of_ble_eq_true rfl)⟩ g.2.2.1 (by omega) rfl dX10_gets_196 ?_
      obtain ⟨p46, hp47, h⟩ := sl_bind h
      have hc48 := bModel_region (G := G) (E := E) (mi := (sm_gl o 10 s mi))   hp47
      refine sc_callS1 (avs := [.inl p43]) (st := []) lk_RX10_129 rfl sf_X10_region hc48 ⟨(Nat.le_of_ble_eq_true rfl), (Nat.le_of_ble_eq_true rfl)⟩ ⟨rfl, (Nat.le_of_ble_eq_true rfl)⟩ rfl dX10_gets_199 ?_
      refine sm_iload_n dX10_gets_202 rfl ?_
      obtain ⟨p49, hp50, h⟩ := sl_bind h
      have hc51 := bModel_region (G := G) (E := E) (mi := (sm_gl o 10 s mi))   hp50
      refine sc_callS1 (avs := [.inl z3]) (st := [.inl p46]) lk_RX10_129 rfl sf_X10_region hc51 ⟨(Nat.le_of_ble_eq_true rfl), (Nat.le_of_ble_eq_true rfl)⟩ ⟨rfl, (Nat.le_of_ble_eq_true rfl)⟩ rfl dX10_gets_203 ?_
      refine sc_icmp_ne (X' := sm_w p46) (Y' := sm_w p49) 217 dX10_gets_206 rfl rfl rfl (fun c55 => ?_) (fun c55 => ?_)
      · rw [if_neg c55] at h
        exact sm_less (lv' := [some (.inr o), some (.inl z1), none, none, none]) ⟨rfl, rfl, trivial⟩ (bModel_gets_j217 g   h)
      · rw [if_pos c55] at h
        refine sm_aload_n dX10_gets_209 rfl ?_
        refine sm_iload_n dX10_gets_210 rfl ?_
        obtain ⟨p52, hp53, h⟩ := sl_bind h
        have hc54 := bModel_tows (G := G) (E := E) (o := o) (s := s) (mi := mi) g  hp53
        refine sc_callV0 (avs := [.inl z1]) (st := []) lk_RX10_135 rfl vf_X10_tows hc54 ⟨(Nat.le_of_ble_eq_true rfl), (Nat.le_of_ble_eq_true rfl)⟩ ⟨rfl, (Nat.le_of_ble_eq_true rfl)⟩ g.2.2.1 (by omega) rfl dX10_gets_211 ?_
        refine sm_goto 222 dX10_gets_214 rfl ?_
        cases h
        exact sm_return rfl dX10_gets_222
  · rw [if_neg c69] at h
    refine sm_aload_n dX10_gets_151 rfl ?_
    refine sm_iload_n dX10_gets_152 rfl ?_
    refine sm_iconst dX10_gets_153 ?_
    refine sm_iconst dX10_gets_154 ?_
    obtain ⟨p57, hp58, h⟩ := sl_bind h
    have hc59 := bModel_laysPatrol (G := G) (E := E) (o := o) (s := s) (mi := mi) g  hp58
    refine sc_callV0 (avs := [.inl z1, .inl 3, .inl 2]) (st := []) lk_RX10_64 rfl vf_X10_laysPatrol hc59 ⟨(Nat.le_of_ble_eq_true rfl), (Nat.le_of_ble_eq_true rfl)⟩ ⟨rfl, (Nat.le_of_ble_eq_true rfl)⟩ g.2.2.1 (by omega) rfl dX10_gets_155 ?_
    refine sm_aload_n dX10_gets_158 rfl ?_
    refine sm_iload_n dX10_gets_159 rfl ?_
    refine sm_bipush dX10_gets_160 rfl ?_
    refine sm_iconst dX10_gets_162 ?_
    refine sm_aload_n dX10_gets_163 rfl ?_
    refine sm_iload_n dX10_gets_164 rfl ?_
    refine sm_iconst dX10_gets_165 ?_
    obtain ⟨p60, hp61, h⟩ := sl_bind h
    have hc62 := bModel_ofCall (G := G) (E := E) (o := o) (s := p57) (mi := mi) g  hp61
    refine sc_callV1 (avs := [.inl z2, .inl 2]) (st := [.inl 5, .inl 6, .inl z1, .inr o]) lk_RX10_72 rfl vf_X10_ofCall hc62 ⟨(Nat.le_of_ble_eq_true rfl), (Nat.le_of_ble_eq_true rfl)⟩ ⟨rfl, (Nat.le_of_ble_eq_true rfl)⟩ g.2.2.1 (by omega) rfl dX10_gets_166 ?_
    refine sm_imul dX10_gets_169 ?_
    obtain ⟨p63, hp64, h⟩ := sl_bind h
    have hc65 := bModel_laysPatrol (G := G) (E := E) (o := o) (s := p57) (mi := mi) g  hp64
    refine sc_callV0 (avs := [.inl z1, .inl 6, .inl (5 * p60)]) (st := []) lk_RX10_64 rfl vf_X10_laysPatrol hc65 ⟨(Nat.le_of_ble_eq_true rfl), (Nat.le_of_ble_eq_true rfl)⟩ ⟨rfl, (Nat.le_of_ble_eq_true rfl)⟩ g.2.2.1 (by omega) rfl dX10_gets_170 ?_
    refine sm_aload_n dX10_gets_173 rfl ?_
    refine sm_iload_n dX10_gets_174 rfl ?_
    refine sm_iconst dX10_gets_175 ?_
    refine sm_iconst dX10_gets_176 ?_
    obtain ⟨p66, hp67, h⟩ := sl_bind h
    have hc68 := bModel_laysCall (G := G) (E := E) (o := o) (s := p63) (mi := mi) g  hp67
    refine sc_callV0 (avs := [.inl z2, .inl 5, .inl 2]) (st := []) lk_RX10_82 rfl vf_X10_laysCall hc68 ⟨(Nat.le_of_ble_eq_true rfl), (Nat.le_of_ble_eq_true rfl)⟩ ⟨rfl, (Nat.le_of_ble_eq_true rfl)⟩ g.2.2.1 (by omega) rfl dX10_gets_177 ?_
    refine sm_goto 222 dX10_gets_180 rfl ?_
    cases h
    exact sm_return rfl dX10_gets_222
def fModel_gets (z1 : Int) (s : MI) : Option (MI) :=
  Option.bind (fModel_ofPatrol z1 5 s) (fun p1 => Option.bind (fModel_ofCall p1 1 s) (fun p4 => Option.bind (fModel_laysPatrol z1 4 p4 s) (fun p7 => Option.bind (fModel_ofCall p1 5 p7) (fun p10 => (if sm_w p10 = 3 then Option.bind (fModel_tows z1 p7) (fun p85 => some p85) else Option.bind (fModel_ofCall p1 4 p7) (fun p13 => Option.bind (fModel_laysCall p1 8 z1 p7) (fun p16 => Option.bind (fModel_laysCall p1 7 ((p7 1 0) - p13) p16) (fun p19 => Option.bind (fModel_ofPatrol z1 10 p19) (fun p22 => Option.bind (fModel_laysPatrol z1 10 (p22 + ((p7 1 0) - p13)) p19) (fun p25 => Option.bind (fModel_ofCall p1 3 p25) (fun p28 => (if sm_w ((p7 1 0) - p13) ≤ sm_w p28 then fModel_gets_j134 z1 p1 p4 p25 else Option.bind (fModel_ofCall p1 0 p25) (fun p70 => Option.bind (fModel_addsMember p70 1 (-15) p25) (fun p73 => Option.bind (fModel_ofCall p1 0 p73) (fun p76 => Option.bind (fModel_addsMember p76 3 1 p73) (fun p79 => Option.bind (some (sm_up p79 1 11 ((p79 1 11) + 15))) (fun s82 => fModel_gets_j134 z1 p1 p4 s82)))))))))))))))))
set_option maxRecDepth 100000 in
set_option maxHeartbeats 4000000 in
theorem bModel_gets {G : GT} {E : ET} {o : Nat} {s mi : MI} {z1 : Int} {w : MI} (g : gL E o)  (h : fModel_gets z1 s = some w) : cN G yX10_gets cX10_gets 5 none 4 102 [.inr o, .inl z1] E (sm_gl o 10 s mi) (none, E, sm_gl o 10 w mi) := by
  have hN1 := g.1
  have hN2 := g.2.1
  unfold fModel_gets at h
  refine sm_meth (by decide +kernel) (Nat.le_of_ble_eq_true rfl) ?_
  show sM (xModel_gets G) 0 [some (.inr o), some (.inl z1), none, none, none] [] E (sm_gl o 10 s mi) _
  refine sm_aload_n dX10_gets_0 rfl ?_
  refine sm_iload_n dX10_gets_1 rfl ?_
  refine sm_iconst dX10_gets_2 ?_
  obtain ⟨p1, hp2, h⟩ := sl_bind h
  have hc3 := bModel_ofPatrol (G := G) (E := E) (o := o) (s := s) (mi := mi) g  hp2
  refine sc_callV1 (avs := [.inl z1, .inl 5]) (st := []) lk_RX10_88 rfl vf_X10_ofPatrol hc3 ⟨(Nat.le_of_ble_eq_true rfl), (Nat.le_of_ble_eq_true rfl)⟩ ⟨rfl, (Nat.le_of_ble_eq_true rfl)⟩ g.2.2.1 (by omega) rfl dX10_gets_3 ?_
  refine sm_istore_n dX10_gets_6 (Nat.le_of_ble_eq_true rfl) ?_
  refine sm_aload_n dX10_gets_7 rfl ?_
  refine sm_iload_n dX10_gets_8 rfl ?_
  refine sm_iconst dX10_gets_9 ?_
  obtain ⟨p4, hp5, h⟩ := sl_bind h
  have hc6 := bModel_ofCall (G := G) (E := E) (o := o) (s := s) (mi := mi) g  hp5
  refine sc_callV1 (avs := [.inl p1, .inl 1]) (st := []) lk_RX10_72 rfl vf_X10_ofCall hc6 ⟨(Nat.le_of_ble_eq_true rfl), (Nat.le_of_ble_eq_true rfl)⟩ ⟨rfl, (Nat.le_of_ble_eq_true rfl)⟩ g.2.2.1 (by omega) rfl dX10_gets_10 ?_
  refine sm_istore_n dX10_gets_13 (Nat.le_of_ble_eq_true rfl) ?_
  refine sm_aload_n dX10_gets_14 rfl ?_
  refine sm_iload_n dX10_gets_15 rfl ?_
  refine sm_iconst dX10_gets_16 ?_
  refine sm_iload_n dX10_gets_17 rfl ?_
  obtain ⟨p7, hp8, h⟩ := sl_bind h
  have hc9 := bModel_laysPatrol (G := G) (E := E) (o := o) (s := s) (mi := mi) g  hp8
  refine sc_callV0 (avs := [.inl z1, .inl 4, .inl p4]) (st := []) lk_RX10_64 rfl vf_X10_laysPatrol hc9 ⟨(Nat.le_of_ble_eq_true rfl), (Nat.le_of_ble_eq_true rfl)⟩ ⟨rfl, (Nat.le_of_ble_eq_true rfl)⟩ g.2.2.1 (by omega) rfl dX10_gets_18 ?_
  refine sm_aload_n dX10_gets_21 rfl ?_
  refine sm_iload_n dX10_gets_22 rfl ?_
  refine sm_iconst dX10_gets_23 ?_
  obtain ⟨p10, hp11, h⟩ := sl_bind h
  have hc12 := bModel_ofCall (G := G) (E := E) (o := o) (s := p7) (mi := mi) g  hp11
  refine sc_callV1 (avs := [.inl p1, .inl 5]) (st := []) lk_RX10_72 rfl vf_X10_ofCall hc12 ⟨(Nat.le_of_ble_eq_true rfl), (Nat.le_of_ble_eq_true rfl)⟩ ⟨rfl, (Nat.le_of_ble_eq_true rfl)⟩ g.2.2.1 (by omega) rfl dX10_gets_24 ?_
  refine sm_iconst dX10_gets_27 ?_
  refine sc_icmp_ne (X' := sm_w p10) (Y' := 3) 37 dX10_gets_28 rfl rfl (by decide) (fun c88 => ?_) (fun c88 => ?_)
  · rw [if_neg c88] at h
    refine sm_aload_n dX10_gets_37 rfl ?_
    refine sm_getR lf_RX10_7 fR_7_0 g.2.2.1 (by omega) g.2.2.2.1.2 dX10_gets_38 ?_
    refine sm_iconst dX10_gets_41 ?_
    refine sl_ialdk (D := 1) (k := 0) g.2.2.2.1.1 rfl (by omega) hN2 ⟨by decide, by decide⟩ dX10_gets_42 ?_
    refine sm_aload_n dX10_gets_43 rfl ?_
    refine sm_iload_n dX10_gets_44 rfl ?_
    refine sm_iconst dX10_gets_45 ?_
    obtain ⟨p13, hp14, h⟩ := sl_bind h
    have hc15 := bModel_ofCall (G := G) (E := E) (o := o) (s := p7) (mi := mi) g  hp14
    refine sc_callV1 (avs := [.inl p1, .inl 4]) (st := [.inl (p7 1 0)]) lk_RX10_72 rfl vf_X10_ofCall hc15 ⟨(Nat.le_of_ble_eq_true rfl), (Nat.le_of_ble_eq_true rfl)⟩ ⟨rfl, (Nat.le_of_ble_eq_true rfl)⟩ g.2.2.1 (by omega) rfl dX10_gets_46 ?_
    refine sm_isub dX10_gets_49 ?_
    refine sm_istore dX10_gets_50 (Nat.le_of_ble_eq_true rfl) ?_
    refine sm_aload_n dX10_gets_52 rfl ?_
    refine sm_iload_n dX10_gets_53 rfl ?_
    refine sm_bipush dX10_gets_54 rfl ?_
    refine sm_iload_n dX10_gets_56 rfl ?_
    obtain ⟨p16, hp17, h⟩ := sl_bind h
    have hc18 := bModel_laysCall (G := G) (E := E) (o := o) (s := p7) (mi := mi) g  hp17
    refine sc_callV0 (avs := [.inl p1, .inl 8, .inl z1]) (st := []) lk_RX10_82 rfl vf_X10_laysCall hc18 ⟨(Nat.le_of_ble_eq_true rfl), (Nat.le_of_ble_eq_true rfl)⟩ ⟨rfl, (Nat.le_of_ble_eq_true rfl)⟩ g.2.2.1 (by omega) rfl dX10_gets_57 ?_
    refine sm_aload_n dX10_gets_60 rfl ?_
    refine sm_iload_n dX10_gets_61 rfl ?_
    refine sm_bipush dX10_gets_62 rfl ?_
    refine sm_iload dX10_gets_64 rfl ?_
    obtain ⟨p19, hp20, h⟩ := sl_bind h
    have hc21 := bModel_laysCall (G := G) (E := E) (o := o) (s := p16) (mi := mi) g  hp20
    refine sc_callV0 (avs := [.inl p1, .inl 7, .inl ((p7 1 0) - p13)]) (st := []) lk_RX10_82 rfl vf_X10_laysCall hc21 ⟨(Nat.le_of_ble_eq_true rfl), (Nat.le_of_ble_eq_true rfl)⟩ ⟨rfl, (Nat.le_of_ble_eq_true rfl)⟩ g.2.2.1 (by omega) rfl dX10_gets_66 ?_
    refine sm_aload_n dX10_gets_69 rfl ?_
    refine sm_iload_n dX10_gets_70 rfl ?_
    refine sm_bipush dX10_gets_71 rfl ?_
    refine sm_aload_n dX10_gets_73 rfl ?_
    refine sm_iload_n dX10_gets_74 rfl ?_
    refine sm_bipush dX10_gets_75 rfl ?_
    obtain ⟨p22, hp23, h⟩ := sl_bind h
    have hc24 := bModel_ofPatrol (G := G) (E := E) (o := o) (s := p19) (mi := mi) g  hp23
    refine sc_callV1 (avs := [.inl z1, .inl 10]) (st := [.inl 10, .inl z1, .inr o]) lk_RX10_88 rfl vf_X10_ofPatrol hc24 ⟨(Nat.le_of_ble_eq_true rfl), (Nat.le_of_ble_eq_true rfl)⟩ ⟨rfl, (Nat.le_of_ble_eq_true rfl)⟩ g.2.2.1 (by omega) rfl dX10_gets_77 ?_
    refine sm_iload dX10_gets_80 rfl ?_
    refine sm_iadd dX10_gets_82 ?_
    obtain ⟨p25, hp26, h⟩ := sl_bind h
    have hc27 := bModel_laysPatrol (G := G) (E := E) (o := o) (s := p19) (mi := mi) g  hp26
    refine sc_callV0 (avs := [.inl z1, .inl 10, .inl (p22 + ((p7 1 0) - p13))]) (st := []) lk_RX10_64 rfl vf_X10_laysPatrol hc27 ⟨(Nat.le_of_ble_eq_true rfl), (Nat.le_of_ble_eq_true rfl)⟩ ⟨rfl, (Nat.le_of_ble_eq_true rfl)⟩ g.2.2.1 (by omega) rfl dX10_gets_83 ?_
    refine sm_iload dX10_gets_86 rfl ?_
    refine sm_aload_n dX10_gets_88 rfl ?_
    refine sm_iload_n dX10_gets_89 rfl ?_
    refine sm_iconst dX10_gets_90 ?_
    obtain ⟨p28, hp29, h⟩ := sl_bind h
    have hc30 := bModel_ofCall (G := G) (E := E) (o := o) (s := p25) (mi := mi) g  hp29
    refine sc_callV1 (avs := [.inl p1, .inl 3]) (st := [.inl ((p7 1 0) - p13)]) lk_RX10_72 rfl vf_X10_ofCall hc30 ⟨(Nat.le_of_ble_eq_true rfl), (Nat.le_of_ble_eq_true rfl)⟩ ⟨rfl, (Nat.le_of_ble_eq_true rfl)⟩ g.2.2.1 (by omega) rfl dX10_gets_91 ?_
    refine sc_icmp_le (X' := sm_w ((p7 1 0) - p13)) (Y' := sm_w p28) 134 dX10_gets_94 rfl rfl rfl (fun c84 => ?_) (fun c84 => ?_)
    · rw [if_pos c84] at h
      exact sm_less (lv' := [some (.inr o), some (.inl z1), some (.inl p1), some (.inl p4), none]) ⟨rfl, rfl, rfl, rfl, trivial⟩ (bModel_gets_j134 g   h)
    · rw [if_neg c84] at h
      refine sm_aload_n dX10_gets_97 rfl ?_
      refine sm_aload_n dX10_gets_98 rfl ?_
      refine sm_iload_n dX10_gets_99 rfl ?_
      refine sm_iconst dX10_gets_100 ?_
      obtain ⟨p70, hp71, h⟩ := sl_bind h
      have hc72 := bModel_ofCall (G := G) (E := E) (o := o) (s := p25) (mi := mi) g  hp71
      refine sc_callV1 (avs := [.inl p1, .inl 0]) (st := [.inr o]) lk_RX10_72 rfl vf_X10_ofCall hc72 ⟨(Nat.le_of_ble_eq_true rfl), (Nat.le_of_ble_eq_true rfl)⟩ ⟨rfl, (Nat.le_of_ble_eq_true rfl)⟩ g.2.2.1 (by omega) rfl dX10_gets_101 ?_
      refine sm_iconst dX10_gets_104 ?_
      refine sm_bipush dX10_gets_105 rfl ?_
      obtain ⟨p73, hp74, h⟩ := sl_bind h
      have hc75 := bModel_addsMember (G := G) (E := E) (o := o) (s := p25) (mi := mi) g  hp74
      refine sc_callV0 (avs := [.inl p70, .inl 1, .inl (-15)]) (st := []) lk_RX10_91 rfl vf_X10_addsMember hc75 ⟨(Nat.le_of_ble_eq_true rfl), (Nat.le_of_ble_eq_true rfl)⟩ ⟨rfl, (Nat.le_of_ble_eq_true rfl)⟩ g.2.2.1 (by omega) rfl dX10_gets_107 ?_
      refine sm_aload_n dX10_gets_110 rfl ?_
      refine sm_aload_n dX10_gets_111 rfl ?_
      refine sm_iload_n dX10_gets_112 rfl ?_
      refine sm_iconst dX10_gets_113 ?_
      obtain ⟨p76, hp77, h⟩ := sl_bind h
      have hc78 := bModel_ofCall (G := G) (E := E) (o := o) (s := p73) (mi := mi) g  hp77
      refine sc_callV1 (avs := [.inl p1, .inl 0]) (st := [.inr o]) lk_RX10_72 rfl vf_X10_ofCall hc78 ⟨(Nat.le_of_ble_eq_true rfl), (Nat.le_of_ble_eq_true rfl)⟩ ⟨rfl, (Nat.le_of_ble_eq_true rfl)⟩ g.2.2.1 (by omega) rfl dX10_gets_114 ?_
      refine sm_iconst dX10_gets_117 ?_
      refine sm_iconst dX10_gets_118 ?_
      obtain ⟨p79, hp80, h⟩ := sl_bind h
      have hc81 := bModel_addsMember (G := G) (E := E) (o := o) (s := p73) (mi := mi) g  hp80
      refine sc_callV0 (avs := [.inl p76, .inl 3, .inl 1]) (st := []) lk_RX10_91 rfl vf_X10_addsMember hc81 ⟨(Nat.le_of_ble_eq_true rfl), (Nat.le_of_ble_eq_true rfl)⟩ ⟨rfl, (Nat.le_of_ble_eq_true rfl)⟩ g.2.2.1 (by omega) rfl dX10_gets_119 ?_
      refine sm_aload_n dX10_gets_122 rfl ?_
      refine sm_getR lf_RX10_7 fR_7_0 g.2.2.1 (by omega) g.2.2.2.1.2 dX10_gets_123 ?_
      refine sm_bipush dX10_gets_126 rfl ?_
      refine sm_dup2 dX10_gets_128 ?_
      refine sl_ialdk (D := 1) (k := 11) g.2.2.2.1.1 rfl (by omega) hN2 ⟨by decide, by decide⟩ dX10_gets_129 ?_
      refine sm_bipush dX10_gets_130 rfl ?_
      refine sm_iadd dX10_gets_132 ?_
      refine sl_iastk (D := 1) (k := 11) g.2.2.2.1.1 rfl (by omega) ⟨hN1, hN2⟩ ⟨by decide, by decide⟩ dX10_gets_133 ?_
      obtain ⟨s82, hs83, h⟩ := sl_bind h
      rw [Option.some.inj hs83]
      exact sm_less (lv' := [some (.inr o), some (.inl z1), some (.inl p1), some (.inl p4), none]) ⟨rfl, rfl, rfl, rfl, trivial⟩ (bModel_gets_j134 g   h)
  · rw [if_pos c88] at h
    refine sm_aload_n dX10_gets_31 rfl ?_
    refine sm_iload_n dX10_gets_32 rfl ?_
    obtain ⟨p85, hp86, h⟩ := sl_bind h
    have hc87 := bModel_tows (G := G) (E := E) (o := o) (s := p7) (mi := mi) g  hp86
    refine sc_callV0 (avs := [.inl z1]) (st := []) lk_RX10_135 rfl vf_X10_tows hc87 ⟨(Nat.le_of_ble_eq_true rfl), (Nat.le_of_ble_eq_true rfl)⟩ ⟨rfl, (Nat.le_of_ble_eq_true rfl)⟩ g.2.2.1 (by omega) rfl dX10_gets_33 ?_
    cases h
    exact sm_return rfl dX10_gets_36
abbrev xModel_repaired (G : GT) : XT := (G, yX10_repaired.cls, cX10_repaired, 5, none, decide (yX10_repaired.name = "<init>"), 2, 44)
def fModel_repaired_j49 (z1 : Int) (z2 : Int) (y0 : Int) (s : MI) : Option (MI) :=
  Option.bind (fModel_ofCall z2 0 s) (fun p13 => Option.bind (fModel_addsMember p13 1 y0 s) (fun p16 => Option.bind (some (sm_up p16 1 10 ((p16 1 10) + y0))) (fun s19 => Option.bind (fModel_laysCall z2 5 5 s19) (fun p21 => Option.bind (fModel_laysCall z2 6 (-5) p21) (fun p24 => Option.bind (fModel_laysCall z2 9 (p24 1 0) p24) (fun p27 => Option.bind (fModel_ofPatrol z1 7 p27) (fun p30 => Option.bind (fModel_laysPatrol z1 7 (p30 + 1) p27) (fun p33 => Option.bind (fModel_frees z1 p33) (fun p36 => some p36)))))))))
set_option maxRecDepth 100000 in
set_option maxHeartbeats 4000000 in
theorem bModel_repaired_j49 {G : GT} {E : ET} {o : Nat} {s mi : MI} {z1 : Int} {z2 : Int} {y0 : Int} {w : MI} (g : gL E o)  (h : fModel_repaired_j49 z1 z2 y0 s = some w) : sM (xModel_repaired G) 49 [some (.inr o), some (.inl z1), some (.inl z2), none, none] [.inl y0] E (sm_gl o 10 s mi) (none, E, sm_gl o 10 w mi) := by
  have hN1 := g.1
  have hN2 := g.2.1
  unfold fModel_repaired_j49 at h
  refine sm_istore dX10_repaired_49 (Nat.le_of_ble_eq_true rfl) ?_
  refine sm_aload_n dX10_repaired_51 rfl ?_
  refine sm_aload_n dX10_repaired_52 rfl ?_
  refine sm_iload_n dX10_repaired_53 rfl ?_
  refine sm_iconst dX10_repaired_54 ?_
  obtain ⟨p13, hp14, h⟩ := sl_bind h
  have hc15 := bModel_ofCall (G := G) (E := E) (o := o) (s := s) (mi := mi) g  hp14
  refine sc_callV1 (avs := [.inl z2, .inl 0]) (st := [.inr o]) lk_RX10_72 rfl vf_X10_ofCall hc15 ⟨(Nat.le_of_ble_eq_true rfl), (Nat.le_of_ble_eq_true rfl)⟩ ⟨rfl, (Nat.le_of_ble_eq_true rfl)⟩ g.2.2.1 (by omega) rfl dX10_repaired_55 ?_
  refine sm_iconst dX10_repaired_58 ?_
  refine sm_iload dX10_repaired_59 rfl ?_
  obtain ⟨p16, hp17, h⟩ := sl_bind h
  have hc18 := bModel_addsMember (G := G) (E := E) (o := o) (s := s) (mi := mi) g  hp17
  refine sc_callV0 (avs := [.inl p13, .inl 1, .inl y0]) (st := []) lk_RX10_91 rfl vf_X10_addsMember hc18 ⟨(Nat.le_of_ble_eq_true rfl), (Nat.le_of_ble_eq_true rfl)⟩ ⟨rfl, (Nat.le_of_ble_eq_true rfl)⟩ g.2.2.1 (by omega) rfl dX10_repaired_61 ?_
  refine sm_aload_n dX10_repaired_64 rfl ?_
  refine sm_getR lf_RX10_7 fR_7_0 g.2.2.1 (by omega) g.2.2.2.1.2 dX10_repaired_65 ?_
  refine sm_bipush dX10_repaired_68 rfl ?_
  refine sm_dup2 dX10_repaired_70 ?_
  refine sl_ialdk (D := 1) (k := 10) g.2.2.2.1.1 rfl (by omega) hN2 ⟨by decide, by decide⟩ dX10_repaired_71 ?_
  refine sm_iload dX10_repaired_72 rfl ?_
  refine sm_iadd dX10_repaired_74 ?_
  refine sl_iastk (D := 1) (k := 10) g.2.2.2.1.1 rfl (by omega) ⟨hN1, hN2⟩ ⟨by decide, by decide⟩ dX10_repaired_75 ?_
  obtain ⟨s19, hs20, h⟩ := sl_bind h
  rw [Option.some.inj hs20]
  refine sm_aload_n dX10_repaired_76 rfl ?_
  refine sm_iload_n dX10_repaired_77 rfl ?_
  refine sm_iconst dX10_repaired_78 ?_
  refine sm_iconst dX10_repaired_79 ?_
  obtain ⟨p21, hp22, h⟩ := sl_bind h
  have hc23 := bModel_laysCall (G := G) (E := E) (o := o) (s := s19) (mi := mi) g  hp22
  refine sc_callV0 (avs := [.inl z2, .inl 5, .inl 5]) (st := []) lk_RX10_82 rfl vf_X10_laysCall hc23 ⟨(Nat.le_of_ble_eq_true rfl), (Nat.le_of_ble_eq_true rfl)⟩ ⟨rfl, (Nat.le_of_ble_eq_true rfl)⟩ g.2.2.1 (by omega) rfl dX10_repaired_80 ?_
  refine sm_aload_n dX10_repaired_83 rfl ?_
  refine sm_iload_n dX10_repaired_84 rfl ?_
  refine sm_bipush dX10_repaired_85 rfl ?_
  refine sm_bipush dX10_repaired_87 rfl ?_
  obtain ⟨p24, hp25, h⟩ := sl_bind h
  have hc26 := bModel_laysCall (G := G) (E := E) (o := o) (s := p21) (mi := mi) g  hp25
  refine sc_callV0 (avs := [.inl z2, .inl 6, .inl (-5)]) (st := []) lk_RX10_82 rfl vf_X10_laysCall hc26 ⟨(Nat.le_of_ble_eq_true rfl), (Nat.le_of_ble_eq_true rfl)⟩ ⟨rfl, (Nat.le_of_ble_eq_true rfl)⟩ g.2.2.1 (by omega) rfl dX10_repaired_89 ?_
  refine sm_aload_n dX10_repaired_92 rfl ?_
  refine sm_iload_n dX10_repaired_93 rfl ?_
  refine sm_bipush dX10_repaired_94 rfl ?_
  refine sm_aload_n dX10_repaired_96 rfl ?_
  refine sm_getR lf_RX10_7 fR_7_0 g.2.2.1 (by omega) g.2.2.2.1.2 dX10_repaired_97 ?_
  refine sm_iconst dX10_repaired_100 ?_
  refine sl_ialdk (D := 1) (k := 0) g.2.2.2.1.1 rfl (by omega) hN2 ⟨by decide, by decide⟩ dX10_repaired_101 ?_
  obtain ⟨p27, hp28, h⟩ := sl_bind h
  have hc29 := bModel_laysCall (G := G) (E := E) (o := o) (s := p24) (mi := mi) g  hp28
  refine sc_callV0 (avs := [.inl z2, .inl 9, .inl (p24 1 0)]) (st := []) lk_RX10_82 rfl vf_X10_laysCall hc29 ⟨(Nat.le_of_ble_eq_true rfl), (Nat.le_of_ble_eq_true rfl)⟩ ⟨rfl, (Nat.le_of_ble_eq_true rfl)⟩ g.2.2.1 (by omega) rfl dX10_repaired_102 ?_
  refine sm_aload_n dX10_repaired_105 rfl ?_
  refine sm_iload_n dX10_repaired_106 rfl ?_
  refine sm_bipush dX10_repaired_107 rfl ?_
  refine sm_aload_n dX10_repaired_109 rfl ?_
  refine sm_iload_n dX10_repaired_110 rfl ?_
  refine sm_bipush dX10_repaired_111 rfl ?_
  obtain ⟨p30, hp31, h⟩ := sl_bind h
  have hc32 := bModel_ofPatrol (G := G) (E := E) (o := o) (s := p27) (mi := mi) g  hp31
  refine sc_callV1 (avs := [.inl z1, .inl 7]) (st := [.inl 7, .inl z1, .inr o]) lk_RX10_88 rfl vf_X10_ofPatrol hc32 ⟨(Nat.le_of_ble_eq_true rfl), (Nat.le_of_ble_eq_true rfl)⟩ ⟨rfl, (Nat.le_of_ble_eq_true rfl)⟩ g.2.2.1 (by omega) rfl dX10_repaired_113 ?_
  refine sm_iconst dX10_repaired_116 ?_
  refine sm_iadd dX10_repaired_117 ?_
  obtain ⟨p33, hp34, h⟩ := sl_bind h
  have hc35 := bModel_laysPatrol (G := G) (E := E) (o := o) (s := p27) (mi := mi) g  hp34
  refine sc_callV0 (avs := [.inl z1, .inl 7, .inl (p30 + 1)]) (st := []) lk_RX10_64 rfl vf_X10_laysPatrol hc35 ⟨(Nat.le_of_ble_eq_true rfl), (Nat.le_of_ble_eq_true rfl)⟩ ⟨rfl, (Nat.le_of_ble_eq_true rfl)⟩ g.2.2.1 (by omega) rfl dX10_repaired_118 ?_
  refine sm_aload_n dX10_repaired_121 rfl ?_
  refine sm_iload_n dX10_repaired_122 rfl ?_
  obtain ⟨p36, hp37, h⟩ := sl_bind h
  have hc38 := bModel_frees (G := G) (E := E) (o := o) (s := p33) (mi := mi) g  hp37
  refine sc_callV0 (avs := [.inl z1]) (st := []) lk_RX10_68 rfl vf_X10_frees hc38 ⟨(Nat.le_of_ble_eq_true rfl), (Nat.le_of_ble_eq_true rfl)⟩ ⟨rfl, (Nat.le_of_ble_eq_true rfl)⟩ g.2.2.1 (by omega) rfl dX10_repaired_123 ?_
  cases h
  exact sm_return rfl dX10_repaired_126
def fModel_repaired (z1 : Int) (s : MI) : Option (MI) :=
  Option.bind (fModel_ofPatrol z1 5 s) (fun p1 => Option.bind (fModel_ofCall p1 0 s) (fun p4 => Option.bind (fModel_ofMember p4 0 s) (fun p7 => Option.bind (fModel_ofCall p1 10 s) (fun p10 => (if 0 ≤ sm_w ((20 - (10 * p7)) - (5 * p10)) then fModel_repaired_j49 z1 p1 ((20 - (10 * p7)) - (5 * p10)) s else fModel_repaired_j49 z1 p1 0 s)))))
set_option maxRecDepth 100000 in
set_option maxHeartbeats 4000000 in
theorem bModel_repaired {G : GT} {E : ET} {o : Nat} {s mi : MI} {z1 : Int} {w : MI} (g : gL E o)  (h : fModel_repaired z1 s = some w) : cN G yX10_repaired cX10_repaired 5 none 2 44 [.inr o, .inl z1] E (sm_gl o 10 s mi) (none, E, sm_gl o 10 w mi) := by
  have hN1 := g.1
  have hN2 := g.2.1
  unfold fModel_repaired at h
  refine sm_meth (by decide +kernel) (Nat.le_of_ble_eq_true rfl) ?_
  show sM (xModel_repaired G) 0 [some (.inr o), some (.inl z1), none, none, none] [] E (sm_gl o 10 s mi) _
  refine sm_aload_n dX10_repaired_0 rfl ?_
  refine sm_iload_n dX10_repaired_1 rfl ?_
  refine sm_iconst dX10_repaired_2 ?_
  obtain ⟨p1, hp2, h⟩ := sl_bind h
  have hc3 := bModel_ofPatrol (G := G) (E := E) (o := o) (s := s) (mi := mi) g  hp2
  refine sc_callV1 (avs := [.inl z1, .inl 5]) (st := []) lk_RX10_88 rfl vf_X10_ofPatrol hc3 ⟨(Nat.le_of_ble_eq_true rfl), (Nat.le_of_ble_eq_true rfl)⟩ ⟨rfl, (Nat.le_of_ble_eq_true rfl)⟩ g.2.2.1 (by omega) rfl dX10_repaired_3 ?_
  refine sm_istore_n dX10_repaired_6 (Nat.le_of_ble_eq_true rfl) ?_
  refine sm_aload_n dX10_repaired_7 rfl ?_
  refine sm_aload_n dX10_repaired_8 rfl ?_
  refine sm_iload_n dX10_repaired_9 rfl ?_
  refine sm_iconst dX10_repaired_10 ?_
  obtain ⟨p4, hp5, h⟩ := sl_bind h
  have hc6 := bModel_ofCall (G := G) (E := E) (o := o) (s := s) (mi := mi) g  hp5
  refine sc_callV1 (avs := [.inl p1, .inl 0]) (st := [.inr o]) lk_RX10_72 rfl vf_X10_ofCall hc6 ⟨(Nat.le_of_ble_eq_true rfl), (Nat.le_of_ble_eq_true rfl)⟩ ⟨rfl, (Nat.le_of_ble_eq_true rfl)⟩ g.2.2.1 (by omega) rfl dX10_repaired_11 ?_
  refine sm_iconst dX10_repaired_14 ?_
  obtain ⟨p7, hp8, h⟩ := sl_bind h
  have hc9 := bModel_ofMember (G := G) (E := E) (o := o) (s := s) (mi := mi) g  hp8
  refine sc_callV1 (avs := [.inl p4, .inl 0]) (st := []) lk_RX10_85 rfl vf_X10_ofMember hc9 ⟨(Nat.le_of_ble_eq_true rfl), (Nat.le_of_ble_eq_true rfl)⟩ ⟨rfl, (Nat.le_of_ble_eq_true rfl)⟩ g.2.2.1 (by omega) rfl dX10_repaired_15 ?_
  refine sm_istore_n dX10_repaired_18 (Nat.le_of_ble_eq_true rfl) ?_
  refine sm_bipush dX10_repaired_19 rfl ?_
  refine sm_bipush dX10_repaired_21 rfl ?_
  refine sm_iload_n dX10_repaired_23 rfl ?_
  refine sm_imul dX10_repaired_24 ?_
  refine sm_isub dX10_repaired_25 ?_
  refine sm_iconst dX10_repaired_26 ?_
  refine sm_aload_n dX10_repaired_27 rfl ?_
  refine sm_iload_n dX10_repaired_28 rfl ?_
  refine sm_bipush dX10_repaired_29 rfl ?_
  obtain ⟨p10, hp11, h⟩ := sl_bind h
  have hc12 := bModel_ofCall (G := G) (E := E) (o := o) (s := s) (mi := mi) g  hp11
  refine sc_callV1 (avs := [.inl p1, .inl 10]) (st := [.inl 5, .inl (20 - (10 * p7))]) lk_RX10_72 rfl vf_X10_ofCall hc12 ⟨(Nat.le_of_ble_eq_true rfl), (Nat.le_of_ble_eq_true rfl)⟩ ⟨rfl, (Nat.le_of_ble_eq_true rfl)⟩ g.2.2.1 (by omega) rfl dX10_repaired_31 ?_
  refine sm_imul dX10_repaired_34 ?_
  refine sm_isub dX10_repaired_35 ?_
  refine sm_istore dX10_repaired_36 (Nat.le_of_ble_eq_true rfl) ?_
  refine sm_iload dX10_repaired_38 rfl ?_
  refine sm_if_ge 47 dX10_repaired_40 rfl (fun c39 => ?_) (fun c39 => ?_)
  · rw [if_pos c39] at h
    refine sm_iload dX10_repaired_47 rfl ?_
    exact sm_less (lv' := [some (.inr o), some (.inl z1), some (.inl p1), none, none]) ⟨rfl, rfl, rfl, trivial⟩ (bModel_repaired_j49 g   h)
  · rw [if_neg c39] at h
    refine sm_iconst dX10_repaired_43 ?_
    refine sm_goto 49 dX10_repaired_44 rfl ?_
    exact sm_less (lv' := [some (.inr o), some (.inl z1), some (.inl p1), none, none]) ⟨rfl, rfl, rfl, trivial⟩ (bModel_repaired_j49 g   h)
abbrev xModel_towed (G : GT) : XT := (G, yX10_towed.cls, cX10_towed, 5, none, decide (yX10_towed.name = "<init>"), 3, 66)
def fModel_towed (z1 : Int) (s : MI) : Option (MI) :=
  Option.bind (fModel_ofPatrol z1 5 s) (fun p1 => Option.bind (fModel_ofPatrol z1 13 s) (fun p4 => Option.bind (fModel_ofPatrol z1 12 s) (fun p7 => Option.bind (fModel_laysPatrol z1 4 p7 s) (fun p10 => Option.bind (fModel_ofPatrol z1 8 p10) (fun p13 => Option.bind (fModel_laysPatrol z1 8 (p13 + 1) p10) (fun p16 => Option.bind (fModel_laysCall p1 1 p7 p16) (fun p19 => Option.bind (fModel_ofGarage p4 0 p19) (fun p22 => (if sm_w p22 = sm_w p7 then if 0 ≤ sm_w ((270 + (4 * p4)) + 2) ∧ sm_w ((270 + (4 * p4)) + 2) < 810 then Option.bind (some (sm_up p19 1 (sm_w ((270 + (4 * p4)) + 2)).toNat ((p19 1 (sm_w ((270 + (4 * p4)) + 2)).toNat) + 1))) (fun s26 => if 0 ≤ sm_w ((270 + (4 * p4)) + 3) ∧ sm_w ((270 + (4 * p4)) + 3) < 810 then Option.bind (some (sm_up s26 1 (sm_w ((270 + (4 * p4)) + 3)).toNat ((s26 1 (sm_w ((270 + (4 * p4)) + 3)).toNat) + 1))) (fun s29 => Option.bind (fModel_laysCall p1 5 6 s29) (fun p31 => Option.bind (fModel_laysCall p1 6 (-5) p31) (fun p34 => Option.bind (fModel_laysCall p1 9 (p34 1 0) p34) (fun p37 => Option.bind (fModel_laysCall p1 11 p4 p37) (fun p40 => Option.bind (fModel_frees z1 p40) (fun p43 => some p43)))))) else none) else none else Option.bind (fModel_leaves z1 p19) (fun p46 => some p46))))))))))
set_option maxRecDepth 100000 in
set_option maxHeartbeats 4000000 in
theorem bModel_towed {G : GT} {E : ET} {o : Nat} {s mi : MI} {z1 : Int} {w : MI} (g : gL E o)  (h : fModel_towed z1 s = some w) : cN G yX10_towed cX10_towed 5 none 3 66 [.inr o, .inl z1] E (sm_gl o 10 s mi) (none, E, sm_gl o 10 w mi) := by
  have hN1 := g.1
  have hN2 := g.2.1
  unfold fModel_towed at h
  refine sm_meth (by decide +kernel) (Nat.le_of_ble_eq_true rfl) ?_
  show sM (xModel_towed G) 0 [some (.inr o), some (.inl z1), none, none, none] [] E (sm_gl o 10 s mi) _
  refine sm_aload_n dX10_towed_0 rfl ?_
  refine sm_iload_n dX10_towed_1 rfl ?_
  refine sm_iconst dX10_towed_2 ?_
  obtain ⟨p1, hp2, h⟩ := sl_bind h
  have hc3 := bModel_ofPatrol (G := G) (E := E) (o := o) (s := s) (mi := mi) g  hp2
  refine sc_callV1 (avs := [.inl z1, .inl 5]) (st := []) lk_RX10_88 rfl vf_X10_ofPatrol hc3 ⟨(Nat.le_of_ble_eq_true rfl), (Nat.le_of_ble_eq_true rfl)⟩ ⟨rfl, (Nat.le_of_ble_eq_true rfl)⟩ g.2.2.1 (by omega) rfl dX10_towed_3 ?_
  refine sm_istore_n dX10_towed_6 (Nat.le_of_ble_eq_true rfl) ?_
  refine sm_aload_n dX10_towed_7 rfl ?_
  refine sm_iload_n dX10_towed_8 rfl ?_
  refine sm_bipush dX10_towed_9 rfl ?_
  obtain ⟨p4, hp5, h⟩ := sl_bind h
  have hc6 := bModel_ofPatrol (G := G) (E := E) (o := o) (s := s) (mi := mi) g  hp5
  refine sc_callV1 (avs := [.inl z1, .inl 13]) (st := []) lk_RX10_88 rfl vf_X10_ofPatrol hc6 ⟨(Nat.le_of_ble_eq_true rfl), (Nat.le_of_ble_eq_true rfl)⟩ ⟨rfl, (Nat.le_of_ble_eq_true rfl)⟩ g.2.2.1 (by omega) rfl dX10_towed_11 ?_
  refine sm_istore_n dX10_towed_14 (Nat.le_of_ble_eq_true rfl) ?_
  refine sm_aload_n dX10_towed_15 rfl ?_
  refine sm_iload_n dX10_towed_16 rfl ?_
  refine sm_bipush dX10_towed_17 rfl ?_
  obtain ⟨p7, hp8, h⟩ := sl_bind h
  have hc9 := bModel_ofPatrol (G := G) (E := E) (o := o) (s := s) (mi := mi) g  hp8
  refine sc_callV1 (avs := [.inl z1, .inl 12]) (st := []) lk_RX10_88 rfl vf_X10_ofPatrol hc9 ⟨(Nat.le_of_ble_eq_true rfl), (Nat.le_of_ble_eq_true rfl)⟩ ⟨rfl, (Nat.le_of_ble_eq_true rfl)⟩ g.2.2.1 (by omega) rfl dX10_towed_19 ?_
  refine sm_istore dX10_towed_22 (Nat.le_of_ble_eq_true rfl) ?_
  refine sm_aload_n dX10_towed_24 rfl ?_
  refine sm_iload_n dX10_towed_25 rfl ?_
  refine sm_iconst dX10_towed_26 ?_
  refine sm_iload dX10_towed_27 rfl ?_
  obtain ⟨p10, hp11, h⟩ := sl_bind h
  have hc12 := bModel_laysPatrol (G := G) (E := E) (o := o) (s := s) (mi := mi) g  hp11
  refine sc_callV0 (avs := [.inl z1, .inl 4, .inl p7]) (st := []) lk_RX10_64 rfl vf_X10_laysPatrol hc12 ⟨(Nat.le_of_ble_eq_true rfl), (Nat.le_of_ble_eq_true rfl)⟩ ⟨rfl, (Nat.le_of_ble_eq_true rfl)⟩ g.2.2.1 (by omega) rfl dX10_towed_29 ?_
  refine sm_aload_n dX10_towed_32 rfl ?_
  refine sm_iload_n dX10_towed_33 rfl ?_
  refine sm_bipush dX10_towed_34 rfl ?_
  refine sm_aload_n dX10_towed_36 rfl ?_
  refine sm_iload_n dX10_towed_37 rfl ?_
  refine sm_bipush dX10_towed_38 rfl ?_
  obtain ⟨p13, hp14, h⟩ := sl_bind h
  have hc15 := bModel_ofPatrol (G := G) (E := E) (o := o) (s := p10) (mi := mi) g  hp14
  refine sc_callV1 (avs := [.inl z1, .inl 8]) (st := [.inl 8, .inl z1, .inr o]) lk_RX10_88 rfl vf_X10_ofPatrol hc15 ⟨(Nat.le_of_ble_eq_true rfl), (Nat.le_of_ble_eq_true rfl)⟩ ⟨rfl, (Nat.le_of_ble_eq_true rfl)⟩ g.2.2.1 (by omega) rfl dX10_towed_40 ?_
  refine sm_iconst dX10_towed_43 ?_
  refine sm_iadd dX10_towed_44 ?_
  obtain ⟨p16, hp17, h⟩ := sl_bind h
  have hc18 := bModel_laysPatrol (G := G) (E := E) (o := o) (s := p10) (mi := mi) g  hp17
  refine sc_callV0 (avs := [.inl z1, .inl 8, .inl (p13 + 1)]) (st := []) lk_RX10_64 rfl vf_X10_laysPatrol hc18 ⟨(Nat.le_of_ble_eq_true rfl), (Nat.le_of_ble_eq_true rfl)⟩ ⟨rfl, (Nat.le_of_ble_eq_true rfl)⟩ g.2.2.1 (by omega) rfl dX10_towed_45 ?_
  refine sm_aload_n dX10_towed_48 rfl ?_
  refine sm_iload_n dX10_towed_49 rfl ?_
  refine sm_iconst dX10_towed_50 ?_
  refine sm_iload dX10_towed_51 rfl ?_
  obtain ⟨p19, hp20, h⟩ := sl_bind h
  have hc21 := bModel_laysCall (G := G) (E := E) (o := o) (s := p16) (mi := mi) g  hp20
  refine sc_callV0 (avs := [.inl p1, .inl 1, .inl p7]) (st := []) lk_RX10_82 rfl vf_X10_laysCall hc21 ⟨(Nat.le_of_ble_eq_true rfl), (Nat.le_of_ble_eq_true rfl)⟩ ⟨rfl, (Nat.le_of_ble_eq_true rfl)⟩ g.2.2.1 (by omega) rfl dX10_towed_53 ?_
  refine sm_aload_n dX10_towed_56 rfl ?_
  refine sm_iload_n dX10_towed_57 rfl ?_
  refine sm_iconst dX10_towed_58 ?_
  obtain ⟨p22, hp23, h⟩ := sl_bind h
  have hc24 := bModel_ofGarage (G := G) (E := E) (o := o) (s := p19) (mi := mi) g  hp23
  refine sc_callV1 (avs := [.inl p4, .inl 0]) (st := []) lk_RX10_117 rfl vf_X10_ofGarage hc24 ⟨(Nat.le_of_ble_eq_true rfl), (Nat.le_of_ble_eq_true rfl)⟩ ⟨rfl, (Nat.le_of_ble_eq_true rfl)⟩ g.2.2.1 (by omega) rfl dX10_towed_59 ?_
  refine sm_iload dX10_towed_62 rfl ?_
  refine sc_icmp_eq (X' := sm_w p22) (Y' := sm_w p7) 73 dX10_towed_64 rfl rfl rfl (fun c49 => ?_) (fun c49 => ?_)
  · rw [if_pos c49] at h
    refine sm_aload_n dX10_towed_73 rfl ?_
    refine sm_getR lf_RX10_7 fR_7_0 g.2.2.1 (by omega) g.2.2.2.1.2 dX10_towed_74 ?_
    refine sm_sipush dX10_towed_77 rfl ?_
    refine sm_iconst dX10_towed_80 ?_
    refine sm_iload_n dX10_towed_81 rfl ?_
    refine sm_imul dX10_towed_82 ?_
    refine sm_iadd dX10_towed_83 ?_
    refine sm_iconst dX10_towed_84 ?_
    refine sm_iadd dX10_towed_85 ?_
    refine sm_dup2 dX10_towed_86 ?_
    obtain ⟨q25, h⟩ := sl_guard h
    have xq25 := (sl_ix (m := 810) q25).2
    refine sl_ialdk (D := 1) (k := (sm_w ((270 + (4 * p4)) + 2)).toNat) g.2.2.2.1.1 rfl (by omega) hN2 (sl_ix (m := 810) q25) dX10_towed_87 ?_
    refine sm_iconst dX10_towed_88 ?_
    refine sm_iadd dX10_towed_89 ?_
    refine sl_iastk (D := 1) (k := (sm_w ((270 + (4 * p4)) + 2)).toNat) g.2.2.2.1.1 rfl (by omega) ⟨hN1, hN2⟩ (sl_ix (m := 810) q25) dX10_towed_90 ?_
    obtain ⟨s26, hs27, h⟩ := sl_bind h
    rw [Option.some.inj hs27]
    refine sm_aload_n dX10_towed_91 rfl ?_
    refine sm_getR lf_RX10_7 fR_7_0 g.2.2.1 (by omega) g.2.2.2.1.2 dX10_towed_92 ?_
    refine sm_sipush dX10_towed_95 rfl ?_
    refine sm_iconst dX10_towed_98 ?_
    refine sm_iload_n dX10_towed_99 rfl ?_
    refine sm_imul dX10_towed_100 ?_
    refine sm_iadd dX10_towed_101 ?_
    refine sm_iconst dX10_towed_102 ?_
    refine sm_iadd dX10_towed_103 ?_
    refine sm_dup2 dX10_towed_104 ?_
    obtain ⟨q28, h⟩ := sl_guard h
    have xq28 := (sl_ix (m := 810) q28).2
    refine sl_ialdk (D := 1) (k := (sm_w ((270 + (4 * p4)) + 3)).toNat) g.2.2.2.1.1 rfl (by omega) hN2 (sl_ix (m := 810) q28) dX10_towed_105 ?_
    refine sm_iconst dX10_towed_106 ?_
    refine sm_iadd dX10_towed_107 ?_
    refine sl_iastk (D := 1) (k := (sm_w ((270 + (4 * p4)) + 3)).toNat) g.2.2.2.1.1 rfl (by omega) ⟨hN1, hN2⟩ (sl_ix (m := 810) q28) dX10_towed_108 ?_
    obtain ⟨s29, hs30, h⟩ := sl_bind h
    rw [Option.some.inj hs30]
    refine sm_aload_n dX10_towed_109 rfl ?_
    refine sm_iload_n dX10_towed_110 rfl ?_
    refine sm_iconst dX10_towed_111 ?_
    refine sm_bipush dX10_towed_112 rfl ?_
    obtain ⟨p31, hp32, h⟩ := sl_bind h
    have hc33 := bModel_laysCall (G := G) (E := E) (o := o) (s := s29) (mi := mi) g  hp32
    refine sc_callV0 (avs := [.inl p1, .inl 5, .inl 6]) (st := []) lk_RX10_82 rfl vf_X10_laysCall hc33 ⟨(Nat.le_of_ble_eq_true rfl), (Nat.le_of_ble_eq_true rfl)⟩ ⟨rfl, (Nat.le_of_ble_eq_true rfl)⟩ g.2.2.1 (by omega) rfl dX10_towed_114 ?_
    refine sm_aload_n dX10_towed_117 rfl ?_
    refine sm_iload_n dX10_towed_118 rfl ?_
    refine sm_bipush dX10_towed_119 rfl ?_
    refine sm_bipush dX10_towed_121 rfl ?_
    obtain ⟨p34, hp35, h⟩ := sl_bind h
    have hc36 := bModel_laysCall (G := G) (E := E) (o := o) (s := p31) (mi := mi) g  hp35
    refine sc_callV0 (avs := [.inl p1, .inl 6, .inl (-5)]) (st := []) lk_RX10_82 rfl vf_X10_laysCall hc36 ⟨(Nat.le_of_ble_eq_true rfl), (Nat.le_of_ble_eq_true rfl)⟩ ⟨rfl, (Nat.le_of_ble_eq_true rfl)⟩ g.2.2.1 (by omega) rfl dX10_towed_123 ?_
    refine sm_aload_n dX10_towed_126 rfl ?_
    refine sm_iload_n dX10_towed_127 rfl ?_
    refine sm_bipush dX10_towed_128 rfl ?_
    refine sm_aload_n dX10_towed_130 rfl ?_
    refine sm_getR lf_RX10_7 fR_7_0 g.2.2.1 (by omega) g.2.2.2.1.2 dX10_towed_131 ?_
    refine sm_iconst dX10_towed_134 ?_
    refine sl_ialdk (D := 1) (k := 0) g.2.2.2.1.1 rfl (by omega) hN2 ⟨by decide, by decide⟩ dX10_towed_135 ?_
    obtain ⟨p37, hp38, h⟩ := sl_bind h
    have hc39 := bModel_laysCall (G := G) (E := E) (o := o) (s := p34) (mi := mi) g  hp38
    refine sc_callV0 (avs := [.inl p1, .inl 9, .inl (p34 1 0)]) (st := []) lk_RX10_82 rfl vf_X10_laysCall hc39 ⟨(Nat.le_of_ble_eq_true rfl), (Nat.le_of_ble_eq_true rfl)⟩ ⟨rfl, (Nat.le_of_ble_eq_true rfl)⟩ g.2.2.1 (by omega) rfl dX10_towed_136 ?_
    refine sm_aload_n dX10_towed_139 rfl ?_
    refine sm_iload_n dX10_towed_140 rfl ?_
    refine sm_bipush dX10_towed_141 rfl ?_
    refine sm_iload_n dX10_towed_143 rfl ?_
    obtain ⟨p40, hp41, h⟩ := sl_bind h
    have hc42 := bModel_laysCall (G := G) (E := E) (o := o) (s := p37) (mi := mi) g  hp41
    refine sc_callV0 (avs := [.inl p1, .inl 11, .inl p4]) (st := []) lk_RX10_82 rfl vf_X10_laysCall hc42 ⟨(Nat.le_of_ble_eq_true rfl), (Nat.le_of_ble_eq_true rfl)⟩ ⟨rfl, (Nat.le_of_ble_eq_true rfl)⟩ g.2.2.1 (by omega) rfl dX10_towed_144 ?_
    refine sm_aload_n dX10_towed_147 rfl ?_
    refine sm_iload_n dX10_towed_148 rfl ?_
    obtain ⟨p43, hp44, h⟩ := sl_bind h
    have hc45 := bModel_frees (G := G) (E := E) (o := o) (s := p40) (mi := mi) g  hp44
    refine sc_callV0 (avs := [.inl z1]) (st := []) lk_RX10_68 rfl vf_X10_frees hc45 ⟨(Nat.le_of_ble_eq_true rfl), (Nat.le_of_ble_eq_true rfl)⟩ ⟨rfl, (Nat.le_of_ble_eq_true rfl)⟩ g.2.2.1 (by omega) rfl dX10_towed_149 ?_
    cases h
    exact sm_return rfl dX10_towed_152
  · rw [if_neg c49] at h
    refine sm_aload_n dX10_towed_67 rfl ?_
    refine sm_iload_n dX10_towed_68 rfl ?_
    obtain ⟨p46, hp47, h⟩ := sl_bind h
    have hc48 := bModel_leaves (G := G) (E := E) (o := o) (s := p19) (mi := mi) g  hp47
    refine sc_callV0 (avs := [.inl z1]) (st := []) lk_RX10_126 rfl vf_X10_leaves hc48 ⟨(Nat.le_of_ble_eq_true rfl), (Nat.le_of_ble_eq_true rfl)⟩ ⟨rfl, (Nat.le_of_ble_eq_true rfl)⟩ g.2.2.1 (by omega) rfl dX10_towed_69 ?_
    cases h
    exact sm_return rfl dX10_towed_72
abbrev xModel_waits (G : GT) : XT := (G, yX10_waits.cls, cX10_waits, 2, (some .boolean), decide (yX10_waits.name = "<init>"), 1, 22)
def fModel_waits_j31  (s : MI) : Option (Int) :=
  some 1
set_option maxRecDepth 100000 in
set_option maxHeartbeats 4000000 in
theorem bModel_waits_j31 {G : GT} {E : ET} {o : Nat} {s mi : MI}  {w : Int} (g : gL E o)  (h : fModel_waits_j31 s = some w) : sM (xModel_waits G) 31 [none, none] [] E (sm_gl o 10 s mi) (some (.inl w), E, (sm_gl o 10 s mi)) := by
  have hN1 := g.1
  have hN2 := g.2.1
  unfold fModel_waits_j31 at h
  refine sm_iconst dX10_waits_31 ?_
  refine sm_goto 36 dX10_waits_32 rfl ?_
  cases h
  exact sm_ireturn dX10_waits_36 (Or.inr ⟨rfl, Or.inr rfl⟩)
def fModel_waits (z1 : Int) (s : MI) : Option (Int) :=
  Option.bind (fModel_ofCall z1 5 s) (fun p1 => (if sm_w p1 = 0 then fModel_waits_j31 s else Option.bind (fModel_ofCall z1 5 s) (fun p4 => (if sm_w p4 = 3 then Option.bind (fModel_ofCall z1 6 s) (fun p7 => (if sm_w p7 = (-5) then fModel_waits_j31 s else some 0)) else some 0))))
set_option maxRecDepth 100000 in
set_option maxHeartbeats 4000000 in
theorem bModel_waits {G : GT} {E : ET} {o : Nat} {s mi : MI} {z1 : Int} {w : Int} (g : gL E o)  (h : fModel_waits z1 s = some w) : cN G yX10_waits cX10_waits 2 (some .boolean) 1 22 [.inr o, .inl z1] E (sm_gl o 10 s mi) (some (.inl w), E, (sm_gl o 10 s mi)) := by
  have hN1 := g.1
  have hN2 := g.2.1
  unfold fModel_waits at h
  refine sm_meth (by decide +kernel) (Nat.le_of_ble_eq_true rfl) ?_
  show sM (xModel_waits G) 0 [some (.inr o), some (.inl z1)] [] E (sm_gl o 10 s mi) _
  refine sm_aload_n dX10_waits_0 rfl ?_
  refine sm_iload_n dX10_waits_1 rfl ?_
  refine sm_iconst dX10_waits_2 ?_
  obtain ⟨p1, hp2, h⟩ := sl_bind h
  have hc3 := bModel_ofCall (G := G) (E := E) (o := o) (s := s) (mi := mi) g  hp2
  refine sc_callV1 (avs := [.inl z1, .inl 5]) (st := []) lk_RX10_72 rfl vf_X10_ofCall hc3 ⟨(Nat.le_of_ble_eq_true rfl), (Nat.le_of_ble_eq_true rfl)⟩ ⟨rfl, (Nat.le_of_ble_eq_true rfl)⟩ g.2.2.1 (by omega) rfl dX10_waits_3 ?_
  refine sm_if_eq 31 dX10_waits_6 rfl (fun c12 => ?_) (fun c12 => ?_)
  · rw [if_pos c12] at h
    exact sm_less (lv' := [none, none]) trivial (bModel_waits_j31 g   h)
  · rw [if_neg c12] at h
    refine sm_aload_n dX10_waits_9 rfl ?_
    refine sm_iload_n dX10_waits_10 rfl ?_
    refine sm_iconst dX10_waits_11 ?_
    obtain ⟨p4, hp5, h⟩ := sl_bind h
    have hc6 := bModel_ofCall (G := G) (E := E) (o := o) (s := s) (mi := mi) g  hp5
    refine sc_callV1 (avs := [.inl z1, .inl 5]) (st := []) lk_RX10_72 rfl vf_X10_ofCall hc6 ⟨(Nat.le_of_ble_eq_true rfl), (Nat.le_of_ble_eq_true rfl)⟩ ⟨rfl, (Nat.le_of_ble_eq_true rfl)⟩ g.2.2.1 (by omega) rfl dX10_waits_12 ?_
    refine sm_iconst dX10_waits_15 ?_
    refine sc_icmp_ne (X' := sm_w p4) (Y' := 3) 35 dX10_waits_16 rfl rfl (by decide) (fun c11 => ?_) (fun c11 => ?_)
    · rw [if_neg c11] at h
      refine sm_iconst dX10_waits_35 ?_
      cases h
      exact sm_ireturn dX10_waits_36 (Or.inr ⟨rfl, Or.inl rfl⟩)
    · rw [if_pos c11] at h
      refine sm_aload_n dX10_waits_19 rfl ?_
      refine sm_iload_n dX10_waits_20 rfl ?_
      refine sm_bipush dX10_waits_21 rfl ?_
      obtain ⟨p7, hp8, h⟩ := sl_bind h
      have hc9 := bModel_ofCall (G := G) (E := E) (o := o) (s := s) (mi := mi) g  hp8
      refine sc_callV1 (avs := [.inl z1, .inl 6]) (st := []) lk_RX10_72 rfl vf_X10_ofCall hc9 ⟨(Nat.le_of_ble_eq_true rfl), (Nat.le_of_ble_eq_true rfl)⟩ ⟨rfl, (Nat.le_of_ble_eq_true rfl)⟩ g.2.2.1 (by omega) rfl dX10_waits_23 ?_
      refine sm_bipush dX10_waits_26 rfl ?_
      refine sc_icmp_ne (X' := sm_w p7) (Y' := (-5)) 35 dX10_waits_28 rfl rfl (by decide) (fun c10 => ?_) (fun c10 => ?_)
      · rw [if_neg c10] at h
        refine sm_iconst dX10_waits_35 ?_
        cases h
        exact sm_ireturn dX10_waits_36 (Or.inr ⟨rfl, Or.inl rfl⟩)
      · rw [if_pos c10] at h
        exact sm_less (lv' := [none, none]) trivial (bModel_waits_j31 g   h)
abbrev xModel_rest (G : GT) : XT := (G, yX10_rest.cls, cX10_rest, 2, (some .int), decide (yX10_rest.name = "<init>"), 1, 22)
def fModel_rest (z1 : Int) (s : MI) : Option (Int) :=
  Option.bind (fModel_ofCall z1 3 s) (fun p1 => Option.bind (fModel_ofCall z1 4 s) (fun p4 => some (p1 - ((s 1 0) - p4))))
set_option maxRecDepth 100000 in
set_option maxHeartbeats 4000000 in
theorem bModel_rest {G : GT} {E : ET} {o : Nat} {s mi : MI} {z1 : Int} {w : Int} (g : gL E o)  (h : fModel_rest z1 s = some w) : cN G yX10_rest cX10_rest 2 (some .int) 1 22 [.inr o, .inl z1] E (sm_gl o 10 s mi) (some (.inl w), E, (sm_gl o 10 s mi)) := by
  have hN1 := g.1
  have hN2 := g.2.1
  unfold fModel_rest at h
  refine sm_meth (by decide +kernel) (Nat.le_of_ble_eq_true rfl) ?_
  show sM (xModel_rest G) 0 [some (.inr o), some (.inl z1)] [] E (sm_gl o 10 s mi) _
  refine sm_aload_n dX10_rest_0 rfl ?_
  refine sm_iload_n dX10_rest_1 rfl ?_
  refine sm_iconst dX10_rest_2 ?_
  obtain ⟨p1, hp2, h⟩ := sl_bind h
  have hc3 := bModel_ofCall (G := G) (E := E) (o := o) (s := s) (mi := mi) g  hp2
  refine sc_callV1 (avs := [.inl z1, .inl 3]) (st := []) lk_RX10_72 rfl vf_X10_ofCall hc3 ⟨(Nat.le_of_ble_eq_true rfl), (Nat.le_of_ble_eq_true rfl)⟩ ⟨rfl, (Nat.le_of_ble_eq_true rfl)⟩ g.2.2.1 (by omega) rfl dX10_rest_3 ?_
  refine sm_aload_n dX10_rest_6 rfl ?_
  refine sm_getR lf_RX10_7 fR_7_0 g.2.2.1 (by omega) g.2.2.2.1.2 dX10_rest_7 ?_
  refine sm_iconst dX10_rest_10 ?_
  refine sl_ialdk (D := 1) (k := 0) g.2.2.2.1.1 rfl (by omega) hN2 ⟨by decide, by decide⟩ dX10_rest_11 ?_
  refine sm_aload_n dX10_rest_12 rfl ?_
  refine sm_iload_n dX10_rest_13 rfl ?_
  refine sm_iconst dX10_rest_14 ?_
  obtain ⟨p4, hp5, h⟩ := sl_bind h
  have hc6 := bModel_ofCall (G := G) (E := E) (o := o) (s := s) (mi := mi) g  hp5
  refine sc_callV1 (avs := [.inl z1, .inl 4]) (st := [.inl (s 1 0), .inl p1]) lk_RX10_72 rfl vf_X10_ofCall hc6 ⟨(Nat.le_of_ble_eq_true rfl), (Nat.le_of_ble_eq_true rfl)⟩ ⟨rfl, (Nat.le_of_ble_eq_true rfl)⟩ g.2.2.1 (by omega) rfl dX10_rest_15 ?_
  refine sm_isub dX10_rest_18 ?_
  refine sm_isub dX10_rest_19 ?_
  cases h
  exact sm_ireturn dX10_rest_20 (Or.inl rfl)
abbrev xModel_isAhead (G : GT) : XT := (G, yX10_isAhead.cls, cX10_isAhead, 5, (some .boolean), decide (yX10_isAhead.name = "<init>"), 2, 43)
def fModel_isAhead (z1 : Int) (z2 : Int) (s : MI) : Option (Int) :=
  Option.bind (fModel_rest z1 s) (fun p1 => Option.bind (fModel_rest z2 s) (fun p4 => (if sm_w p1 = sm_w p4 then Option.bind (fModel_ofCall z1 0 s) (fun p7 => Option.bind (fModel_ofMember p7 0 s) (fun p10 => Option.bind (fModel_ofCall z2 0 s) (fun p13 => Option.bind (fModel_ofMember p13 0 s) (fun p16 => (if sm_w p10 = sm_w p16 then (if sm_w z2 ≤ sm_w z1 then some 0 else some 1) else (if sm_w p10 ≤ sm_w p16 then some 0 else some 1)))))) else Option.bind (fModel_rest z1 s) (fun p22 => Option.bind (fModel_rest z2 s) (fun p25 => (if sm_w p25 ≤ sm_w p22 then some 0 else some 1))))))
set_option maxRecDepth 100000 in
set_option maxHeartbeats 4000000 in
theorem bModel_isAhead {G : GT} {E : ET} {o : Nat} {s mi : MI} {z1 : Int} {z2 : Int} {w : Int} (g : gL E o)  (h : fModel_isAhead z1 z2 s = some w) : cN G yX10_isAhead cX10_isAhead 5 (some .boolean) 2 43 [.inr o, .inl z1, .inl z2] E (sm_gl o 10 s mi) (some (.inl w), E, (sm_gl o 10 s mi)) := by
  have hN1 := g.1
  have hN2 := g.2.1
  unfold fModel_isAhead at h
  refine sm_meth (by decide +kernel) (Nat.le_of_ble_eq_true rfl) ?_
  show sM (xModel_isAhead G) 0 [some (.inr o), some (.inl z1), some (.inl z2), none, none] [] E (sm_gl o 10 s mi) _
  refine sm_aload_n dX10_isAhead_0 rfl ?_
  refine sm_iload_n dX10_isAhead_1 rfl ?_
  obtain ⟨p1, hp2, h⟩ := sl_bind h
  have hc3 := bModel_rest (G := G) (E := E) (o := o) (s := s) (mi := mi) g  hp2
  refine sc_callV1 (avs := [.inl z1]) (st := []) lk_RX10_138 rfl vf_X10_rest hc3 ⟨(Nat.le_of_ble_eq_true rfl), (Nat.le_of_ble_eq_true rfl)⟩ ⟨rfl, (Nat.le_of_ble_eq_true rfl)⟩ g.2.2.1 (by omega) rfl dX10_isAhead_2 ?_
  refine sm_aload_n dX10_isAhead_5 rfl ?_
  refine sm_iload_n dX10_isAhead_6 rfl ?_
  obtain ⟨p4, hp5, h⟩ := sl_bind h
  have hc6 := bModel_rest (G := G) (E := E) (o := o) (s := s) (mi := mi) g  hp5
  refine sc_callV1 (avs := [.inl z2]) (st := [.inl p1]) lk_RX10_138 rfl vf_X10_rest hc6 ⟨(Nat.le_of_ble_eq_true rfl), (Nat.le_of_ble_eq_true rfl)⟩ ⟨rfl, (Nat.le_of_ble_eq_true rfl)⟩ g.2.2.1 (by omega) rfl dX10_isAhead_7 ?_
  refine sc_icmp_eq (X' := sm_w p1) (Y' := sm_w p4) 32 dX10_isAhead_10 rfl rfl rfl (fun c29 => ?_) (fun c29 => ?_)
  · rw [if_pos c29] at h
    refine sm_aload_n dX10_isAhead_32 rfl ?_
    refine sm_aload_n dX10_isAhead_33 rfl ?_
    refine sm_iload_n dX10_isAhead_34 rfl ?_
    refine sm_iconst dX10_isAhead_35 ?_
    obtain ⟨p7, hp8, h⟩ := sl_bind h
    have hc9 := bModel_ofCall (G := G) (E := E) (o := o) (s := s) (mi := mi) g  hp8
    refine sc_callV1 (avs := [.inl z1, .inl 0]) (st := [.inr o]) lk_RX10_72 rfl vf_X10_ofCall hc9 ⟨(Nat.le_of_ble_eq_true rfl), (Nat.le_of_ble_eq_true rfl)⟩ ⟨rfl, (Nat.le_of_ble_eq_true rfl)⟩ g.2.2.1 (by omega) rfl dX10_isAhead_36 ?_
    refine sm_iconst dX10_isAhead_39 ?_
    obtain ⟨p10, hp11, h⟩ := sl_bind h
    have hc12 := bModel_ofMember (G := G) (E := E) (o := o) (s := s) (mi := mi) g  hp11
    refine sc_callV1 (avs := [.inl p7, .inl 0]) (st := []) lk_RX10_85 rfl vf_X10_ofMember hc12 ⟨(Nat.le_of_ble_eq_true rfl), (Nat.le_of_ble_eq_true rfl)⟩ ⟨rfl, (Nat.le_of_ble_eq_true rfl)⟩ g.2.2.1 (by omega) rfl dX10_isAhead_40 ?_
    refine sm_istore_n dX10_isAhead_43 (Nat.le_of_ble_eq_true rfl) ?_
    refine sm_aload_n dX10_isAhead_44 rfl ?_
    refine sm_aload_n dX10_isAhead_45 rfl ?_
    refine sm_iload_n dX10_isAhead_46 rfl ?_
    refine sm_iconst dX10_isAhead_47 ?_
    obtain ⟨p13, hp14, h⟩ := sl_bind h
    have hc15 := bModel_ofCall (G := G) (E := E) (o := o) (s := s) (mi := mi) g  hp14
    refine sc_callV1 (avs := [.inl z2, .inl 0]) (st := [.inr o]) lk_RX10_72 rfl vf_X10_ofCall hc15 ⟨(Nat.le_of_ble_eq_true rfl), (Nat.le_of_ble_eq_true rfl)⟩ ⟨rfl, (Nat.le_of_ble_eq_true rfl)⟩ g.2.2.1 (by omega) rfl dX10_isAhead_48 ?_
    refine sm_iconst dX10_isAhead_51 ?_
    obtain ⟨p16, hp17, h⟩ := sl_bind h
    have hc18 := bModel_ofMember (G := G) (E := E) (o := o) (s := s) (mi := mi) g  hp17
    refine sc_callV1 (avs := [.inl p13, .inl 0]) (st := []) lk_RX10_85 rfl vf_X10_ofMember hc18 ⟨(Nat.le_of_ble_eq_true rfl), (Nat.le_of_ble_eq_true rfl)⟩ ⟨rfl, (Nat.le_of_ble_eq_true rfl)⟩ g.2.2.1 (by omega) rfl dX10_isAhead_52 ?_
    refine sm_istore dX10_isAhead_55 (Nat.le_of_ble_eq_true rfl) ?_
    refine sm_iload_n dX10_isAhead_57 rfl ?_
    refine sm_iload dX10_isAhead_58 rfl ?_
    refine sc_icmp_eq (X' := sm_w p10) (Y' := sm_w p16) 77 dX10_isAhead_60 rfl rfl rfl (fun c21 => ?_) (fun c21 => ?_)
    · rw [if_pos c21] at h
      refine sm_iload_n dX10_isAhead_77 rfl ?_
      refine sm_iload_n dX10_isAhead_78 rfl ?_
      refine sc_icmp_ge (X' := sm_w z1) (Y' := sm_w z2) 86 dX10_isAhead_79 rfl rfl rfl (fun c19 => ?_) (fun c19 => ?_)
      · rw [if_pos c19] at h
        refine sm_iconst dX10_isAhead_86 ?_
        cases h
        exact sm_ireturn dX10_isAhead_87 (Or.inr ⟨rfl, Or.inl rfl⟩)
      · rw [if_neg c19] at h
        refine sm_iconst dX10_isAhead_82 ?_
        refine sm_goto 87 dX10_isAhead_83 rfl ?_
        cases h
        exact sm_ireturn dX10_isAhead_87 (Or.inr ⟨rfl, Or.inr rfl⟩)
    · rw [if_neg c21] at h
      refine sm_iload_n dX10_isAhead_63 rfl ?_
      refine sm_iload dX10_isAhead_64 rfl ?_
      refine sc_icmp_le (X' := sm_w p10) (Y' := sm_w p16) 73 dX10_isAhead_66 rfl rfl rfl (fun c20 => ?_) (fun c20 => ?_)
      · rw [if_pos c20] at h
        refine sm_iconst dX10_isAhead_73 ?_
        refine sm_goto 87 dX10_isAhead_74 rfl ?_
        cases h
        exact sm_ireturn dX10_isAhead_87 (Or.inr ⟨rfl, Or.inl rfl⟩)
      · rw [if_neg c20] at h
        refine sm_iconst dX10_isAhead_69 ?_
        refine sm_goto 87 dX10_isAhead_70 rfl ?_
        cases h
        exact sm_ireturn dX10_isAhead_87 (Or.inr ⟨rfl, Or.inr rfl⟩)
  · rw [if_neg c29] at h
    refine sm_aload_n dX10_isAhead_13 rfl ?_
    refine sm_iload_n dX10_isAhead_14 rfl ?_
    obtain ⟨p22, hp23, h⟩ := sl_bind h
    have hc24 := bModel_rest (G := G) (E := E) (o := o) (s := s) (mi := mi) g  hp23
    refine sc_callV1 (avs := [.inl z1]) (st := []) lk_RX10_138 rfl vf_X10_rest hc24 ⟨(Nat.le_of_ble_eq_true rfl), (Nat.le_of_ble_eq_true rfl)⟩ ⟨rfl, (Nat.le_of_ble_eq_true rfl)⟩ g.2.2.1 (by omega) rfl dX10_isAhead_15 ?_
    refine sm_aload_n dX10_isAhead_18 rfl ?_
    refine sm_iload_n dX10_isAhead_19 rfl ?_
    obtain ⟨p25, hp26, h⟩ := sl_bind h
    have hc27 := bModel_rest (G := G) (E := E) (o := o) (s := s) (mi := mi) g  hp26
    refine sc_callV1 (avs := [.inl z2]) (st := [.inl p22]) lk_RX10_138 rfl vf_X10_rest hc27 ⟨(Nat.le_of_ble_eq_true rfl), (Nat.le_of_ble_eq_true rfl)⟩ ⟨rfl, (Nat.le_of_ble_eq_true rfl)⟩ g.2.2.1 (by omega) rfl dX10_isAhead_20 ?_
    refine sc_icmp_ge (X' := sm_w p22) (Y' := sm_w p25) 30 dX10_isAhead_23 rfl rfl rfl (fun c28 => ?_) (fun c28 => ?_)
    · rw [if_pos c28] at h
      refine sm_iconst dX10_isAhead_30 ?_
      cases h
      exact sm_ireturn dX10_isAhead_31 (Or.inr ⟨rfl, Or.inl rfl⟩)
    · rw [if_neg c28] at h
      refine sm_iconst dX10_isAhead_26 ?_
      refine sm_goto 31 dX10_isAhead_27 rfl ?_
      cases h
      exact sm_ireturn dX10_isAhead_31 (Or.inr ⟨rfl, Or.inr rfl⟩)
abbrev xModel_laysRow (G : GT) : XT := (G, yX10_laysRow.cls, cX10_laysRow, 3, none, decide (yX10_laysRow.name = "<init>"), 3, 67)
abbrev qModel_laysRow_l7 (G : GT) (E : ET) (o : Nat) (mi : MI)  (r : RT) (t : Int × MI) : Prop := sM (xModel_laysRow G) 7 [some (.inr o), some (.inl t.1), none] [] E (sm_gl o 10 t.2 mi) r
abbrev kModel_laysRow_l7 (G : GT) (E : ET) (o : Nat) (mi : MI)  (r : RT) (x : MI) : Prop := sM (xModel_laysRow G) 94 [none, none, none] [] E (sm_gl o 10 x mi) r
def fModel_laysRow_j88_l7 (z1 : Int) (s : MI) : Option ((Int × MI) ⊕ (MI)) :=
  some (.inl ((z1 + 1), s))
set_option maxRecDepth 100000 in
set_option maxHeartbeats 4000000 in
theorem bModel_laysRow_j88_l7 {G : GT} {E : ET} {o : Nat} {s mi : MI} {z1 : Int} {r : RT} {w : (Int × MI) ⊕ (MI)} (g : gL E o)  (h : fModel_laysRow_j88_l7 z1 s = some w) (hK : Sum.elim (qModel_laysRow_l7 G E o mi r) (kModel_laysRow_l7 G E o mi r) w) : sM (xModel_laysRow G) 88 [some (.inr o), some (.inl z1), none] [] E (sm_gl o 10 s mi) r := by
  have hN1 := g.1
  have hN2 := g.2.1
  unfold fModel_laysRow_j88_l7 at h
  refine sm_iinc dX10_laysRow_88 (Nat.le_of_ble_eq_true rfl) rfl ?_
  refine sm_goto 7 dX10_laysRow_91 rfl ?_
  cases h
  exact sm_less (lv' := [some (.inr o), some (.inl (z1 + 1)), none]) ⟨rfl, rfl, trivial⟩ hK
abbrev qModel_laysRow_l31 (G : GT) (E : ET) (o : Nat) (mi : MI) (z1 : Int) (r : RT) (t : Int × MI) : Prop := sM (xModel_laysRow G) 31 [some (.inr o), some (.inl z1), some (.inl t.1)] [] E (sm_gl o 10 t.2 mi) r
abbrev kModel_laysRow_l31 (G : GT) (E : ET) (o : Nat) (mi : MI) (z1 : Int) (r : RT) (x : Int × MI) : Prop := sM (xModel_laysRow G) 71 [some (.inr o), some (.inl z1), some (.inl x.1)] [] E (sm_gl o 10 x.2 mi) r
def fModel_laysRow_l31 (z1 : Int) (z2 : Int) (s : MI) : Option ((Int × MI) ⊕ (Int × MI)) :=
  (if sm_w z2 ≤ 0 then some (.inr (z2, s)) else if 0 ≤ sm_w (z2 - 1) ∧ sm_w (z2 - 1) < 40 then Option.bind (fModel_isAhead z1 (s 8 (sm_w (z2 - 1)).toNat) s) (fun p7 => (if sm_w p7 = 0 then some (.inr (z2, s)) else if 0 ≤ sm_w z2 ∧ sm_w z2 < 40 then Option.bind (some (sm_up s 8 (sm_w z2).toNat (s 8 (sm_w (z2 - 1)).toNat))) (fun s11 => some (.inl ((z2 + (-1)), s11))) else none)) else none)
set_option maxRecDepth 100000 in
set_option maxHeartbeats 4000000 in
theorem bModel_laysRow_l31 {G : GT} {E : ET} {o : Nat} {s mi : MI} {z1 : Int} {z2 : Int} {r : RT} {w : (Int × MI) ⊕ (Int × MI)} (g : gL E o)  (h : fModel_laysRow_l31 z1 z2 s = some w) (hK : Sum.elim (qModel_laysRow_l31 G E o mi z1 r) (kModel_laysRow_l31 G E o mi z1 r) w) : qModel_laysRow_l31 G E o mi z1 r (z2, s) := by
  have hN1 := g.1
  have hN2 := g.2.1
  unfold fModel_laysRow_l31 at h
  show sM (xModel_laysRow G) 31 [some (.inr o), some (.inl z1), some (.inl z2)] [] E (sm_gl o 10 s mi) r
  refine sm_iload_n dX10_laysRow_31 rfl ?_
  refine sm_if_le 71 dX10_laysRow_32 rfl (fun c14 => ?_) (fun c14 => ?_)
  · rw [if_pos c14] at h
    cases h
    exact sm_less (lv' := [some (.inr o), some (.inl z1), some (.inl z2)]) ⟨rfl, rfl, rfl, trivial⟩ hK
  · rw [if_neg c14] at h
    refine sm_aload_n dX10_laysRow_35 rfl ?_
    refine sm_iload_n dX10_laysRow_36 rfl ?_
    refine sm_aload_n dX10_laysRow_37 rfl ?_
    refine sm_getR lf_RX10_31 fR_7_10 g.2.2.1 (by omega) g.2.2.2.2.2.2.2.2.2.2.1.2 dX10_laysRow_38 ?_
    refine sm_iload_n dX10_laysRow_41 rfl ?_
    refine sm_iconst dX10_laysRow_42 ?_
    refine sm_isub dX10_laysRow_43 ?_
    obtain ⟨q6, h⟩ := sl_guard h
    have xq6 := (sl_ix (m := 40) q6).2
    refine sl_ialdk (D := 8) (k := (sm_w (z2 - 1)).toNat) g.2.2.2.2.2.2.2.2.2.2.1.1 rfl (by omega) hN2 (sl_ix (m := 40) q6) dX10_laysRow_44 ?_
    obtain ⟨p7, hp8, h⟩ := sl_bind h
    have hc9 := bModel_isAhead (G := G) (E := E) (o := o) (s := s) (mi := mi) g  hp8
    refine sc_callV1 (avs := [.inl z1, .inl (s 8 (sm_w (z2 - 1)).toNat)]) (st := []) lk_RX10_147 rfl vf_X10_isAhead hc9 ⟨(Nat.le_of_ble_eq_true rfl), (Nat.le_of_ble_eq_true rfl)⟩ ⟨rfl, (Nat.le_of_ble_eq_true rfl)⟩ g.2.2.1 (by omega) rfl dX10_laysRow_45 ?_
    refine sm_if_eq 71 dX10_laysRow_48 rfl (fun c13 => ?_) (fun c13 => ?_)
    · rw [if_pos c13] at h
      cases h
      exact sm_less (lv' := [some (.inr o), some (.inl z1), some (.inl z2)]) ⟨rfl, rfl, rfl, trivial⟩ hK
    · rw [if_neg c13] at h
      refine sm_aload_n dX10_laysRow_51 rfl ?_
      refine sm_getR lf_RX10_31 fR_7_10 g.2.2.1 (by omega) g.2.2.2.2.2.2.2.2.2.2.1.2 dX10_laysRow_52 ?_
      refine sm_iload_n dX10_laysRow_55 rfl ?_
      refine sm_aload_n dX10_laysRow_56 rfl ?_
      refine sm_getR lf_RX10_31 fR_7_10 g.2.2.1 (by omega) g.2.2.2.2.2.2.2.2.2.2.1.2 dX10_laysRow_57 ?_
      refine sm_iload_n dX10_laysRow_60 rfl ?_
      refine sm_iconst dX10_laysRow_61 ?_
      refine sm_isub dX10_laysRow_62 ?_
      refine sl_ialdk (D := 8) (k := (sm_w (z2 - 1)).toNat) g.2.2.2.2.2.2.2.2.2.2.1.1 rfl (by omega) hN2 (sl_ix (m := 40) q6) dX10_laysRow_63 ?_
      obtain ⟨q10, h⟩ := sl_guard h
      have xq10 := (sl_ix (m := 40) q10).2
      refine sl_iastk (D := 8) (k := (sm_w z2).toNat) g.2.2.2.2.2.2.2.2.2.2.1.1 rfl (by omega) ⟨hN1, hN2⟩ (sl_ix (m := 40) q10) dX10_laysRow_64 ?_
      obtain ⟨s11, hs12, h⟩ := sl_bind h
      rw [Option.some.inj hs12]
      refine sm_iinc dX10_laysRow_65 (Nat.le_of_ble_eq_true rfl) rfl ?_
      refine sm_goto 31 dX10_laysRow_68 rfl ?_
      cases h
      exact sm_less (lv' := [some (.inr o), some (.inl z1), some (.inl (z2 + (-1)))]) ⟨rfl, rfl, rfl, trivial⟩ hK
def fModel_laysRow_j71_l7 (z1 : Int) (z2 : Int) (s : MI) : Option ((Int × MI) ⊕ (MI)) :=
  if 0 ≤ sm_w z2 ∧ sm_w z2 < 40 then Option.bind (some (sm_up s 8 (sm_w z2).toNat z1)) (fun s19 => Option.bind (some (sm_up s19 0 11 ((s19 0 11) + 1))) (fun s21 => fModel_laysRow_j88_l7 z1 s21)) else none
set_option maxRecDepth 100000 in
set_option maxHeartbeats 4000000 in
theorem bModel_laysRow_j71_l7 {G : GT} {E : ET} {o : Nat} {s mi : MI} {z1 : Int} {z2 : Int} {r : RT} {w : (Int × MI) ⊕ (MI)} (g : gL E o)  (h : fModel_laysRow_j71_l7 z1 z2 s = some w) (hK : Sum.elim (qModel_laysRow_l7 G E o mi r) (kModel_laysRow_l7 G E o mi r) w) : sM (xModel_laysRow G) 71 [some (.inr o), some (.inl z1), some (.inl z2)] [] E (sm_gl o 10 s mi) r := by
  have hN1 := g.1
  have hN2 := g.2.1
  unfold fModel_laysRow_j71_l7 at h
  refine sm_aload_n dX10_laysRow_71 rfl ?_
  refine sm_getR lf_RX10_31 fR_7_10 g.2.2.1 (by omega) g.2.2.2.2.2.2.2.2.2.2.1.2 dX10_laysRow_72 ?_
  refine sm_iload_n dX10_laysRow_75 rfl ?_
  refine sm_iload_n dX10_laysRow_76 rfl ?_
  obtain ⟨q18, h⟩ := sl_guard h
  have xq18 := (sl_ix (m := 40) q18).2
  refine sl_iastk (D := 8) (k := (sm_w z2).toNat) g.2.2.2.2.2.2.2.2.2.2.1.1 rfl (by omega) ⟨hN1, hN2⟩ (sl_ix (m := 40) q18) dX10_laysRow_77 ?_
  obtain ⟨s19, hs20, h⟩ := sl_bind h
  rw [Option.some.inj hs20]
  refine sm_aload_n dX10_laysRow_78 rfl ?_
  refine sm_dup dX10_laysRow_79 ?_
  refine sl_getI (D := 0) lf_RX10_141 fI_7_11 g.2.2.1 rfl (by omega) hN2 dX10_laysRow_80 ?_
  refine sm_iconst dX10_laysRow_83 ?_
  refine sm_iadd dX10_laysRow_84 ?_
  refine sl_putI (D := 0) lf_RX10_141 fP_7_11 (Or.inl rfl) g.2.2.1 rfl (by omega) ⟨hN1, hN2⟩ dX10_laysRow_85 ?_
  obtain ⟨s21, hs22, h⟩ := sl_bind h
  rw [Option.some.inj hs22]
  exact sm_less (lv' := [some (.inr o), some (.inl z1), none]) ⟨rfl, rfl, trivial⟩ (bModel_laysRow_j88_l7 g   h hK)
def fModel_laysRow_l7 (z1 : Int) (s : MI) : Option ((Int × MI) ⊕ (MI)) :=
  (if sm_w (s 1 9) ≤ sm_w z1 then some (.inr s) else Option.bind (fModel_waits z1 s) (fun p3 => (if sm_w p3 = 0 then fModel_laysRow_j88_l7 z1 s else Option.bind (sl_it (fun (t : Int × MI) => fModel_laysRow_l31 z1 t.1 t.2) sl_fu ((s 0 11), s)) (fun x17 => fModel_laysRow_j71_l7 z1 x17.1 x17.2))))
set_option maxRecDepth 100000 in
set_option maxHeartbeats 4000000 in
theorem bModel_laysRow_l7 {G : GT} {E : ET} {o : Nat} {s mi : MI} {z1 : Int} {r : RT} {w : (Int × MI) ⊕ (MI)} (g : gL E o)  (h : fModel_laysRow_l7 z1 s = some w) (hK : Sum.elim (qModel_laysRow_l7 G E o mi r) (kModel_laysRow_l7 G E o mi r) w) : qModel_laysRow_l7 G E o mi r (z1, s) := by
  have hN1 := g.1
  have hN2 := g.2.1
  unfold fModel_laysRow_l7 at h
  show sM (xModel_laysRow G) 7 [some (.inr o), some (.inl z1), none] [] E (sm_gl o 10 s mi) r
  refine sm_iload_n dX10_laysRow_7 rfl ?_
  refine sm_aload_n dX10_laysRow_8 rfl ?_
  refine sm_getR lf_RX10_7 fR_7_0 g.2.2.1 (by omega) g.2.2.2.1.2 dX10_laysRow_9 ?_
  refine sm_bipush dX10_laysRow_12 rfl ?_
  refine sl_ialdk (D := 1) (k := 9) g.2.2.2.1.1 rfl (by omega) hN2 ⟨by decide, by decide⟩ dX10_laysRow_14 ?_
  refine sc_icmp_ge (X' := sm_w z1) (Y' := sm_w (s 1 9)) 94 dX10_laysRow_15 rfl rfl rfl (fun c24 => ?_) (fun c24 => ?_)
  · rw [if_pos c24] at h
    cases h
    exact sm_less (lv' := [none, none, none]) trivial hK
  · rw [if_neg c24] at h
    refine sm_aload_n dX10_laysRow_18 rfl ?_
    refine sm_iload_n dX10_laysRow_19 rfl ?_
    obtain ⟨p3, hp4, h⟩ := sl_bind h
    have hc5 := bModel_waits (G := G) (E := E) (o := o) (s := s) (mi := mi) g  hp4
    refine sc_callV1 (avs := [.inl z1]) (st := []) lk_RX10_144 rfl vf_X10_waits hc5 ⟨(Nat.le_of_ble_eq_true rfl), (Nat.le_of_ble_eq_true rfl)⟩ ⟨rfl, (Nat.le_of_ble_eq_true rfl)⟩ g.2.2.1 (by omega) rfl dX10_laysRow_20 ?_
    refine sm_if_eq 88 dX10_laysRow_23 rfl (fun c23 => ?_) (fun c23 => ?_)
    · rw [if_pos c23] at h
      exact sm_less (lv' := [some (.inr o), some (.inl z1), none]) ⟨rfl, rfl, trivial⟩ (bModel_laysRow_j88_l7 g   h hK)
    · rw [if_neg c23] at h
      refine sm_aload_n dX10_laysRow_26 rfl ?_
      refine sl_getI (D := 0) lf_RX10_141 fI_7_11 g.2.2.1 rfl (by omega) hN2 dX10_laysRow_27 ?_
      refine sm_istore_n dX10_laysRow_30 (Nat.le_of_ble_eq_true rfl) ?_
      obtain ⟨x17, hy16, h⟩ := sl_bind h
      refine sm_less (lv' := [some (.inr o), some (.inl z1), some (.inl (s 0 11))]) ⟨rfl, rfl, rfl, trivial⟩ (sl_itE (P := qModel_laysRow_l31 G E o mi z1 _) (K := kModel_laysRow_l31 G E o mi z1 _) (fun t q hq hk => bModel_laysRow_l31 g  hq hk) sl_fu _ x17 hy16 ?_)
      show sM (xModel_laysRow G) 71 [some (.inr o), some (.inl z1), some (.inl x17.1)] [] E (sm_gl o 10 x17.2 mi) _
      exact sm_less (lv' := [some (.inr o), some (.inl z1), some (.inl x17.1)]) ⟨rfl, rfl, rfl, trivial⟩ (bModel_laysRow_j71_l7 g   h hK)
def fModel_laysRow  (s : MI) : Option (MI) :=
  Option.bind (some (sm_up s 0 11 0)) (fun s1 => Option.bind (sl_it (fun (t : Int × MI) => fModel_laysRow_l7 t.1 t.2) sl_fu (0, s1)) (fun x27 => some x27))
set_option maxRecDepth 100000 in
set_option maxHeartbeats 4000000 in
theorem bModel_laysRow {G : GT} {E : ET} {o : Nat} {s mi : MI}  {w : MI} (g : gL E o)  (h : fModel_laysRow s = some w) : cN G yX10_laysRow cX10_laysRow 3 none 3 67 [.inr o] E (sm_gl o 10 s mi) (none, E, sm_gl o 10 w mi) := by
  have hN1 := g.1
  have hN2 := g.2.1
  unfold fModel_laysRow at h
  refine sm_meth (by decide +kernel) (Nat.le_of_ble_eq_true rfl) ?_
  show sM (xModel_laysRow G) 0 [some (.inr o), none, none] [] E (sm_gl o 10 s mi) _
  refine sm_aload_n dX10_laysRow_0 rfl ?_
  refine sm_iconst dX10_laysRow_1 ?_
  refine sl_putI (D := 0) lf_RX10_141 fP_7_11 (Or.inl rfl) g.2.2.1 rfl (by omega) ⟨hN1, hN2⟩ dX10_laysRow_2 ?_
  obtain ⟨s1, hs2, h⟩ := sl_bind h
  rw [Option.some.inj hs2]
  refine sm_iconst dX10_laysRow_5 ?_
  refine sm_istore_n dX10_laysRow_6 (Nat.le_of_ble_eq_true rfl) ?_
  obtain ⟨x27, hy26, h⟩ := sl_bind h
  refine sm_less (lv' := [some (.inr o), some (.inl 0), none]) ⟨rfl, rfl, trivial⟩ (sl_itE (P := qModel_laysRow_l7 G E o mi _) (K := kModel_laysRow_l7 G E o mi _) (fun t q hq hk => bModel_laysRow_l7 g  hq hk) sl_fu _ x27 hy26 ?_)
  show sM (xModel_laysRow G) 94 [none, none, none] [] E (sm_gl o 10 x27 mi) _
  cases h
  exact sm_return rfl dX10_laysRow_94
abbrev xModel_mayTake (G : GT) : XT := (G, yX10_mayTake.cls, cX10_mayTake, 5, (some .boolean), decide (yX10_mayTake.name = "<init>"), 1, 22)
def fModel_mayTake (z1 : Int) (z2 : Int) (s : MI) : Option (Int) :=
  Option.bind (fModel_ofPatrol z1 0 s) (fun p1 => Option.bind (fModel_region p1) (fun p4 => Option.bind (fModel_ofCall z2 1 s) (fun p7 => Option.bind (fModel_region p7) (fun p10 => Option.bind (fModel_ofPatrol z1 3 s) (fun p13 => (if sm_w p13 = 0 then Option.bind (fModel_ofPatrol z1 4 s) (fun p16 => Option.bind (fModel_ofCall z2 1 s) (fun p19 => Option.bind (fModel_way p16 p19 s) (fun p22 => (if sm_w p22 < 100000 then Option.bind (fModel_ofCall z2 5 s) (fun p25 => (if sm_w p25 = 0 then Option.bind (fModel_in (p4 - p10) (-1) 1) (fun p33 => if p33 = 0 ∨ p33 = 1 then some p33 else none) else (if sm_w p4 = sm_w p10 then Option.bind (fModel_ofPatrol z1 2 s) (fun p28 => (if sm_w p28 = 1 then some 1 else some 0)) else some 0))) else some 0)))) else some 0))))))
set_option maxRecDepth 100000 in
set_option maxHeartbeats 4000000 in
theorem bModel_mayTake {G : GT} {E : ET} {o : Nat} {s mi : MI} {z1 : Int} {z2 : Int} {w : Int} (g : gL E o)  (h : fModel_mayTake z1 z2 s = some w) : cN G yX10_mayTake cX10_mayTake 5 (some .boolean) 1 22 [.inr o, .inl z1, .inl z2] E (sm_gl o 10 s mi) (some (.inl w), E, (sm_gl o 10 s mi)) := by
  have hN1 := g.1
  have hN2 := g.2.1
  unfold fModel_mayTake at h
  refine sm_meth (by decide +kernel) (Nat.le_of_ble_eq_true rfl) ?_
  show sM (xModel_mayTake G) 0 [some (.inr o), some (.inl z1), some (.inl z2), none, none] [] E (sm_gl o 10 s mi) _
  refine sm_aload_n dX10_mayTake_0 rfl ?_
  refine sm_iload_n dX10_mayTake_1 rfl ?_
  refine sm_iconst dX10_mayTake_2 ?_
  obtain ⟨p1, hp2, h⟩ := sl_bind h
  have hc3 := bModel_ofPatrol (G := G) (E := E) (o := o) (s := s) (mi := mi) g  hp2
  refine sc_callV1 (avs := [.inl z1, .inl 0]) (st := []) lk_RX10_88 rfl vf_X10_ofPatrol hc3 ⟨(Nat.le_of_ble_eq_true rfl), (Nat.le_of_ble_eq_true rfl)⟩ ⟨rfl, (Nat.le_of_ble_eq_true rfl)⟩ g.2.2.1 (by omega) rfl dX10_mayTake_3 ?_
  obtain ⟨p4, hp5, h⟩ := sl_bind h
  have hc6 := bModel_region (G := G) (E := E) (mi := (sm_gl o 10 s mi))   hp5
  refine sc_callS1 (avs := [.inl p1]) (st := []) lk_RX10_129 rfl sf_X10_region hc6 ⟨(Nat.le_of_ble_eq_true rfl), (Nat.le_of_ble_eq_true rfl)⟩ ⟨rfl, (Nat.le_of_ble_eq_true rfl)⟩ rfl dX10_mayTake_6 ?_
  refine sm_istore_n dX10_mayTake_9 (Nat.le_of_ble_eq_true rfl) ?_
  refine sm_aload_n dX10_mayTake_10 rfl ?_
  refine sm_iload_n dX10_mayTake_11 rfl ?_
  refine sm_iconst dX10_mayTake_12 ?_
  obtain ⟨p7, hp8, h⟩ := sl_bind h
  have hc9 := bModel_ofCall (G := G) (E := E) (o := o) (s := s) (mi := mi) g  hp8
  refine sc_callV1 (avs := [.inl z2, .inl 1]) (st := []) lk_RX10_72 rfl vf_X10_ofCall hc9 ⟨(Nat.le_of_ble_eq_true rfl), (Nat.le_of_ble_eq_true rfl)⟩ ⟨rfl, (Nat.le_of_ble_eq_true rfl)⟩ g.2.2.1 (by omega) rfl dX10_mayTake_13 ?_
  obtain ⟨p10, hp11, h⟩ := sl_bind h
  have hc12 := bModel_region (G := G) (E := E) (mi := (sm_gl o 10 s mi))   hp11
  refine sc_callS1 (avs := [.inl p7]) (st := []) lk_RX10_129 rfl sf_X10_region hc12 ⟨(Nat.le_of_ble_eq_true rfl), (Nat.le_of_ble_eq_true rfl)⟩ ⟨rfl, (Nat.le_of_ble_eq_true rfl)⟩ rfl dX10_mayTake_16 ?_
  refine sm_istore dX10_mayTake_19 (Nat.le_of_ble_eq_true rfl) ?_
  refine sm_aload_n dX10_mayTake_21 rfl ?_
  refine sm_iload_n dX10_mayTake_22 rfl ?_
  refine sm_iconst dX10_mayTake_23 ?_
  obtain ⟨p13, hp14, h⟩ := sl_bind h
  have hc15 := bModel_ofPatrol (G := G) (E := E) (o := o) (s := s) (mi := mi) g  hp14
  refine sc_callV1 (avs := [.inl z1, .inl 3]) (st := []) lk_RX10_88 rfl vf_X10_ofPatrol hc15 ⟨(Nat.le_of_ble_eq_true rfl), (Nat.le_of_ble_eq_true rfl)⟩ ⟨rfl, (Nat.le_of_ble_eq_true rfl)⟩ g.2.2.1 (by omega) rfl dX10_mayTake_24 ?_
  refine sm_if_ne 51 dX10_mayTake_27 rfl (fun c39 => ?_) (fun c39 => ?_)
  · rw [if_neg c39] at h
    refine sm_iconst dX10_mayTake_51 ?_
    cases h
    exact sm_ireturn dX10_mayTake_52 (Or.inr ⟨rfl, Or.inl rfl⟩)
  · rw [if_pos c39] at h
    refine sm_aload_n dX10_mayTake_30 rfl ?_
    refine sm_aload_n dX10_mayTake_31 rfl ?_
    refine sm_iload_n dX10_mayTake_32 rfl ?_
    refine sm_iconst dX10_mayTake_33 ?_
    obtain ⟨p16, hp17, h⟩ := sl_bind h
    have hc18 := bModel_ofPatrol (G := G) (E := E) (o := o) (s := s) (mi := mi) g  hp17
    refine sc_callV1 (avs := [.inl z1, .inl 4]) (st := [.inr o]) lk_RX10_88 rfl vf_X10_ofPatrol hc18 ⟨(Nat.le_of_ble_eq_true rfl), (Nat.le_of_ble_eq_true rfl)⟩ ⟨rfl, (Nat.le_of_ble_eq_true rfl)⟩ g.2.2.1 (by omega) rfl dX10_mayTake_34 ?_
    refine sm_aload_n dX10_mayTake_37 rfl ?_
    refine sm_iload_n dX10_mayTake_38 rfl ?_
    refine sm_iconst dX10_mayTake_39 ?_
    obtain ⟨p19, hp20, h⟩ := sl_bind h
    have hc21 := bModel_ofCall (G := G) (E := E) (o := o) (s := s) (mi := mi) g  hp20
    refine sc_callV1 (avs := [.inl z2, .inl 1]) (st := [.inl p16, .inr o]) lk_RX10_72 rfl vf_X10_ofCall hc21 ⟨(Nat.le_of_ble_eq_true rfl), (Nat.le_of_ble_eq_true rfl)⟩ ⟨rfl, (Nat.le_of_ble_eq_true rfl)⟩ g.2.2.1 (by omega) rfl dX10_mayTake_40 ?_
    obtain ⟨p22, hp23, h⟩ := sl_bind h
    have hc24 := bModel_way (G := G) (E := E) (o := o) (s := s) (mi := mi) g  hp23
    refine sc_callV1 (avs := [.inl p16, .inl p19]) (st := []) lk_RX10_53 rfl vf_X10_way hc24 ⟨(Nat.le_of_ble_eq_true rfl), (Nat.le_of_ble_eq_true rfl)⟩ ⟨rfl, (Nat.le_of_ble_eq_true rfl)⟩ g.2.2.1 (by omega) rfl dX10_mayTake_43 ?_
    refine sm_ldc (v := 100000) rfl lc_RX10_52 dX10_mayTake_46 ?_
    refine sc_icmp_lt (X' := sm_w p22) (Y' := 100000) 53 dX10_mayTake_48 rfl rfl (by decide) (fun c38 => ?_) (fun c38 => ?_)
    · rw [if_pos c38] at h
      refine sm_aload_n dX10_mayTake_53 rfl ?_
      refine sm_iload_n dX10_mayTake_54 rfl ?_
      refine sm_iconst dX10_mayTake_55 ?_
      obtain ⟨p25, hp26, h⟩ := sl_bind h
      have hc27 := bModel_ofCall (G := G) (E := E) (o := o) (s := s) (mi := mi) g  hp26
      refine sc_callV1 (avs := [.inl z2, .inl 5]) (st := []) lk_RX10_72 rfl vf_X10_ofCall hc27 ⟨(Nat.le_of_ble_eq_true rfl), (Nat.le_of_ble_eq_true rfl)⟩ ⟨rfl, (Nat.le_of_ble_eq_true rfl)⟩ g.2.2.1 (by omega) rfl dX10_mayTake_56 ?_
      refine sm_if_ne 74 dX10_mayTake_59 rfl (fun c37 => ?_) (fun c37 => ?_)
      · rw [if_neg c37] at h
        refine sm_iload_n dX10_mayTake_74 rfl ?_
        refine sm_iload dX10_mayTake_75 rfl ?_
        refine sc_icmp_ne (X' := sm_w p4) (Y' := sm_w p10) 94 dX10_mayTake_77 rfl rfl rfl (fun c32 => ?_) (fun c32 => ?_)
        · rw [if_neg c32] at h
          refine sm_iconst dX10_mayTake_94 ?_
          cases h
          exact sm_ireturn dX10_mayTake_95 (Or.inr ⟨rfl, Or.inl rfl⟩)
        · rw [if_pos c32] at h
          refine sm_aload_n dX10_mayTake_80 rfl ?_
          refine sm_iload_n dX10_mayTake_81 rfl ?_
          refine sm_iconst dX10_mayTake_82 ?_
          obtain ⟨p28, hp29, h⟩ := sl_bind h
          have hc30 := bModel_ofPatrol (G := G) (E := E) (o := o) (s := s) (mi := mi) g  hp29
          refine sc_callV1 (avs := [.inl z1, .inl 2]) (st := []) lk_RX10_88 rfl vf_X10_ofPatrol hc30 ⟨(Nat.le_of_ble_eq_true rfl), (Nat.le_of_ble_eq_true rfl)⟩ ⟨rfl, (Nat.le_of_ble_eq_true rfl)⟩ g.2.2.1 (by omega) rfl dX10_mayTake_83 ?_
          refine sm_iconst dX10_mayTake_86 ?_
          refine sc_icmp_ne (X' := sm_w p28) (Y' := 1) 94 dX10_mayTake_87 rfl rfl (by decide) (fun c31 => ?_) (fun c31 => ?_)
          · rw [if_neg c31] at h
            refine sm_iconst dX10_mayTake_94 ?_
            cases h
            exact sm_ireturn dX10_mayTake_95 (Or.inr ⟨rfl, Or.inl rfl⟩)
          · rw [if_pos c31] at h
            refine sm_iconst dX10_mayTake_90 ?_
            refine sm_goto 95 dX10_mayTake_91 rfl ?_
            cases h
            exact sm_ireturn dX10_mayTake_95 (Or.inr ⟨rfl, Or.inr rfl⟩)
      · rw [if_pos c37] at h
        refine sm_iload_n dX10_mayTake_62 rfl ?_
        refine sm_iload dX10_mayTake_63 rfl ?_
        refine sm_isub dX10_mayTake_65 ?_
        refine sm_iconst dX10_mayTake_66 ?_
        refine sm_iconst dX10_mayTake_67 ?_
        obtain ⟨p33, hp34, h⟩ := sl_bind h
        have hc35 := bModel_in (G := G) (E := E) (mi := (sm_gl o 10 s mi))   hp34
        refine sc_callS1 (avs := [.inl (p4 - p10), .inl (-1), .inl 1]) (st := []) lk_RX10_48 rfl sf_X10_in hc35 ⟨(Nat.le_of_ble_eq_true rfl), (Nat.le_of_ble_eq_true rfl)⟩ ⟨rfl, (Nat.le_of_ble_eq_true rfl)⟩ rfl dX10_mayTake_68 ?_
        refine sm_goto 95 dX10_mayTake_71 rfl ?_
        obtain ⟨q36, h⟩ := sl_guard h
        cases h
        exact sm_ireturn dX10_mayTake_95 (Or.inr ⟨rfl, q36⟩)
    · rw [if_neg c38] at h
      refine sm_iconst dX10_mayTake_51 ?_
      cases h
      exact sm_ireturn dX10_mayTake_52 (Or.inr ⟨rfl, Or.inl rfl⟩)
abbrev xModel_nearestOf (G : GT) : XT := (G, yX10_nearestOf.cls, cX10_nearestOf, 7, (some .int), decide (yX10_nearestOf.name = "<init>"), 2, 46)
abbrev qModel_nearestOf_l5 (G : GT) (E : ET) (o : Nat) (mi : MI) (z1 : Int) (s : MI) (r : RT) (t : Int × Int) : Prop := sM (xModel_nearestOf G) 5 [some (.inr o), some (.inl z1), some (.inl t.1), some (.inl t.2), none, none, none] [] E (sm_gl o 10 s mi) r
abbrev kModel_nearestOf_l5 (G : GT) (E : ET) (o : Nat) (mi : MI) (z1 : Int) (s : MI) (r : RT) (x : Int) : Prop := sM (xModel_nearestOf G) 125 [none, none, some (.inl x), none, none, none, none] [] E (sm_gl o 10 s mi) r
def fModel_nearestOf_j119_l5 (z1 : Int) (z2 : Int) (z3 : Int) (s : MI) : Option ((Int × Int) ⊕ (Int)) :=
  some (.inl (z2, (z3 + 1)))
set_option maxRecDepth 100000 in
set_option maxHeartbeats 4000000 in
theorem bModel_nearestOf_j119_l5 {G : GT} {E : ET} {o : Nat} {s mi : MI} {z1 : Int} {z2 : Int} {z3 : Int} {r : RT} {w : (Int × Int) ⊕ (Int)} (g : gL E o)  (h : fModel_nearestOf_j119_l5 z1 z2 z3 s = some w) (hK : Sum.elim (qModel_nearestOf_l5 G E o mi z1 s r) (kModel_nearestOf_l5 G E o mi z1 s r) w) : sM (xModel_nearestOf G) 119 [some (.inr o), some (.inl z1), some (.inl z2), some (.inl z3), none, none, none] [] E (sm_gl o 10 s mi) r := by
  have hN1 := g.1
  have hN2 := g.2.1
  unfold fModel_nearestOf_j119_l5 at h
  refine sm_iinc dX10_nearestOf_119 (Nat.le_of_ble_eq_true rfl) rfl ?_
  refine sm_goto 5 dX10_nearestOf_122 rfl ?_
  cases h
  exact sm_less (lv' := [some (.inr o), some (.inl z1), some (.inl z2), some (.inl (z3 + 1)), none, none, none]) ⟨rfl, rfl, rfl, rfl, trivial⟩ hK
def fModel_nearestOf_j118_l5 (z1 : Int) (z3 : Int) (y0 : Int) (s : MI) : Option ((Int × Int) ⊕ (Int)) :=
  fModel_nearestOf_j119_l5 z1 y0 z3 s
set_option maxRecDepth 100000 in
set_option maxHeartbeats 4000000 in
theorem bModel_nearestOf_j118_l5 {G : GT} {E : ET} {o : Nat} {s mi : MI} {z1 : Int} {z3 : Int} {y0 : Int} {r : RT} {w : (Int × Int) ⊕ (Int)} (g : gL E o)  (h : fModel_nearestOf_j118_l5 z1 z3 y0 s = some w) (hK : Sum.elim (qModel_nearestOf_l5 G E o mi z1 s r) (kModel_nearestOf_l5 G E o mi z1 s r) w) : sM (xModel_nearestOf G) 118 [some (.inr o), some (.inl z1), none, some (.inl z3), none, none, none] [.inl y0] E (sm_gl o 10 s mi) r := by
  have hN1 := g.1
  have hN2 := g.2.1
  unfold fModel_nearestOf_j118_l5 at h
  refine sm_istore_n dX10_nearestOf_118 (Nat.le_of_ble_eq_true rfl) ?_
  exact sm_less (lv' := [some (.inr o), some (.inl z1), some (.inl y0), some (.inl z3), none, none, none]) ⟨rfl, rfl, rfl, rfl, trivial⟩ (bModel_nearestOf_j119_l5 g   h hK)
def fModel_nearestOf_j106_l5 (z1 : Int) (z2 : Int) (z3 : Int) (y0 : Int) (s : MI) : Option ((Int × Int) ⊕ (Int)) :=
  (if sm_w y0 = 0 then fModel_nearestOf_j118_l5 z1 z3 z2 s else fModel_nearestOf_j118_l5 z1 z3 z3 s)
set_option maxRecDepth 100000 in
set_option maxHeartbeats 4000000 in
theorem bModel_nearestOf_j106_l5 {G : GT} {E : ET} {o : Nat} {s mi : MI} {z1 : Int} {z2 : Int} {z3 : Int} {y0 : Int} {r : RT} {w : (Int × Int) ⊕ (Int)} (g : gL E o)  (h : fModel_nearestOf_j106_l5 z1 z2 z3 y0 s = some w) (hK : Sum.elim (qModel_nearestOf_l5 G E o mi z1 s r) (kModel_nearestOf_l5 G E o mi z1 s r) w) : sM (xModel_nearestOf G) 106 [some (.inr o), some (.inl z1), some (.inl z2), some (.inl z3), none, none, none] [.inl y0] E (sm_gl o 10 s mi) r := by
  have hN1 := g.1
  have hN2 := g.2.1
  unfold fModel_nearestOf_j106_l5 at h
  refine sm_istore dX10_nearestOf_106 (Nat.le_of_ble_eq_true rfl) ?_
  refine sm_iload dX10_nearestOf_108 rfl ?_
  refine sm_if_eq 117 dX10_nearestOf_110 rfl (fun c22 => ?_) (fun c22 => ?_)
  · rw [if_pos c22] at h
    refine sm_iload_n dX10_nearestOf_117 rfl ?_
    exact sm_less (lv' := [some (.inr o), some (.inl z1), none, some (.inl z3), none, none, none]) ⟨rfl, rfl, rfl, trivial⟩ (bModel_nearestOf_j118_l5 g   h hK)
  · rw [if_neg c22] at h
    refine sm_iload_n dX10_nearestOf_113 rfl ?_
    refine sm_goto 118 dX10_nearestOf_114 rfl ?_
    exact sm_less (lv' := [some (.inr o), some (.inl z1), none, some (.inl z3), none, none, none]) ⟨rfl, rfl, rfl, trivial⟩ (bModel_nearestOf_j118_l5 g   h hK)
def fModel_nearestOf_j101_l5 (z1 : Int) (z2 : Int) (z3 : Int) (s : MI) : Option ((Int × Int) ⊕ (Int)) :=
  fModel_nearestOf_j106_l5 z1 z2 z3 1 s
set_option maxRecDepth 100000 in
set_option maxHeartbeats 4000000 in
theorem bModel_nearestOf_j101_l5 {G : GT} {E : ET} {o : Nat} {s mi : MI} {z1 : Int} {z2 : Int} {z3 : Int} {r : RT} {w : (Int × Int) ⊕ (Int)} (g : gL E o)  (h : fModel_nearestOf_j101_l5 z1 z2 z3 s = some w) (hK : Sum.elim (qModel_nearestOf_l5 G E o mi z1 s r) (kModel_nearestOf_l5 G E o mi z1 s r) w) : sM (xModel_nearestOf G) 101 [some (.inr o), some (.inl z1), some (.inl z2), some (.inl z3), none, none, none] [] E (sm_gl o 10 s mi) r := by
  have hN1 := g.1
  have hN2 := g.2.1
  unfold fModel_nearestOf_j101_l5 at h
  refine sm_iconst dX10_nearestOf_101 ?_
  refine sm_goto 106 dX10_nearestOf_102 rfl ?_
  exact sm_less (lv' := [some (.inr o), some (.inl z1), some (.inl z2), some (.inl z3), none, none, none]) ⟨rfl, rfl, rfl, rfl, trivial⟩ (bModel_nearestOf_j106_l5 g   h hK)
def fModel_nearestOf_j105_l5 (z1 : Int) (z2 : Int) (z3 : Int) (s : MI) : Option ((Int × Int) ⊕ (Int)) :=
  fModel_nearestOf_j106_l5 z1 z2 z3 0 s
set_option maxRecDepth 100000 in
set_option maxHeartbeats 4000000 in
theorem bModel_nearestOf_j105_l5 {G : GT} {E : ET} {o : Nat} {s mi : MI} {z1 : Int} {z2 : Int} {z3 : Int} {r : RT} {w : (Int × Int) ⊕ (Int)} (g : gL E o)  (h : fModel_nearestOf_j105_l5 z1 z2 z3 s = some w) (hK : Sum.elim (qModel_nearestOf_l5 G E o mi z1 s r) (kModel_nearestOf_l5 G E o mi z1 s r) w) : sM (xModel_nearestOf G) 105 [some (.inr o), some (.inl z1), some (.inl z2), some (.inl z3), none, none, none] [] E (sm_gl o 10 s mi) r := by
  have hN1 := g.1
  have hN2 := g.2.1
  unfold fModel_nearestOf_j105_l5 at h
  refine sm_iconst dX10_nearestOf_105 ?_
  exact sm_less (lv' := [some (.inr o), some (.inl z1), some (.inl z2), some (.inl z3), none, none, none]) ⟨rfl, rfl, rfl, rfl, trivial⟩ (bModel_nearestOf_j106_l5 g   h hK)
def fModel_nearestOf_j70_l5 (z1 : Int) (z2 : Int) (z3 : Int) (z4 : Int) (y0 : Int) (s : MI) : Option ((Int × Int) ⊕ (Int)) :=
  (if sm_w z4 < sm_w y0 then fModel_nearestOf_j101_l5 z1 z2 z3 s else (if sm_w z4 = sm_w y0 then Option.bind (fModel_ofPatrol z3 1 s) (fun p23 => Option.bind (fModel_ofPatrol z2 1 s) (fun p26 => (if sm_w p23 ≤ sm_w p26 then fModel_nearestOf_j105_l5 z1 z2 z3 s else fModel_nearestOf_j101_l5 z1 z2 z3 s))) else fModel_nearestOf_j105_l5 z1 z2 z3 s))
set_option maxRecDepth 100000 in
set_option maxHeartbeats 4000000 in
theorem bModel_nearestOf_j70_l5 {G : GT} {E : ET} {o : Nat} {s mi : MI} {z1 : Int} {z2 : Int} {z3 : Int} {z4 : Int} {y0 : Int} {r : RT} {w : (Int × Int) ⊕ (Int)} (g : gL E o)  (h : fModel_nearestOf_j70_l5 z1 z2 z3 z4 y0 s = some w) (hK : Sum.elim (qModel_nearestOf_l5 G E o mi z1 s r) (kModel_nearestOf_l5 G E o mi z1 s r) w) : sM (xModel_nearestOf G) 70 [some (.inr o), some (.inl z1), some (.inl z2), some (.inl z3), some (.inl z4), none, none] [.inl y0] E (sm_gl o 10 s mi) r := by
  have hN1 := g.1
  have hN2 := g.2.1
  unfold fModel_nearestOf_j70_l5 at h
  refine sm_istore dX10_nearestOf_70 (Nat.le_of_ble_eq_true rfl) ?_
  refine sm_iload dX10_nearestOf_72 rfl ?_
  refine sm_iload dX10_nearestOf_74 rfl ?_
  refine sc_icmp_lt (X' := sm_w z4) (Y' := sm_w y0) 101 dX10_nearestOf_76 rfl rfl rfl (fun c31 => ?_) (fun c31 => ?_)
  · rw [if_pos c31] at h
    exact sm_less (lv' := [some (.inr o), some (.inl z1), some (.inl z2), some (.inl z3), none, none, none]) ⟨rfl, rfl, rfl, rfl, trivial⟩ (bModel_nearestOf_j101_l5 g   h hK)
  · rw [if_neg c31] at h
    refine sm_iload dX10_nearestOf_79 rfl ?_
    refine sm_iload dX10_nearestOf_81 rfl ?_
    refine sc_icmp_ne (X' := sm_w z4) (Y' := sm_w y0) 105 dX10_nearestOf_83 rfl rfl rfl (fun c30 => ?_) (fun c30 => ?_)
    · rw [if_neg c30] at h
      exact sm_less (lv' := [some (.inr o), some (.inl z1), some (.inl z2), some (.inl z3), none, none, none]) ⟨rfl, rfl, rfl, rfl, trivial⟩ (bModel_nearestOf_j105_l5 g   h hK)
    · rw [if_pos c30] at h
      refine sm_aload_n dX10_nearestOf_86 rfl ?_
      refine sm_iload_n dX10_nearestOf_87 rfl ?_
      refine sm_iconst dX10_nearestOf_88 ?_
      obtain ⟨p23, hp24, h⟩ := sl_bind h
      have hc25 := bModel_ofPatrol (G := G) (E := E) (o := o) (s := s) (mi := mi) g  hp24
      refine sc_callV1 (avs := [.inl z3, .inl 1]) (st := []) lk_RX10_88 rfl vf_X10_ofPatrol hc25 ⟨(Nat.le_of_ble_eq_true rfl), (Nat.le_of_ble_eq_true rfl)⟩ ⟨rfl, (Nat.le_of_ble_eq_true rfl)⟩ g.2.2.1 (by omega) rfl dX10_nearestOf_89 ?_
      refine sm_aload_n dX10_nearestOf_92 rfl ?_
      refine sm_iload_n dX10_nearestOf_93 rfl ?_
      refine sm_iconst dX10_nearestOf_94 ?_
      obtain ⟨p26, hp27, h⟩ := sl_bind h
      have hc28 := bModel_ofPatrol (G := G) (E := E) (o := o) (s := s) (mi := mi) g  hp27
      refine sc_callV1 (avs := [.inl z2, .inl 1]) (st := [.inl p23]) lk_RX10_88 rfl vf_X10_ofPatrol hc28 ⟨(Nat.le_of_ble_eq_true rfl), (Nat.le_of_ble_eq_true rfl)⟩ ⟨rfl, (Nat.le_of_ble_eq_true rfl)⟩ g.2.2.1 (by omega) rfl dX10_nearestOf_95 ?_
      refine sc_icmp_le (X' := sm_w p23) (Y' := sm_w p26) 105 dX10_nearestOf_98 rfl rfl rfl (fun c29 => ?_) (fun c29 => ?_)
      · rw [if_pos c29] at h
        exact sm_less (lv' := [some (.inr o), some (.inl z1), some (.inl z2), some (.inl z3), none, none, none]) ⟨rfl, rfl, rfl, rfl, trivial⟩ (bModel_nearestOf_j105_l5 g   h hK)
      · rw [if_neg c29] at h
        exact sm_less (lv' := [some (.inr o), some (.inl z1), some (.inl z2), some (.inl z3), none, none, none]) ⟨rfl, rfl, rfl, rfl, trivial⟩ (bModel_nearestOf_j101_l5 g   h hK)
def fModel_nearestOf_l5 (z1 : Int) (z2 : Int) (z3 : Int) (s : MI) : Option ((Int × Int) ⊕ (Int)) :=
  (if sm_w (s 1 7) ≤ sm_w z3 then some (.inr z2) else Option.bind (fModel_mayTake z3 z1 s) (fun p1 => (if sm_w p1 = 0 then fModel_nearestOf_j119_l5 z1 z2 z3 s else Option.bind (fModel_ofPatrol z3 4 s) (fun p4 => Option.bind (fModel_ofCall z1 1 s) (fun p7 => Option.bind (fModel_way p4 p7 s) (fun p10 => (if sm_w z2 = (-5) then fModel_nearestOf_j70_l5 z1 z2 z3 p10 100000 s else Option.bind (fModel_ofPatrol z2 4 s) (fun p13 => Option.bind (fModel_ofCall z1 1 s) (fun p16 => Option.bind (fModel_way p13 p16 s) (fun p19 => fModel_nearestOf_j70_l5 z1 z2 z3 p10 p19 s))))))))))
set_option maxRecDepth 100000 in
set_option maxHeartbeats 4000000 in
theorem bModel_nearestOf_l5 {G : GT} {E : ET} {o : Nat} {s mi : MI} {z1 : Int} {z2 : Int} {z3 : Int} {r : RT} {w : (Int × Int) ⊕ (Int)} (g : gL E o)  (h : fModel_nearestOf_l5 z1 z2 z3 s = some w) (hK : Sum.elim (qModel_nearestOf_l5 G E o mi z1 s r) (kModel_nearestOf_l5 G E o mi z1 s r) w) : qModel_nearestOf_l5 G E o mi z1 s r (z2, z3) := by
  have hN1 := g.1
  have hN2 := g.2.1
  unfold fModel_nearestOf_l5 at h
  show sM (xModel_nearestOf G) 5 [some (.inr o), some (.inl z1), some (.inl z2), some (.inl z3), none, none, none] [] E (sm_gl o 10 s mi) r
  refine sm_iload_n dX10_nearestOf_5 rfl ?_
  refine sm_aload_n dX10_nearestOf_6 rfl ?_
  refine sm_getR lf_RX10_7 fR_7_0 g.2.2.1 (by omega) g.2.2.2.1.2 dX10_nearestOf_7 ?_
  refine sm_bipush dX10_nearestOf_10 rfl ?_
  refine sl_ialdk (D := 1) (k := 7) g.2.2.2.1.1 rfl (by omega) hN2 ⟨by decide, by decide⟩ dX10_nearestOf_12 ?_
  refine sc_icmp_ge (X' := sm_w z3) (Y' := sm_w (s 1 7)) 125 dX10_nearestOf_13 rfl rfl rfl (fun c34 => ?_) (fun c34 => ?_)
  · rw [if_pos c34] at h
    cases h
    exact sm_less (lv' := [none, none, some (.inl z2), none, none, none, none]) ⟨rfl, trivial⟩ hK
  · rw [if_neg c34] at h
    refine sm_aload_n dX10_nearestOf_16 rfl ?_
    refine sm_iload_n dX10_nearestOf_17 rfl ?_
    refine sm_iload_n dX10_nearestOf_18 rfl ?_
    obtain ⟨p1, hp2, h⟩ := sl_bind h
    have hc3 := bModel_mayTake (G := G) (E := E) (o := o) (s := s) (mi := mi) g  hp2
    refine sc_callV1 (avs := [.inl z3, .inl z1]) (st := []) lk_RX10_151 rfl vf_X10_mayTake hc3 ⟨(Nat.le_of_ble_eq_true rfl), (Nat.le_of_ble_eq_true rfl)⟩ ⟨rfl, (Nat.le_of_ble_eq_true rfl)⟩ g.2.2.1 (by omega) rfl dX10_nearestOf_19 ?_
    refine sm_if_eq 119 dX10_nearestOf_22 rfl (fun c33 => ?_) (fun c33 => ?_)
    · rw [if_pos c33] at h
      exact sm_less (lv' := [some (.inr o), some (.inl z1), some (.inl z2), some (.inl z3), none, none, none]) ⟨rfl, rfl, rfl, rfl, trivial⟩ (bModel_nearestOf_j119_l5 g   h hK)
    · rw [if_neg c33] at h
      refine sm_aload_n dX10_nearestOf_25 rfl ?_
      refine sm_aload_n dX10_nearestOf_26 rfl ?_
      refine sm_iload_n dX10_nearestOf_27 rfl ?_
      refine sm_iconst dX10_nearestOf_28 ?_
      obtain ⟨p4, hp5, h⟩ := sl_bind h
      have hc6 := bModel_ofPatrol (G := G) (E := E) (o := o) (s := s) (mi := mi) g  hp5
      refine sc_callV1 (avs := [.inl z3, .inl 4]) (st := [.inr o]) lk_RX10_88 rfl vf_X10_ofPatrol hc6 ⟨(Nat.le_of_ble_eq_true rfl), (Nat.le_of_ble_eq_true rfl)⟩ ⟨rfl, (Nat.le_of_ble_eq_true rfl)⟩ g.2.2.1 (by omega) rfl dX10_nearestOf_29 ?_
      refine sm_aload_n dX10_nearestOf_32 rfl ?_
      refine sm_iload_n dX10_nearestOf_33 rfl ?_
      refine sm_iconst dX10_nearestOf_34 ?_
      obtain ⟨p7, hp8, h⟩ := sl_bind h
      have hc9 := bModel_ofCall (G := G) (E := E) (o := o) (s := s) (mi := mi) g  hp8
      refine sc_callV1 (avs := [.inl z1, .inl 1]) (st := [.inl p4, .inr o]) lk_RX10_72 rfl vf_X10_ofCall hc9 ⟨(Nat.le_of_ble_eq_true rfl), (Nat.le_of_ble_eq_true rfl)⟩ ⟨rfl, (Nat.le_of_ble_eq_true rfl)⟩ g.2.2.1 (by omega) rfl dX10_nearestOf_35 ?_
      obtain ⟨p10, hp11, h⟩ := sl_bind h
      have hc12 := bModel_way (G := G) (E := E) (o := o) (s := s) (mi := mi) g  hp11
      refine sc_callV1 (avs := [.inl p4, .inl p7]) (st := []) lk_RX10_53 rfl vf_X10_way hc12 ⟨(Nat.le_of_ble_eq_true rfl), (Nat.le_of_ble_eq_true rfl)⟩ ⟨rfl, (Nat.le_of_ble_eq_true rfl)⟩ g.2.2.1 (by omega) rfl dX10_nearestOf_38 ?_
      refine sm_istore dX10_nearestOf_41 (Nat.le_of_ble_eq_true rfl) ?_
      refine sm_iload_n dX10_nearestOf_43 rfl ?_
      refine sm_bipush dX10_nearestOf_44 rfl ?_
      refine sc_icmp_ne (X' := sm_w z2) (Y' := (-5)) 54 dX10_nearestOf_46 rfl rfl (by decide) (fun c32 => ?_) (fun c32 => ?_)
      · rw [if_neg c32] at h
        refine sm_aload_n dX10_nearestOf_54 rfl ?_
        refine sm_aload_n dX10_nearestOf_55 rfl ?_
        refine sm_iload_n dX10_nearestOf_56 rfl ?_
        refine sm_iconst dX10_nearestOf_57 ?_
        obtain ⟨p13, hp14, h⟩ := sl_bind h
        have hc15 := bModel_ofPatrol (G := G) (E := E) (o := o) (s := s) (mi := mi) g  hp14
        refine sc_callV1 (avs := [.inl z2, .inl 4]) (st := [.inr o]) lk_RX10_88 rfl vf_X10_ofPatrol hc15 ⟨(Nat.le_of_ble_eq_true rfl), (Nat.le_of_ble_eq_true rfl)⟩ ⟨rfl, (Nat.le_of_ble_eq_true rfl)⟩ g.2.2.1 (by omega) rfl dX10_nearestOf_58 ?_
        refine sm_aload_n dX10_nearestOf_61 rfl ?_
        refine sm_iload_n dX10_nearestOf_62 rfl ?_
        refine sm_iconst dX10_nearestOf_63 ?_
        obtain ⟨p16, hp17, h⟩ := sl_bind h
        have hc18 := bModel_ofCall (G := G) (E := E) (o := o) (s := s) (mi := mi) g  hp17
        refine sc_callV1 (avs := [.inl z1, .inl 1]) (st := [.inl p13, .inr o]) lk_RX10_72 rfl vf_X10_ofCall hc18 ⟨(Nat.le_of_ble_eq_true rfl), (Nat.le_of_ble_eq_true rfl)⟩ ⟨rfl, (Nat.le_of_ble_eq_true rfl)⟩ g.2.2.1 (by omega) rfl dX10_nearestOf_64 ?_
        obtain ⟨p19, hp20, h⟩ := sl_bind h
        have hc21 := bModel_way (G := G) (E := E) (o := o) (s := s) (mi := mi) g  hp20
        refine sc_callV1 (avs := [.inl p13, .inl p16]) (st := []) lk_RX10_53 rfl vf_X10_way hc21 ⟨(Nat.le_of_ble_eq_true rfl), (Nat.le_of_ble_eq_true rfl)⟩ ⟨rfl, (Nat.le_of_ble_eq_true rfl)⟩ g.2.2.1 (by omega) rfl dX10_nearestOf_67 ?_
        exact sm_less (lv' := [some (.inr o), some (.inl z1), some (.inl z2), some (.inl z3), some (.inl p10), none, none]) ⟨rfl, rfl, rfl, rfl, rfl, trivial⟩ (bModel_nearestOf_j70_l5 g   h hK)
      · rw [if_pos c32] at h
        refine sm_ldc (v := 100000) rfl lc_RX10_52 dX10_nearestOf_49 ?_
        refine sm_goto 70 dX10_nearestOf_51 rfl ?_
        exact sm_less (lv' := [some (.inr o), some (.inl z1), some (.inl z2), some (.inl z3), some (.inl p10), none, none]) ⟨rfl, rfl, rfl, rfl, rfl, trivial⟩ (bModel_nearestOf_j70_l5 g   h hK)
def fModel_nearestOf (z1 : Int) (s : MI) : Option (Int) :=
  Option.bind (sl_it (fun (t : Int × Int) => fModel_nearestOf_l5 z1 t.1 t.2 s) sl_fu ((-5), 0)) (fun x37 => some x37)
set_option maxRecDepth 100000 in
set_option maxHeartbeats 4000000 in
theorem bModel_nearestOf {G : GT} {E : ET} {o : Nat} {s mi : MI} {z1 : Int} {w : Int} (g : gL E o)  (h : fModel_nearestOf z1 s = some w) : cN G yX10_nearestOf cX10_nearestOf 7 (some .int) 2 46 [.inr o, .inl z1] E (sm_gl o 10 s mi) (some (.inl w), E, (sm_gl o 10 s mi)) := by
  have hN1 := g.1
  have hN2 := g.2.1
  unfold fModel_nearestOf at h
  refine sm_meth (by decide +kernel) (Nat.le_of_ble_eq_true rfl) ?_
  show sM (xModel_nearestOf G) 0 [some (.inr o), some (.inl z1), none, none, none, none, none] [] E (sm_gl o 10 s mi) _
  refine sm_bipush dX10_nearestOf_0 rfl ?_
  refine sm_istore_n dX10_nearestOf_2 (Nat.le_of_ble_eq_true rfl) ?_
  refine sm_iconst dX10_nearestOf_3 ?_
  refine sm_istore_n dX10_nearestOf_4 (Nat.le_of_ble_eq_true rfl) ?_
  obtain ⟨x37, hy36, h⟩ := sl_bind h
  refine sm_less (lv' := [some (.inr o), some (.inl z1), some (.inl (-5)), some (.inl 0), none, none, none]) ⟨rfl, rfl, rfl, rfl, trivial⟩ (sl_itE (P := qModel_nearestOf_l5 G E o mi z1 s _) (K := kModel_nearestOf_l5 G E o mi z1 s _) (fun t q hq hk => bModel_nearestOf_l5 g  hq hk) sl_fu _ x37 hy36 ?_)
  show sM (xModel_nearestOf G) 125 [none, none, some (.inl x37), none, none, none, none] [] E (sm_gl o 10 s mi) _
  refine sm_iload_n dX10_nearestOf_125 rfl ?_
  cases h
  exact sm_ireturn dX10_nearestOf_126 (Or.inl rfl)
abbrev xModel_sends (G : GT) : XT := (G, yX10_sends.cls, cX10_sends, 5, none, decide (yX10_sends.name = "<init>"), 5, 126)
abbrev qModel_sends_l6 (G : GT) (E : ET) (o : Nat) (mi : MI)  (r : RT) (t : Int × MI) : Prop := sM (xModel_sends G) 6 [some (.inr o), some (.inl t.1), none, none, none] [] E (sm_gl o 10 t.2 mi) r
abbrev kModel_sends_l6 (G : GT) (E : ET) (o : Nat) (mi : MI)  (r : RT) (x : MI) : Prop := sM (xModel_sends G) 118 [none, none, none, none, none] [] E (sm_gl o 10 x mi) r
def fModel_sends_j112_l6 (z1 : Int) (s : MI) : Option ((Int × MI) ⊕ (MI)) :=
  some (.inl ((z1 + 1), s))
set_option maxRecDepth 100000 in
set_option maxHeartbeats 4000000 in
theorem bModel_sends_j112_l6 {G : GT} {E : ET} {o : Nat} {s mi : MI} {z1 : Int} {r : RT} {w : (Int × MI) ⊕ (MI)} (g : gL E o)  (h : fModel_sends_j112_l6 z1 s = some w) (hK : Sum.elim (qModel_sends_l6 G E o mi r) (kModel_sends_l6 G E o mi r) w) : sM (xModel_sends G) 112 [some (.inr o), some (.inl z1), none, none, none] [] E (sm_gl o 10 s mi) r := by
  have hN1 := g.1
  have hN2 := g.2.1
  unfold fModel_sends_j112_l6 at h
  refine sm_iinc dX10_sends_112 (Nat.le_of_ble_eq_true rfl) rfl ?_
  refine sm_goto 6 dX10_sends_115 rfl ?_
  cases h
  exact sm_less (lv' := [some (.inr o), some (.inl (z1 + 1)), none, none, none]) ⟨rfl, rfl, trivial⟩ hK
def fModel_sends_j91_l6 (z1 : Int) (z2 : Int) (z3 : Int) (z4 : Int) (y1 : Int) (y2 : Int) (y3 : Int) (s : MI) : Option ((Int × MI) ⊕ (MI)) :=
  Option.bind (fModel_laysCall y1 y2 y3 s) (fun p29 => Option.bind (fModel_laysCall z2 6 z3 p29) (fun p32 => (if sm_w z4 = 0 then Option.bind (fModel_gets z3 p32) (fun p35 => fModel_sends_j112_l6 z1 p35) else fModel_sends_j112_l6 z1 p32)))
set_option maxRecDepth 100000 in
set_option maxHeartbeats 4000000 in
theorem bModel_sends_j91_l6 {G : GT} {E : ET} {o : Nat} {s mi : MI} {z1 : Int} {z2 : Int} {z3 : Int} {z4 : Int} {y1 : Int} {y2 : Int} {y3 : Int} {r : RT} {w : (Int × MI) ⊕ (MI)} (g : gL E o)  (h : fModel_sends_j91_l6 z1 z2 z3 z4 y1 y2 y3 s = some w) (hK : Sum.elim (qModel_sends_l6 G E o mi r) (kModel_sends_l6 G E o mi r) w) : sM (xModel_sends G) 91 [some (.inr o), some (.inl z1), some (.inl z2), some (.inl z3), some (.inl z4)] [.inl y3, .inl y2, .inl y1, .inr o] E (sm_gl o 10 s mi) r := by
  have hN1 := g.1
  have hN2 := g.2.1
  unfold fModel_sends_j91_l6 at h
  obtain ⟨p29, hp30, h⟩ := sl_bind h
  have hc31 := bModel_laysCall (G := G) (E := E) (o := o) (s := s) (mi := mi) g  hp30
  refine sc_callV0 (avs := [.inl y1, .inl y2, .inl y3]) (st := []) lk_RX10_82 rfl vf_X10_laysCall hc31 ⟨(Nat.le_of_ble_eq_true rfl), (Nat.le_of_ble_eq_true rfl)⟩ ⟨rfl, (Nat.le_of_ble_eq_true rfl)⟩ g.2.2.1 (by omega) rfl dX10_sends_91 ?_
  refine sm_aload_n dX10_sends_94 rfl ?_
  refine sm_iload_n dX10_sends_95 rfl ?_
  refine sm_bipush dX10_sends_96 rfl ?_
  refine sm_iload_n dX10_sends_98 rfl ?_
  obtain ⟨p32, hp33, h⟩ := sl_bind h
  have hc34 := bModel_laysCall (G := G) (E := E) (o := o) (s := p29) (mi := mi) g  hp33
  refine sc_callV0 (avs := [.inl z2, .inl 6, .inl z3]) (st := []) lk_RX10_82 rfl vf_X10_laysCall hc34 ⟨(Nat.le_of_ble_eq_true rfl), (Nat.le_of_ble_eq_true rfl)⟩ ⟨rfl, (Nat.le_of_ble_eq_true rfl)⟩ g.2.2.1 (by omega) rfl dX10_sends_99 ?_
  refine sm_iload dX10_sends_102 rfl ?_
  refine sm_if_ne 112 dX10_sends_104 rfl (fun c38 => ?_) (fun c38 => ?_)
  · rw [if_neg c38] at h
    exact sm_less (lv' := [some (.inr o), some (.inl z1), none, none, none]) ⟨rfl, rfl, trivial⟩ (bModel_sends_j112_l6 g   h hK)
  · rw [if_pos c38] at h
    refine sm_aload_n dX10_sends_107 rfl ?_
    refine sm_iload_n dX10_sends_108 rfl ?_
    obtain ⟨p35, hp36, h⟩ := sl_bind h
    have hc37 := bModel_gets (G := G) (E := E) (o := o) (s := p32) (mi := mi) g  hp36
    refine sc_callV0 (avs := [.inl z3]) (st := []) lk_RX10_160 rfl vf_X10_gets hc37 ⟨(Nat.le_of_ble_eq_true rfl), (Nat.le_of_ble_eq_true rfl)⟩ ⟨rfl, (Nat.le_of_ble_eq_true rfl)⟩ g.2.2.1 (by omega) rfl dX10_sends_109 ?_
    exact sm_less (lv' := [some (.inr o), some (.inl z1), none, none, none]) ⟨rfl, rfl, trivial⟩ (bModel_sends_j112_l6 g   h hK)
def fModel_sends_l6 (z1 : Int) (s : MI) : Option ((Int × MI) ⊕ (MI)) :=
  (if sm_w (s 0 11) ≤ sm_w z1 then some (.inr s) else if 0 ≤ sm_w z1 ∧ sm_w z1 < 40 then Option.bind (fModel_nearestOf (s 8 (sm_w z1).toNat) s) (fun p5 => (if sm_w p5 = (-5) then fModel_sends_j112_l6 z1 s else Option.bind (fModel_ofPatrol p5 4 s) (fun p8 => Option.bind (fModel_ofCall (s 8 (sm_w z1).toNat) 1 s) (fun p11 => Option.bind (fModel_way p8 p11 s) (fun p14 => Option.bind (fModel_laysPatrol p5 3 1 s) (fun p17 => Option.bind (fModel_laysPatrol p5 5 (s 8 (sm_w z1).toNat) p17) (fun p20 => Option.bind (fModel_laysPatrol p5 6 p14 p20) (fun p23 => Option.bind (fModel_ofCall (s 8 (sm_w z1).toNat) 5 p23) (fun p26 => (if sm_w p26 = 0 then fModel_sends_j91_l6 z1 (s 8 (sm_w z1).toNat) p5 p14 (s 8 (sm_w z1).toNat) 5 1 p23 else fModel_sends_j91_l6 z1 (s 8 (sm_w z1).toNat) p5 p14 (s 8 (sm_w z1).toNat) 5 3 p23)))))))))) else none)
set_option maxRecDepth 100000 in
set_option maxHeartbeats 4000000 in
theorem bModel_sends_l6 {G : GT} {E : ET} {o : Nat} {s mi : MI} {z1 : Int} {r : RT} {w : (Int × MI) ⊕ (MI)} (g : gL E o)  (h : fModel_sends_l6 z1 s = some w) (hK : Sum.elim (qModel_sends_l6 G E o mi r) (kModel_sends_l6 G E o mi r) w) : qModel_sends_l6 G E o mi r (z1, s) := by
  have hN1 := g.1
  have hN2 := g.2.1
  unfold fModel_sends_l6 at h
  show sM (xModel_sends G) 6 [some (.inr o), some (.inl z1), none, none, none] [] E (sm_gl o 10 s mi) r
  refine sm_iload_n dX10_sends_6 rfl ?_
  refine sm_aload_n dX10_sends_7 rfl ?_
  refine sl_getI (D := 0) lf_RX10_141 fI_7_11 g.2.2.1 rfl (by omega) hN2 dX10_sends_8 ?_
  refine sc_icmp_ge (X' := sm_w z1) (Y' := sm_w (s 0 11)) 118 dX10_sends_11 rfl rfl rfl (fun c41 => ?_) (fun c41 => ?_)
  · rw [if_pos c41] at h
    cases h
    exact sm_less (lv' := [none, none, none, none, none]) trivial hK
  · rw [if_neg c41] at h
    refine sm_aload_n dX10_sends_14 rfl ?_
    refine sm_getR lf_RX10_31 fR_7_10 g.2.2.1 (by omega) g.2.2.2.2.2.2.2.2.2.2.1.2 dX10_sends_15 ?_
    refine sm_iload_n dX10_sends_18 rfl ?_
    obtain ⟨q4, h⟩ := sl_guard h
    have xq4 := (sl_ix (m := 40) q4).2
    refine sl_ialdk (D := 8) (k := (sm_w z1).toNat) g.2.2.2.2.2.2.2.2.2.2.1.1 rfl (by omega) hN2 (sl_ix (m := 40) q4) dX10_sends_19 ?_
    refine sm_istore_n dX10_sends_20 (Nat.le_of_ble_eq_true rfl) ?_
    refine sm_aload_n dX10_sends_21 rfl ?_
    refine sm_iload_n dX10_sends_22 rfl ?_
    obtain ⟨p5, hp6, h⟩ := sl_bind h
    have hc7 := bModel_nearestOf (G := G) (E := E) (o := o) (s := s) (mi := mi) g  hp6
    refine sc_callV1 (avs := [.inl (s 8 (sm_w z1).toNat)]) (st := []) lk_RX10_157 rfl vf_X10_nearestOf hc7 ⟨(Nat.le_of_ble_eq_true rfl), (Nat.le_of_ble_eq_true rfl)⟩ ⟨rfl, (Nat.le_of_ble_eq_true rfl)⟩ g.2.2.1 (by omega) rfl dX10_sends_23 ?_
    refine sm_istore_n dX10_sends_26 (Nat.le_of_ble_eq_true rfl) ?_
    refine sm_iload_n dX10_sends_27 rfl ?_
    refine sm_bipush dX10_sends_28 rfl ?_
    refine sc_icmp_eq (X' := sm_w p5) (Y' := (-5)) 112 dX10_sends_30 rfl rfl (by decide) (fun c40 => ?_) (fun c40 => ?_)
    · rw [if_pos c40] at h
      exact sm_less (lv' := [some (.inr o), some (.inl z1), none, none, none]) ⟨rfl, rfl, trivial⟩ (bModel_sends_j112_l6 g   h hK)
    · rw [if_neg c40] at h
      refine sm_aload_n dX10_sends_33 rfl ?_
      refine sm_aload_n dX10_sends_34 rfl ?_
      refine sm_iload_n dX10_sends_35 rfl ?_
      refine sm_iconst dX10_sends_36 ?_
      obtain ⟨p8, hp9, h⟩ := sl_bind h
      have hc10 := bModel_ofPatrol (G := G) (E := E) (o := o) (s := s) (mi := mi) g  hp9
      refine sc_callV1 (avs := [.inl p5, .inl 4]) (st := [.inr o]) lk_RX10_88 rfl vf_X10_ofPatrol hc10 ⟨(Nat.le_of_ble_eq_true rfl), (Nat.le_of_ble_eq_true rfl)⟩ ⟨rfl, (Nat.le_of_ble_eq_true rfl)⟩ g.2.2.1 (by omega) rfl dX10_sends_37 ?_
      refine sm_aload_n dX10_sends_40 rfl ?_
      refine sm_iload_n dX10_sends_41 rfl ?_
      refine sm_iconst dX10_sends_42 ?_
      obtain ⟨p11, hp12, h⟩ := sl_bind h
      have hc13 := bModel_ofCall (G := G) (E := E) (o := o) (s := s) (mi := mi) g  hp12
      refine sc_callV1 (avs := [.inl (s 8 (sm_w z1).toNat), .inl 1]) (st := [.inl p8, .inr o]) lk_RX10_72 rfl vf_X10_ofCall hc13 ⟨(Nat.le_of_ble_eq_true rfl), (Nat.le_of_ble_eq_true rfl)⟩ ⟨rfl, (Nat.le_of_ble_eq_true rfl)⟩ g.2.2.1 (by omega) rfl dX10_sends_43 ?_
      obtain ⟨p14, hp15, h⟩ := sl_bind h
      have hc16 := bModel_way (G := G) (E := E) (o := o) (s := s) (mi := mi) g  hp15
      refine sc_callV1 (avs := [.inl p8, .inl p11]) (st := []) lk_RX10_53 rfl vf_X10_way hc16 ⟨(Nat.le_of_ble_eq_true rfl), (Nat.le_of_ble_eq_true rfl)⟩ ⟨rfl, (Nat.le_of_ble_eq_true rfl)⟩ g.2.2.1 (by omega) rfl dX10_sends_46 ?_
      refine sm_istore dX10_sends_49 (Nat.le_of_ble_eq_true rfl) ?_
      refine sm_aload_n dX10_sends_51 rfl ?_
      refine sm_iload_n dX10_sends_52 rfl ?_
      refine sm_iconst dX10_sends_53 ?_
      refine sm_iconst dX10_sends_54 ?_
      obtain ⟨p17, hp18, h⟩ := sl_bind h
      have hc19 := bModel_laysPatrol (G := G) (E := E) (o := o) (s := s) (mi := mi) g  hp18
      refine sc_callV0 (avs := [.inl p5, .inl 3, .inl 1]) (st := []) lk_RX10_64 rfl vf_X10_laysPatrol hc19 ⟨(Nat.le_of_ble_eq_true rfl), (Nat.le_of_ble_eq_true rfl)⟩ ⟨rfl, (Nat.le_of_ble_eq_true rfl)⟩ g.2.2.1 (by omega) rfl dX10_sends_55 ?_
      refine sm_aload_n dX10_sends_58 rfl ?_
      refine sm_iload_n dX10_sends_59 rfl ?_
      refine sm_iconst dX10_sends_60 ?_
      refine sm_iload_n dX10_sends_61 rfl ?_
      obtain ⟨p20, hp21, h⟩ := sl_bind h
      have hc22 := bModel_laysPatrol (G := G) (E := E) (o := o) (s := p17) (mi := mi) g  hp21
      refine sc_callV0 (avs := [.inl p5, .inl 5, .inl (s 8 (sm_w z1).toNat)]) (st := []) lk_RX10_64 rfl vf_X10_laysPatrol hc22 ⟨(Nat.le_of_ble_eq_true rfl), (Nat.le_of_ble_eq_true rfl)⟩ ⟨rfl, (Nat.le_of_ble_eq_true rfl)⟩ g.2.2.1 (by omega) rfl dX10_sends_62 ?_
      refine sm_aload_n dX10_sends_65 rfl ?_
      refine sm_iload_n dX10_sends_66 rfl ?_
      refine sm_bipush dX10_sends_67 rfl ?_
      refine sm_iload dX10_sends_69 rfl ?_
      obtain ⟨p23, hp24, h⟩ := sl_bind h
      have hc25 := bModel_laysPatrol (G := G) (E := E) (o := o) (s := p20) (mi := mi) g  hp24
      refine sc_callV0 (avs := [.inl p5, .inl 6, .inl p14]) (st := []) lk_RX10_64 rfl vf_X10_laysPatrol hc25 ⟨(Nat.le_of_ble_eq_true rfl), (Nat.le_of_ble_eq_true rfl)⟩ ⟨rfl, (Nat.le_of_ble_eq_true rfl)⟩ g.2.2.1 (by omega) rfl dX10_sends_71 ?_
      refine sm_aload_n dX10_sends_74 rfl ?_
      refine sm_iload_n dX10_sends_75 rfl ?_
      refine sm_iconst dX10_sends_76 ?_
      refine sm_aload_n dX10_sends_77 rfl ?_
      refine sm_iload_n dX10_sends_78 rfl ?_
      refine sm_iconst dX10_sends_79 ?_
      obtain ⟨p26, hp27, h⟩ := sl_bind h
      have hc28 := bModel_ofCall (G := G) (E := E) (o := o) (s := p23) (mi := mi) g  hp27
      refine sc_callV1 (avs := [.inl (s 8 (sm_w z1).toNat), .inl 5]) (st := [.inl 5, .inl (s 8 (sm_w z1).toNat), .inr o]) lk_RX10_72 rfl vf_X10_ofCall hc28 ⟨(Nat.le_of_ble_eq_true rfl), (Nat.le_of_ble_eq_true rfl)⟩ ⟨rfl, (Nat.le_of_ble_eq_true rfl)⟩ g.2.2.1 (by omega) rfl dX10_sends_80 ?_
      refine sm_if_ne 90 dX10_sends_83 rfl (fun c39 => ?_) (fun c39 => ?_)
      · rw [if_neg c39] at h
        refine sm_iconst dX10_sends_90 ?_
        exact sm_less (lv' := [some (.inr o), some (.inl z1), some (.inl (s 8 (sm_w z1).toNat)), some (.inl p5), some (.inl p14)]) ⟨rfl, rfl, rfl, rfl, rfl, trivial⟩ (bModel_sends_j91_l6 g   h hK)
      · rw [if_pos c39] at h
        refine sm_iconst dX10_sends_86 ?_
        refine sm_goto 91 dX10_sends_87 rfl ?_
        exact sm_less (lv' := [some (.inr o), some (.inl z1), some (.inl (s 8 (sm_w z1).toNat)), some (.inl p5), some (.inl p14)]) ⟨rfl, rfl, rfl, rfl, rfl, trivial⟩ (bModel_sends_j91_l6 g   h hK)
def fModel_sends  (s : MI) : Option (MI) :=
  Option.bind (fModel_laysRow s) (fun p1 => Option.bind (sl_it (fun (t : Int × MI) => fModel_sends_l6 t.1 t.2) sl_fu (0, p1)) (fun x44 => some x44))
set_option maxRecDepth 100000 in
set_option maxHeartbeats 4000000 in
theorem bModel_sends {G : GT} {E : ET} {o : Nat} {s mi : MI}  {w : MI} (g : gL E o)  (h : fModel_sends s = some w) : cN G yX10_sends cX10_sends 5 none 5 126 [.inr o] E (sm_gl o 10 s mi) (none, E, sm_gl o 10 w mi) := by
  have hN1 := g.1
  have hN2 := g.2.1
  unfold fModel_sends at h
  refine sm_meth (by decide +kernel) (Nat.le_of_ble_eq_true rfl) ?_
  show sM (xModel_sends G) 0 [some (.inr o), none, none, none, none] [] E (sm_gl o 10 s mi) _
  refine sm_aload_n dX10_sends_0 rfl ?_
  obtain ⟨p1, hp2, h⟩ := sl_bind h
  have hc3 := bModel_laysRow (G := G) (E := E) (o := o) (s := s) (mi := mi) g  hp2
  refine sc_callV0 (avs := []) (st := []) lk_RX10_154 rfl vf_X10_laysRow hc3 ⟨(Nat.le_of_ble_eq_true rfl), (Nat.le_of_ble_eq_true rfl)⟩ ⟨rfl, (Nat.le_of_ble_eq_true rfl)⟩ g.2.2.1 (by omega) rfl dX10_sends_1 ?_
  refine sm_iconst dX10_sends_4 ?_
  refine sm_istore_n dX10_sends_5 (Nat.le_of_ble_eq_true rfl) ?_
  obtain ⟨x44, hy43, h⟩ := sl_bind h
  refine sm_less (lv' := [some (.inr o), some (.inl 0), none, none, none]) ⟨rfl, rfl, trivial⟩ (sl_itE (P := qModel_sends_l6 G E o mi _) (K := kModel_sends_l6 G E o mi _) (fun t q hq hk => bModel_sends_l6 g  hq hk) sl_fu _ x44 hy43 ?_)
  show sM (xModel_sends G) 118 [none, none, none, none, none] [] E (sm_gl o 10 x44 mi) _
  cases h
  exact sm_return rfl dX10_sends_118
abbrev xModel_passes (G : GT) : XT := (G, yX10_passes.cls, cX10_passes, 3, none, decide (yX10_passes.name = "<init>"), 6, 150)
abbrev qModel_passes_l2 (G : GT) (E : ET) (o : Nat) (mi : MI)  (r : RT) (t : Int × MI) : Prop := sM (xModel_passes G) 2 [some (.inr o), some (.inl t.1), none] [] E (sm_gl o 10 t.2 mi) r
abbrev kModel_passes_l2 (G : GT) (E : ET) (o : Nat) (mi : MI)  (r : RT) (x : MI) : Prop := sM (xModel_passes G) 108 [some (.inr o), none, none] [] E (sm_gl o 10 x mi) r
def fModel_passes_j102_l2 (z1 : Int) (s : MI) : Option ((Int × MI) ⊕ (MI)) :=
  some (.inl ((z1 + 1), s))
set_option maxRecDepth 100000 in
set_option maxHeartbeats 4000000 in
theorem bModel_passes_j102_l2 {G : GT} {E : ET} {o : Nat} {s mi : MI} {z1 : Int} {r : RT} {w : (Int × MI) ⊕ (MI)} (g : gL E o)  (h : fModel_passes_j102_l2 z1 s = some w) (hK : Sum.elim (qModel_passes_l2 G E o mi r) (kModel_passes_l2 G E o mi r) w) : sM (xModel_passes G) 102 [some (.inr o), some (.inl z1), none] [] E (sm_gl o 10 s mi) r := by
  have hN1 := g.1
  have hN2 := g.2.1
  unfold fModel_passes_j102_l2 at h
  refine sm_iinc dX10_passes_102 (Nat.le_of_ble_eq_true rfl) rfl ?_
  refine sm_goto 2 dX10_passes_105 rfl ?_
  cases h
  exact sm_less (lv' := [some (.inr o), some (.inl (z1 + 1)), none]) ⟨rfl, rfl, trivial⟩ hK
def fModel_passes_l2 (z1 : Int) (s : MI) : Option ((Int × MI) ⊕ (MI)) :=
  (if sm_w (s 1 7) ≤ sm_w z1 then some (.inr s) else Option.bind (fModel_ofPatrol z1 3 s) (fun p1 => Option.bind (fModel_in p1 1 3) (fun p4 => (if sm_w p4 = 0 then fModel_passes_j102_l2 z1 s else Option.bind (fModel_ofPatrol z1 6 s) (fun p7 => Option.bind (fModel_laysPatrol z1 6 (p7 - 1) s) (fun p10 => Option.bind (fModel_ofPatrol z1 11 p10) (fun p13 => Option.bind (fModel_laysPatrol z1 11 (p13 + 1) p10) (fun p16 => Option.bind (fModel_ofPatrol z1 6 p16) (fun p19 => (if sm_w p19 = 0 then (if sm_w p1 = 1 then Option.bind (fModel_gets z1 p16) (fun p29 => fModel_passes_j102_l2 z1 p29) else (if sm_w p1 = 2 then Option.bind (fModel_repaired z1 p16) (fun p25 => fModel_passes_j102_l2 z1 p25) else Option.bind (fModel_towed z1 p16) (fun p22 => fModel_passes_j102_l2 z1 p22))) else fModel_passes_j102_l2 z1 p16))))))))))
set_option maxRecDepth 100000 in
set_option maxHeartbeats 4000000 in
theorem bModel_passes_l2 {G : GT} {E : ET} {o : Nat} {s mi : MI} {z1 : Int} {r : RT} {w : (Int × MI) ⊕ (MI)} (g : gL E o)  (h : fModel_passes_l2 z1 s = some w) (hK : Sum.elim (qModel_passes_l2 G E o mi r) (kModel_passes_l2 G E o mi r) w) : qModel_passes_l2 G E o mi r (z1, s) := by
  have hN1 := g.1
  have hN2 := g.2.1
  unfold fModel_passes_l2 at h
  show sM (xModel_passes G) 2 [some (.inr o), some (.inl z1), none] [] E (sm_gl o 10 s mi) r
  refine sm_iload_n dX10_passes_2 rfl ?_
  refine sm_aload_n dX10_passes_3 rfl ?_
  refine sm_getR lf_RX10_7 fR_7_0 g.2.2.1 (by omega) g.2.2.2.1.2 dX10_passes_4 ?_
  refine sm_bipush dX10_passes_7 rfl ?_
  refine sl_ialdk (D := 1) (k := 7) g.2.2.2.1.1 rfl (by omega) hN2 ⟨by decide, by decide⟩ dX10_passes_9 ?_
  refine sc_icmp_ge (X' := sm_w z1) (Y' := sm_w (s 1 7)) 108 dX10_passes_10 rfl rfl rfl (fun c35 => ?_) (fun c35 => ?_)
  · rw [if_pos c35] at h
    cases h
    exact sm_less (lv' := [some (.inr o), none, none]) ⟨rfl, trivial⟩ hK
  · rw [if_neg c35] at h
    refine sm_aload_n dX10_passes_13 rfl ?_
    refine sm_iload_n dX10_passes_14 rfl ?_
    refine sm_iconst dX10_passes_15 ?_
    obtain ⟨p1, hp2, h⟩ := sl_bind h
    have hc3 := bModel_ofPatrol (G := G) (E := E) (o := o) (s := s) (mi := mi) g  hp2
    refine sc_callV1 (avs := [.inl z1, .inl 3]) (st := []) lk_RX10_88 rfl vf_X10_ofPatrol hc3 ⟨(Nat.le_of_ble_eq_true rfl), (Nat.le_of_ble_eq_true rfl)⟩ ⟨rfl, (Nat.le_of_ble_eq_true rfl)⟩ g.2.2.1 (by omega) rfl dX10_passes_16 ?_
    refine sm_istore_n dX10_passes_19 (Nat.le_of_ble_eq_true rfl) ?_
    refine sm_iload_n dX10_passes_20 rfl ?_
    refine sm_iconst dX10_passes_21 ?_
    refine sm_iconst dX10_passes_22 ?_
    obtain ⟨p4, hp5, h⟩ := sl_bind h
    have hc6 := bModel_in (G := G) (E := E) (mi := (sm_gl o 10 s mi))   hp5
    refine sc_callS1 (avs := [.inl p1, .inl 1, .inl 3]) (st := []) lk_RX10_48 rfl sf_X10_in hc6 ⟨(Nat.le_of_ble_eq_true rfl), (Nat.le_of_ble_eq_true rfl)⟩ ⟨rfl, (Nat.le_of_ble_eq_true rfl)⟩ rfl dX10_passes_23 ?_
    refine sm_if_eq 102 dX10_passes_26 rfl (fun c34 => ?_) (fun c34 => ?_)
    · rw [if_pos c34] at h
      exact sm_less (lv' := [some (.inr o), some (.inl z1), none]) ⟨rfl, rfl, trivial⟩ (bModel_passes_j102_l2 g   h hK)
    · rw [if_neg c34] at h
      refine sm_aload_n dX10_passes_29 rfl ?_
      refine sm_iload_n dX10_passes_30 rfl ?_
      refine sm_bipush dX10_passes_31 rfl ?_
      refine sm_aload_n dX10_passes_33 rfl ?_
      refine sm_iload_n dX10_passes_34 rfl ?_
      refine sm_bipush dX10_passes_35 rfl ?_
      obtain ⟨p7, hp8, h⟩ := sl_bind h
      have hc9 := bModel_ofPatrol (G := G) (E := E) (o := o) (s := s) (mi := mi) g  hp8
      refine sc_callV1 (avs := [.inl z1, .inl 6]) (st := [.inl 6, .inl z1, .inr o]) lk_RX10_88 rfl vf_X10_ofPatrol hc9 ⟨(Nat.le_of_ble_eq_true rfl), (Nat.le_of_ble_eq_true rfl)⟩ ⟨rfl, (Nat.le_of_ble_eq_true rfl)⟩ g.2.2.1 (by omega) rfl dX10_passes_37 ?_
      refine sm_iconst dX10_passes_40 ?_
      refine sm_isub dX10_passes_41 ?_
      obtain ⟨p10, hp11, h⟩ := sl_bind h
      have hc12 := bModel_laysPatrol (G := G) (E := E) (o := o) (s := s) (mi := mi) g  hp11
      refine sc_callV0 (avs := [.inl z1, .inl 6, .inl (p7 - 1)]) (st := []) lk_RX10_64 rfl vf_X10_laysPatrol hc12 ⟨(Nat.le_of_ble_eq_true rfl), (Nat.le_of_ble_eq_true rfl)⟩ ⟨rfl, (Nat.le_of_ble_eq_true rfl)⟩ g.2.2.1 (by omega) rfl dX10_passes_42 ?_
      refine sm_aload_n dX10_passes_45 rfl ?_
      refine sm_iload_n dX10_passes_46 rfl ?_
      refine sm_bipush dX10_passes_47 rfl ?_
      refine sm_aload_n dX10_passes_49 rfl ?_
      refine sm_iload_n dX10_passes_50 rfl ?_
      refine sm_bipush dX10_passes_51 rfl ?_
      obtain ⟨p13, hp14, h⟩ := sl_bind h
      have hc15 := bModel_ofPatrol (G := G) (E := E) (o := o) (s := p10) (mi := mi) g  hp14
      refine sc_callV1 (avs := [.inl z1, .inl 11]) (st := [.inl 11, .inl z1, .inr o]) lk_RX10_88 rfl vf_X10_ofPatrol hc15 ⟨(Nat.le_of_ble_eq_true rfl), (Nat.le_of_ble_eq_true rfl)⟩ ⟨rfl, (Nat.le_of_ble_eq_true rfl)⟩ g.2.2.1 (by omega) rfl dX10_passes_53 ?_
      refine sm_iconst dX10_passes_56 ?_
      refine sm_iadd dX10_passes_57 ?_
      obtain ⟨p16, hp17, h⟩ := sl_bind h
      have hc18 := bModel_laysPatrol (G := G) (E := E) (o := o) (s := p10) (mi := mi) g  hp17
      refine sc_callV0 (avs := [.inl z1, .inl 11, .inl (p13 + 1)]) (st := []) lk_RX10_64 rfl vf_X10_laysPatrol hc18 ⟨(Nat.le_of_ble_eq_true rfl), (Nat.le_of_ble_eq_true rfl)⟩ ⟨rfl, (Nat.le_of_ble_eq_true rfl)⟩ g.2.2.1 (by omega) rfl dX10_passes_58 ?_
      refine sm_aload_n dX10_passes_61 rfl ?_
      refine sm_iload_n dX10_passes_62 rfl ?_
      refine sm_bipush dX10_passes_63 rfl ?_
      obtain ⟨p19, hp20, h⟩ := sl_bind h
      have hc21 := bModel_ofPatrol (G := G) (E := E) (o := o) (s := p16) (mi := mi) g  hp20
      refine sc_callV1 (avs := [.inl z1, .inl 6]) (st := []) lk_RX10_88 rfl vf_X10_ofPatrol hc21 ⟨(Nat.le_of_ble_eq_true rfl), (Nat.le_of_ble_eq_true rfl)⟩ ⟨rfl, (Nat.le_of_ble_eq_true rfl)⟩ g.2.2.1 (by omega) rfl dX10_passes_65 ?_
      refine sm_if_ne 102 dX10_passes_68 rfl (fun c33 => ?_) (fun c33 => ?_)
      · rw [if_neg c33] at h
        exact sm_less (lv' := [some (.inr o), some (.inl z1), none]) ⟨rfl, rfl, trivial⟩ (bModel_passes_j102_l2 g   h hK)
      · rw [if_pos c33] at h
        refine sm_iload_n dX10_passes_71 rfl ?_
        refine sm_iconst dX10_passes_72 ?_
        refine sc_icmp_ne (X' := sm_w p1) (Y' := 1) 84 dX10_passes_73 rfl rfl (by decide) (fun c32 => ?_) (fun c32 => ?_)
        · rw [if_neg c32] at h
          refine sm_iload_n dX10_passes_84 rfl ?_
          refine sm_iconst dX10_passes_85 ?_
          refine sc_icmp_ne (X' := sm_w p1) (Y' := 2) 97 dX10_passes_86 rfl rfl (by decide) (fun c28 => ?_) (fun c28 => ?_)
          · rw [if_neg c28] at h
            refine sm_aload_n dX10_passes_97 rfl ?_
            refine sm_iload_n dX10_passes_98 rfl ?_
            obtain ⟨p22, hp23, h⟩ := sl_bind h
            have hc24 := bModel_towed (G := G) (E := E) (o := o) (s := p16) (mi := mi) g  hp23
            refine sc_callV0 (avs := [.inl z1]) (st := []) lk_RX10_166 rfl vf_X10_towed hc24 ⟨(Nat.le_of_ble_eq_true rfl), (Nat.le_of_ble_eq_true rfl)⟩ ⟨rfl, (Nat.le_of_ble_eq_true rfl)⟩ g.2.2.1 (by omega) rfl dX10_passes_99 ?_
            exact sm_less (lv' := [some (.inr o), some (.inl z1), none]) ⟨rfl, rfl, trivial⟩ (bModel_passes_j102_l2 g   h hK)
          · rw [if_pos c28] at h
            refine sm_aload_n dX10_passes_89 rfl ?_
            refine sm_iload_n dX10_passes_90 rfl ?_
            obtain ⟨p25, hp26, h⟩ := sl_bind h
            have hc27 := bModel_repaired (G := G) (E := E) (o := o) (s := p16) (mi := mi) g  hp26
            refine sc_callV0 (avs := [.inl z1]) (st := []) lk_RX10_163 rfl vf_X10_repaired hc27 ⟨(Nat.le_of_ble_eq_true rfl), (Nat.le_of_ble_eq_true rfl)⟩ ⟨rfl, (Nat.le_of_ble_eq_true rfl)⟩ g.2.2.1 (by omega) rfl dX10_passes_91 ?_
            refine sm_goto 102 dX10_passes_94 rfl ?_
            exact sm_less (lv' := [some (.inr o), some (.inl z1), none]) ⟨rfl, rfl, trivial⟩ (bModel_passes_j102_l2 g   h hK)
        · rw [if_pos c32] at h
          refine sm_aload_n dX10_passes_76 rfl ?_
          refine sm_iload_n dX10_passes_77 rfl ?_
          obtain ⟨p29, hp30, h⟩ := sl_bind h
          have hc31 := bModel_gets (G := G) (E := E) (o := o) (s := p16) (mi := mi) g  hp30
          refine sc_callV0 (avs := [.inl z1]) (st := []) lk_RX10_160 rfl vf_X10_gets hc31 ⟨(Nat.le_of_ble_eq_true rfl), (Nat.le_of_ble_eq_true rfl)⟩ ⟨rfl, (Nat.le_of_ble_eq_true rfl)⟩ g.2.2.1 (by omega) rfl dX10_passes_78 ?_
          refine sm_goto 102 dX10_passes_81 rfl ?_
          exact sm_less (lv' := [some (.inr o), some (.inl z1), none]) ⟨rfl, rfl, trivial⟩ (bModel_passes_j102_l2 g   h hK)
def fModel_passes  (s : MI) : Option (MI) :=
  Option.bind (sl_it (fun (t : Int × MI) => fModel_passes_l2 t.1 t.2) sl_fu (0, s)) (fun x38 => Option.bind (fModel_sends x38) (fun p39 => Option.bind (some (sm_up p39 1 0 ((p39 1 0) + 1))) (fun s42 => some s42)))
set_option maxRecDepth 100000 in
set_option maxHeartbeats 4000000 in
theorem bModel_passes {G : GT} {E : ET} {o : Nat} {s mi : MI}  {w : MI} (g : gL E o)  (h : fModel_passes s = some w) : cN G yX10_passes cX10_passes 3 none 6 150 [.inr o] E (sm_gl o 10 s mi) (none, E, sm_gl o 10 w mi) := by
  have hN1 := g.1
  have hN2 := g.2.1
  unfold fModel_passes at h
  refine sm_meth (by decide +kernel) (Nat.le_of_ble_eq_true rfl) ?_
  show sM (xModel_passes G) 0 [some (.inr o), none, none] [] E (sm_gl o 10 s mi) _
  refine sm_iconst dX10_passes_0 ?_
  refine sm_istore_n dX10_passes_1 (Nat.le_of_ble_eq_true rfl) ?_
  obtain ⟨x38, hy37, h⟩ := sl_bind h
  refine sm_less (lv' := [some (.inr o), some (.inl 0), none]) ⟨rfl, rfl, trivial⟩ (sl_itE (P := qModel_passes_l2 G E o mi _) (K := kModel_passes_l2 G E o mi _) (fun t q hq hk => bModel_passes_l2 g  hq hk) sl_fu _ x38 hy37 ?_)
  show sM (xModel_passes G) 108 [some (.inr o), none, none] [] E (sm_gl o 10 x38 mi) _
  refine sm_aload_n dX10_passes_108 rfl ?_
  obtain ⟨p39, hp40, h⟩ := sl_bind h
  have hc41 := bModel_sends (G := G) (E := E) (o := o) (s := x38) (mi := mi) g  hp40
  refine sc_callV0 (avs := []) (st := []) lk_RX10_169 rfl vf_X10_sends hc41 ⟨(Nat.le_of_ble_eq_true rfl), (Nat.le_of_ble_eq_true rfl)⟩ ⟨rfl, (Nat.le_of_ble_eq_true rfl)⟩ g.2.2.1 (by omega) rfl dX10_passes_109 ?_
  refine sm_aload_n dX10_passes_112 rfl ?_
  refine sm_getR lf_RX10_7 fR_7_0 g.2.2.1 (by omega) g.2.2.2.1.2 dX10_passes_113 ?_
  refine sm_iconst dX10_passes_116 ?_
  refine sm_dup2 dX10_passes_117 ?_
  refine sl_ialdk (D := 1) (k := 0) g.2.2.2.1.1 rfl (by omega) hN2 ⟨by decide, by decide⟩ dX10_passes_118 ?_
  refine sm_iconst dX10_passes_119 ?_
  refine sm_iadd dX10_passes_120 ?_
  refine sl_iastk (D := 1) (k := 0) g.2.2.2.1.1 rfl (by omega) ⟨hN1, hN2⟩ ⟨by decide, by decide⟩ dX10_passes_121 ?_
  obtain ⟨s42, hs43, h⟩ := sl_bind h
  rw [Option.some.inj hs43]
  cases h
  exact sm_return rfl dX10_passes_122
abbrev xModel_manyIn (G : GT) : XT := (G, yX10_manyIn.cls, cX10_manyIn, 4, (some .int), decide (yX10_manyIn.name = "<init>"), 1, 22)
abbrev qModel_manyIn_l4 (G : GT) (E : ET) (o : Nat) (mi : MI) (z1 : Int) (s : MI) (r : RT) (t : Int × Int) : Prop := sM (xModel_manyIn G) 4 [some (.inr o), some (.inl z1), some (.inl t.1), some (.inl t.2)] [] E (sm_gl o 10 s mi) r
abbrev kModel_manyIn_l4 (G : GT) (E : ET) (o : Nat) (mi : MI) (z1 : Int) (s : MI) (r : RT) (x : Int) : Prop := sM (xModel_manyIn G) 39 [none, none, some (.inl x), none] [] E (sm_gl o 10 s mi) r
def fModel_manyIn_j31_l4 (z1 : Int) (z3 : Int) (y0 : Int) (y1 : Int) (s : MI) : Option ((Int × Int) ⊕ (Int)) :=
  some (.inl ((y0 + y1), (z3 + 1)))
set_option maxRecDepth 100000 in
set_option maxHeartbeats 4000000 in
theorem bModel_manyIn_j31_l4 {G : GT} {E : ET} {o : Nat} {s mi : MI} {z1 : Int} {z3 : Int} {y0 : Int} {y1 : Int} {r : RT} {w : (Int × Int) ⊕ (Int)} (g : gL E o)  (h : fModel_manyIn_j31_l4 z1 z3 y0 y1 s = some w) (hK : Sum.elim (qModel_manyIn_l4 G E o mi z1 s r) (kModel_manyIn_l4 G E o mi z1 s r) w) : sM (xModel_manyIn G) 31 [some (.inr o), some (.inl z1), none, some (.inl z3)] [.inl y1, .inl y0] E (sm_gl o 10 s mi) r := by
  have hN1 := g.1
  have hN2 := g.2.1
  unfold fModel_manyIn_j31_l4 at h
  refine sm_iadd dX10_manyIn_31 ?_
  refine sm_istore_n dX10_manyIn_32 (Nat.le_of_ble_eq_true rfl) ?_
  refine sm_iinc dX10_manyIn_33 (Nat.le_of_ble_eq_true rfl) rfl ?_
  refine sm_goto 4 dX10_manyIn_36 rfl ?_
  cases h
  exact sm_less (lv' := [some (.inr o), some (.inl z1), some (.inl (y0 + y1)), some (.inl (z3 + 1))]) ⟨rfl, rfl, rfl, rfl, trivial⟩ hK
def fModel_manyIn_l4 (z1 : Int) (z2 : Int) (z3 : Int) (s : MI) : Option ((Int × Int) ⊕ (Int)) :=
  (if sm_w (s 1 9) ≤ sm_w z3 then some (.inr z2) else Option.bind (fModel_ofCall z3 5 s) (fun p1 => (if sm_w p1 = sm_w z1 then fModel_manyIn_j31_l4 z1 z3 z2 1 s else fModel_manyIn_j31_l4 z1 z3 z2 0 s)))
set_option maxRecDepth 100000 in
set_option maxHeartbeats 4000000 in
theorem bModel_manyIn_l4 {G : GT} {E : ET} {o : Nat} {s mi : MI} {z1 : Int} {z2 : Int} {z3 : Int} {r : RT} {w : (Int × Int) ⊕ (Int)} (g : gL E o)  (h : fModel_manyIn_l4 z1 z2 z3 s = some w) (hK : Sum.elim (qModel_manyIn_l4 G E o mi z1 s r) (kModel_manyIn_l4 G E o mi z1 s r) w) : qModel_manyIn_l4 G E o mi z1 s r (z2, z3) := by
  have hN1 := g.1
  have hN2 := g.2.1
  unfold fModel_manyIn_l4 at h
  show sM (xModel_manyIn G) 4 [some (.inr o), some (.inl z1), some (.inl z2), some (.inl z3)] [] E (sm_gl o 10 s mi) r
  refine sm_iload_n dX10_manyIn_4 rfl ?_
  refine sm_aload_n dX10_manyIn_5 rfl ?_
  refine sm_getR lf_RX10_7 fR_7_0 g.2.2.1 (by omega) g.2.2.2.1.2 dX10_manyIn_6 ?_
  refine sm_bipush dX10_manyIn_9 rfl ?_
  refine sl_ialdk (D := 1) (k := 9) g.2.2.2.1.1 rfl (by omega) hN2 ⟨by decide, by decide⟩ dX10_manyIn_11 ?_
  refine sc_icmp_ge (X' := sm_w z3) (Y' := sm_w (s 1 9)) 39 dX10_manyIn_12 rfl rfl rfl (fun c5 => ?_) (fun c5 => ?_)
  · rw [if_pos c5] at h
    cases h
    exact sm_less (lv' := [none, none, some (.inl z2), none]) ⟨rfl, trivial⟩ hK
  · rw [if_neg c5] at h
    refine sm_iload_n dX10_manyIn_15 rfl ?_
    refine sm_aload_n dX10_manyIn_16 rfl ?_
    refine sm_iload_n dX10_manyIn_17 rfl ?_
    refine sm_iconst dX10_manyIn_18 ?_
    obtain ⟨p1, hp2, h⟩ := sl_bind h
    have hc3 := bModel_ofCall (G := G) (E := E) (o := o) (s := s) (mi := mi) g  hp2
    refine sc_callV1 (avs := [.inl z3, .inl 5]) (st := [.inl z2]) lk_RX10_72 rfl vf_X10_ofCall hc3 ⟨(Nat.le_of_ble_eq_true rfl), (Nat.le_of_ble_eq_true rfl)⟩ ⟨rfl, (Nat.le_of_ble_eq_true rfl)⟩ g.2.2.1 (by omega) rfl dX10_manyIn_19 ?_
    refine sm_iload_n dX10_manyIn_22 rfl ?_
    refine sc_icmp_ne (X' := sm_w p1) (Y' := sm_w z1) 30 dX10_manyIn_23 rfl rfl rfl (fun c4 => ?_) (fun c4 => ?_)
    · rw [if_neg c4] at h
      refine sm_iconst dX10_manyIn_30 ?_
      exact sm_less (lv' := [some (.inr o), some (.inl z1), none, some (.inl z3)]) ⟨rfl, rfl, rfl, trivial⟩ (bModel_manyIn_j31_l4 g   h hK)
    · rw [if_pos c4] at h
      refine sm_iconst dX10_manyIn_26 ?_
      refine sm_goto 31 dX10_manyIn_27 rfl ?_
      exact sm_less (lv' := [some (.inr o), some (.inl z1), none, some (.inl z3)]) ⟨rfl, rfl, rfl, trivial⟩ (bModel_manyIn_j31_l4 g   h hK)
def fModel_manyIn (z1 : Int) (s : MI) : Option (Int) :=
  Option.bind (sl_it (fun (t : Int × Int) => fModel_manyIn_l4 z1 t.1 t.2 s) sl_fu (0, 0)) (fun x8 => some x8)
set_option maxRecDepth 100000 in
set_option maxHeartbeats 4000000 in
theorem bModel_manyIn {G : GT} {E : ET} {o : Nat} {s mi : MI} {z1 : Int} {w : Int} (g : gL E o)  (h : fModel_manyIn z1 s = some w) : cN G yX10_manyIn cX10_manyIn 4 (some .int) 1 22 [.inr o, .inl z1] E (sm_gl o 10 s mi) (some (.inl w), E, (sm_gl o 10 s mi)) := by
  have hN1 := g.1
  have hN2 := g.2.1
  unfold fModel_manyIn at h
  refine sm_meth (by decide +kernel) (Nat.le_of_ble_eq_true rfl) ?_
  show sM (xModel_manyIn G) 0 [some (.inr o), some (.inl z1), none, none] [] E (sm_gl o 10 s mi) _
  refine sm_iconst dX10_manyIn_0 ?_
  refine sm_istore_n dX10_manyIn_1 (Nat.le_of_ble_eq_true rfl) ?_
  refine sm_iconst dX10_manyIn_2 ?_
  refine sm_istore_n dX10_manyIn_3 (Nat.le_of_ble_eq_true rfl) ?_
  obtain ⟨x8, hy7, h⟩ := sl_bind h
  refine sm_less (lv' := [some (.inr o), some (.inl z1), some (.inl 0), some (.inl 0)]) ⟨rfl, rfl, rfl, rfl, trivial⟩ (sl_itE (P := qModel_manyIn_l4 G E o mi z1 s _) (K := kModel_manyIn_l4 G E o mi z1 s _) (fun t q hq hk => bModel_manyIn_l4 g  hq hk) sl_fu _ x8 hy7 ?_)
  show sM (xModel_manyIn G) 39 [none, none, some (.inl x8), none] [] E (sm_gl o 10 s mi) _
  refine sm_iload_n dX10_manyIn_39 rfl ?_
  cases h
  exact sm_ireturn dX10_manyIn_40 (Or.inl rfl)
abbrev xModel_pass (G : GT) : XT := (G, yX10_pass.cls, cX10_pass, 4, (some .int), decide (yX10_pass.name = "<init>"), 7, 172)
abbrev qModel_pass_l49 (G : GT) (E : ET) (o : Nat) (mi : MI) (z1 : Int) (z2 : Int) (r : RT) (t : Int × MI) : Prop := sM (xModel_pass G) 49 [some (.inr o), some (.inl z1), some (.inl z2), some (.inl t.1)] [] E (sm_gl o 10 t.2 mi) r
abbrev kModel_pass_l49 (G : GT) (E : ET) (o : Nat) (mi : MI) (z1 : Int) (z2 : Int) (r : RT) (x : MI) : Prop := sM (xModel_pass G) 64 [some (.inr o), none, some (.inl z2), none] [] E (sm_gl o 10 x mi) r
def fModel_pass_l49 (z1 : Int) (z2 : Int) (z3 : Int) (s : MI) : Option ((Int × MI) ⊕ (MI)) :=
  (if sm_w z1 ≤ sm_w z3 then some (.inr s) else Option.bind (fModel_passes s) (fun p13 => some (.inl ((z3 + 1), p13))))
set_option maxRecDepth 100000 in
set_option maxHeartbeats 4000000 in
theorem bModel_pass_l49 {G : GT} {E : ET} {o : Nat} {s mi : MI} {z1 : Int} {z2 : Int} {z3 : Int} {r : RT} {w : (Int × MI) ⊕ (MI)} (g : gL E o)  (h : fModel_pass_l49 z1 z2 z3 s = some w) (hK : Sum.elim (qModel_pass_l49 G E o mi z1 z2 r) (kModel_pass_l49 G E o mi z1 z2 r) w) : qModel_pass_l49 G E o mi z1 z2 r (z3, s) := by
  have hN1 := g.1
  have hN2 := g.2.1
  unfold fModel_pass_l49 at h
  show sM (xModel_pass G) 49 [some (.inr o), some (.inl z1), some (.inl z2), some (.inl z3)] [] E (sm_gl o 10 s mi) r
  refine sm_iload_n dX10_pass_49 rfl ?_
  refine sm_iload_n dX10_pass_50 rfl ?_
  refine sc_icmp_ge (X' := sm_w z3) (Y' := sm_w z1) 64 dX10_pass_51 rfl rfl rfl (fun c16 => ?_) (fun c16 => ?_)
  · rw [if_pos c16] at h
    cases h
    exact sm_less (lv' := [some (.inr o), none, some (.inl z2), none]) ⟨rfl, rfl, trivial⟩ hK
  · rw [if_neg c16] at h
    refine sm_aload_n dX10_pass_54 rfl ?_
    obtain ⟨p13, hp14, h⟩ := sl_bind h
    have hc15 := bModel_passes (G := G) (E := E) (o := o) (s := s) (mi := mi) g  hp14
    refine sc_callV0 (avs := []) (st := []) lk_RX10_175 rfl vf_X10_passes hc15 ⟨(Nat.le_of_ble_eq_true rfl), (Nat.le_of_ble_eq_true rfl)⟩ ⟨rfl, (Nat.le_of_ble_eq_true rfl)⟩ g.2.2.1 (by omega) rfl dX10_pass_55 ?_
    refine sm_iinc dX10_pass_58 (Nat.le_of_ble_eq_true rfl) rfl ?_
    refine sm_goto 49 dX10_pass_61 rfl ?_
    cases h
    exact sm_less (lv' := [some (.inr o), some (.inl z1), some (.inl z2), some (.inl (z3 + 1))]) ⟨rfl, rfl, rfl, rfl, trivial⟩ hK
def fModel_pass (z1 : Int) (s : MI) : Option (Int × MI) :=
  Option.bind (fModel_in z1 1 120) (fun p1 => (if sm_w p1 = 0 then some ((-2), s) else (if sm_w ((s 1 0) + z1) ≤ 2880 then Option.bind (fModel_records s) (fun p4 => Option.bind (fModel_manyIn 5 p4) (fun p7 => Option.bind (fModel_manyIn 6 p4) (fun p10 => Option.bind (sl_it (fun (t : Int × MI) => fModel_pass_l49 z1 (p7 + p10) t.1 t.2) sl_fu (0, p4)) (fun x19 => Option.bind (fModel_manyIn 5 x19) (fun p20 => Option.bind (fModel_manyIn 6 x19) (fun p23 => some (((p20 + p23) - (p7 + p10)), x19))))))) else some ((-4), s))))
set_option maxRecDepth 100000 in
set_option maxHeartbeats 4000000 in
theorem bModel_pass {G : GT} {E : ET} {o : Nat} {s mi : MI} {z1 : Int} {w : Int × MI} (g : gL E o)  (h : fModel_pass z1 s = some w) : cN G yX10_pass cX10_pass 4 (some .int) 7 172 [.inr o, .inl z1] E (sm_gl o 10 s mi) (some (.inl w.1), E, sm_gl o 10 w.2 mi) := by
  have hN1 := g.1
  have hN2 := g.2.1
  unfold fModel_pass at h
  refine sm_meth (by decide +kernel) (Nat.le_of_ble_eq_true rfl) ?_
  show sM (xModel_pass G) 0 [some (.inr o), some (.inl z1), none, none] [] E (sm_gl o 10 s mi) _
  refine sm_iload_n dX10_pass_0 rfl ?_
  refine sm_iconst dX10_pass_1 ?_
  refine sm_bipush dX10_pass_2 rfl ?_
  obtain ⟨p1, hp2, h⟩ := sl_bind h
  have hc3 := bModel_in (G := G) (E := E) (mi := (sm_gl o 10 s mi))   hp2
  refine sc_callS1 (avs := [.inl z1, .inl 1, .inl 120]) (st := []) lk_RX10_48 rfl sf_X10_in hc3 ⟨(Nat.le_of_ble_eq_true rfl), (Nat.le_of_ble_eq_true rfl)⟩ ⟨rfl, (Nat.le_of_ble_eq_true rfl)⟩ rfl dX10_pass_4 ?_
  refine sm_if_ne 13 dX10_pass_7 rfl (fun c27 => ?_) (fun c27 => ?_)
  · rw [if_neg c27] at h
    refine sm_aload_n dX10_pass_13 rfl ?_
    refine sm_getR lf_RX10_7 fR_7_0 g.2.2.1 (by omega) g.2.2.2.1.2 dX10_pass_14 ?_
    refine sm_iconst dX10_pass_17 ?_
    refine sl_ialdk (D := 1) (k := 0) g.2.2.2.1.1 rfl (by omega) hN2 ⟨by decide, by decide⟩ dX10_pass_18 ?_
    refine sm_iload_n dX10_pass_19 rfl ?_
    refine sm_iadd dX10_pass_20 ?_
    refine sm_sipush dX10_pass_21 rfl ?_
    refine sc_icmp_le (X' := sm_w ((s 1 0) + z1)) (Y' := 2880) 30 dX10_pass_24 rfl rfl (by decide) (fun c26 => ?_) (fun c26 => ?_)
    · rw [if_pos c26] at h
      refine sm_aload_n dX10_pass_30 rfl ?_
      obtain ⟨p4, hp5, h⟩ := sl_bind h
      have hc6 := bModel_records (G := G) (E := E) (o := o) (s := s) (mi := mi) g  hp5
      refine sc_callV0 (avs := []) (st := []) lk_RX10_61 rfl vf_X10_records hc6 ⟨(Nat.le_of_ble_eq_true rfl), (Nat.le_of_ble_eq_true rfl)⟩ ⟨rfl, (Nat.le_of_ble_eq_true rfl)⟩ g.2.2.1 (by omega) rfl dX10_pass_31 ?_
      refine sm_aload_n dX10_pass_34 rfl ?_
      refine sm_iconst dX10_pass_35 ?_
      obtain ⟨p7, hp8, h⟩ := sl_bind h
      have hc9 := bModel_manyIn (G := G) (E := E) (o := o) (s := p4) (mi := mi) g  hp8
      refine sc_callV1 (avs := [.inl 5]) (st := []) lk_RX10_172 rfl vf_X10_manyIn hc9 ⟨(Nat.le_of_ble_eq_true rfl), (Nat.le_of_ble_eq_true rfl)⟩ ⟨rfl, (Nat.le_of_ble_eq_true rfl)⟩ g.2.2.1 (by omega) rfl dX10_pass_36 ?_
      refine sm_aload_n dX10_pass_39 rfl ?_
      refine sm_bipush dX10_pass_40 rfl ?_
      obtain ⟨p10, hp11, h⟩ := sl_bind h
      have hc12 := bModel_manyIn (G := G) (E := E) (o := o) (s := p4) (mi := mi) g  hp11
      refine sc_callV1 (avs := [.inl 6]) (st := [.inl p7]) lk_RX10_172 rfl vf_X10_manyIn hc12 ⟨(Nat.le_of_ble_eq_true rfl), (Nat.le_of_ble_eq_true rfl)⟩ ⟨rfl, (Nat.le_of_ble_eq_true rfl)⟩ g.2.2.1 (by omega) rfl dX10_pass_42 ?_
      refine sm_iadd dX10_pass_45 ?_
      refine sm_istore_n dX10_pass_46 (Nat.le_of_ble_eq_true rfl) ?_
      refine sm_iconst dX10_pass_47 ?_
      refine sm_istore_n dX10_pass_48 (Nat.le_of_ble_eq_true rfl) ?_
      obtain ⟨x19, hy18, h⟩ := sl_bind h
      refine sm_less (lv' := [some (.inr o), some (.inl z1), some (.inl (p7 + p10)), some (.inl 0)]) ⟨rfl, rfl, rfl, rfl, trivial⟩ (sl_itE (P := qModel_pass_l49 G E o mi z1 (p7 + p10) _) (K := kModel_pass_l49 G E o mi z1 (p7 + p10) _) (fun t q hq hk => bModel_pass_l49 g  hq hk) sl_fu _ x19 hy18 ?_)
      show sM (xModel_pass G) 64 [some (.inr o), none, some (.inl (p7 + p10)), none] [] E (sm_gl o 10 x19 mi) _
      refine sm_aload_n dX10_pass_64 rfl ?_
      refine sm_iconst dX10_pass_65 ?_
      obtain ⟨p20, hp21, h⟩ := sl_bind h
      have hc22 := bModel_manyIn (G := G) (E := E) (o := o) (s := x19) (mi := mi) g  hp21
      refine sc_callV1 (avs := [.inl 5]) (st := []) lk_RX10_172 rfl vf_X10_manyIn hc22 ⟨(Nat.le_of_ble_eq_true rfl), (Nat.le_of_ble_eq_true rfl)⟩ ⟨rfl, (Nat.le_of_ble_eq_true rfl)⟩ g.2.2.1 (by omega) rfl dX10_pass_66 ?_
      refine sm_aload_n dX10_pass_69 rfl ?_
      refine sm_bipush dX10_pass_70 rfl ?_
      obtain ⟨p23, hp24, h⟩ := sl_bind h
      have hc25 := bModel_manyIn (G := G) (E := E) (o := o) (s := x19) (mi := mi) g  hp24
      refine sc_callV1 (avs := [.inl 6]) (st := [.inl p20]) lk_RX10_172 rfl vf_X10_manyIn hc25 ⟨(Nat.le_of_ble_eq_true rfl), (Nat.le_of_ble_eq_true rfl)⟩ ⟨rfl, (Nat.le_of_ble_eq_true rfl)⟩ g.2.2.1 (by omega) rfl dX10_pass_72 ?_
      refine sm_iadd dX10_pass_75 ?_
      refine sm_iload_n dX10_pass_76 rfl ?_
      refine sm_isub dX10_pass_77 ?_
      cases h
      exact sm_ireturn dX10_pass_78 (Or.inl rfl)
    · rw [if_neg c26] at h
      refine sm_bipush dX10_pass_27 rfl ?_
      cases h
      exact sm_ireturn dX10_pass_29 (Or.inl rfl)
  · rw [if_pos c27] at h
    refine sm_bipush dX10_pass_10 rfl ?_
    cases h
    exact sm_ireturn dX10_pass_12 (Or.inl rfl)
abbrev xModel_type (G : GT) : XT := (G, yX10_type.cls, cX10_type, 2, (some .int), decide (yX10_type.name = "<init>"), 0, 0)
def fModel_type (z1 : Int) (s : MI) : Option (Int × MI) :=
  (if sm_w (s 0 7) = 60 then some ((-3), s) else if 0 ≤ sm_w (s 0 7) ∧ sm_w (s 0 7) < 60 then Option.bind (some (sm_up s 5 (sm_w (s 0 7)).toNat z1)) (fun s2 => Option.bind (some (sm_up s2 0 7 ((s2 0 7) + 1))) (fun s4 => some ((s4 0 7), s4))) else none)
set_option maxRecDepth 100000 in
set_option maxHeartbeats 4000000 in
theorem bModel_type {G : GT} {E : ET} {o : Nat} {s mi : MI} {z1 : Int} {w : Int × MI} (g : gL E o)  (h : fModel_type z1 s = some w) : cN G yX10_type cX10_type 2 (some .int) 0 0 [.inr o, .inl z1] E (sm_gl o 10 s mi) (some (.inl w.1), E, sm_gl o 10 w.2 mi) := by
  have hN1 := g.1
  have hN2 := g.2.1
  unfold fModel_type at h
  refine sm_meth (by decide +kernel) (Nat.le_of_ble_eq_true rfl) ?_
  show sM (xModel_type G) 0 [some (.inr o), some (.inl z1)] [] E (sm_gl o 10 s mi) _
  refine sm_aload_n dX10_type_0 rfl ?_
  refine sl_getI (D := 0) lf_RX10_178 fI_7_7 g.2.2.1 rfl (by omega) hN2 dX10_type_1 ?_
  refine sm_bipush dX10_type_4 rfl ?_
  refine sc_icmp_ne (X' := sm_w (s 0 7)) (Y' := 60) 12 dX10_type_6 rfl rfl (by decide) (fun c6 => ?_) (fun c6 => ?_)
  · rw [if_neg c6] at h
    refine sm_aload_n dX10_type_12 rfl ?_
    refine sm_getR lf_RX10_22 fR_7_6 g.2.2.1 (by omega) g.2.2.2.2.2.2.2.1.2 dX10_type_13 ?_
    refine sm_aload_n dX10_type_16 rfl ?_
    refine sl_getI (D := 0) lf_RX10_178 fI_7_7 g.2.2.1 rfl (by omega) hN2 dX10_type_17 ?_
    refine sm_iload_n dX10_type_20 rfl ?_
    obtain ⟨q1, h⟩ := sl_guard h
    have xq1 := (sl_ix (m := 60) q1).2
    refine sl_iastk (D := 5) (k := (sm_w (s 0 7)).toNat) g.2.2.2.2.2.2.2.1.1 rfl (by omega) ⟨hN1, hN2⟩ (sl_ix (m := 60) q1) dX10_type_21 ?_
    obtain ⟨s2, hs3, h⟩ := sl_bind h
    rw [Option.some.inj hs3]
    refine sm_aload_n dX10_type_22 rfl ?_
    refine sm_dup dX10_type_23 ?_
    refine sl_getI (D := 0) lf_RX10_178 fI_7_7 g.2.2.1 rfl (by omega) hN2 dX10_type_24 ?_
    refine sm_iconst dX10_type_27 ?_
    refine sm_iadd dX10_type_28 ?_
    refine sl_putI (D := 0) lf_RX10_178 fP_7_7 (Or.inl rfl) g.2.2.1 rfl (by omega) ⟨hN1, hN2⟩ dX10_type_29 ?_
    obtain ⟨s4, hs5, h⟩ := sl_bind h
    rw [Option.some.inj hs5]
    refine sm_aload_n dX10_type_32 rfl ?_
    refine sl_getI (D := 0) lf_RX10_178 fI_7_7 g.2.2.1 rfl (by omega) hN2 dX10_type_33 ?_
    cases h
    exact sm_ireturn dX10_type_36 (Or.inl rfl)
  · rw [if_pos c6] at h
    refine sm_bipush dX10_type_9 rfl ?_
    cases h
    exact sm_ireturn dX10_type_11 (Or.inl rfl)
abbrev xModel_clearText (G : GT) : XT := (G, yX10_clearText.cls, cX10_clearText, 2, (some .int), decide (yX10_clearText.name = "<init>"), 0, 0)
def fModel_clearText  (s : MI) : Option (Int × MI) :=
  Option.bind (some (sm_up s 0 7 0)) (fun s1 => some ((s 0 7), s1))
set_option maxRecDepth 100000 in
set_option maxHeartbeats 4000000 in
theorem bModel_clearText {G : GT} {E : ET} {o : Nat} {s mi : MI}  {w : Int × MI} (g : gL E o)  (h : fModel_clearText s = some w) : cN G yX10_clearText cX10_clearText 2 (some .int) 0 0 [.inr o] E (sm_gl o 10 s mi) (some (.inl w.1), E, sm_gl o 10 w.2 mi) := by
  have hN1 := g.1
  have hN2 := g.2.1
  unfold fModel_clearText at h
  refine sm_meth (by decide +kernel) (Nat.le_of_ble_eq_true rfl) ?_
  show sM (xModel_clearText G) 0 [some (.inr o), none] [] E (sm_gl o 10 s mi) _
  refine sm_aload_n dX10_clearText_0 rfl ?_
  refine sl_getI (D := 0) lf_RX10_178 fI_7_7 g.2.2.1 rfl (by omega) hN2 dX10_clearText_1 ?_
  refine sm_istore_n dX10_clearText_4 (Nat.le_of_ble_eq_true rfl) ?_
  refine sm_aload_n dX10_clearText_5 rfl ?_
  refine sm_iconst dX10_clearText_6 ?_
  refine sl_putI (D := 0) lf_RX10_178 fP_7_7 (Or.inl rfl) g.2.2.1 rfl (by omega) ⟨hN1, hN2⟩ dX10_clearText_7 ?_
  obtain ⟨s1, hs2, h⟩ := sl_bind h
  rw [Option.some.inj hs2]
  refine sm_iload_n dX10_clearText_10 rfl ?_
  cases h
  exact sm_ireturn dX10_clearText_11 (Or.inl rfl)
abbrev xModel_signAt (G : GT) : XT := (G, yX10_signAt.cls, cX10_signAt, 2, (some .int), decide (yX10_signAt.name = "<init>"), 0, 0)
def fModel_signAt (z1 : Int) (s : MI) : Option (Int) :=
  (if sm_w (s 0 7) ≤ sm_w z1 then some (-5) else if 0 ≤ sm_w z1 ∧ sm_w z1 < 60 then some (s 5 (sm_w z1).toNat) else none)
set_option maxRecDepth 100000 in
set_option maxHeartbeats 4000000 in
theorem bModel_signAt {G : GT} {E : ET} {o : Nat} {s mi : MI} {z1 : Int} {w : Int} (g : gL E o)  (h : fModel_signAt z1 s = some w) : cN G yX10_signAt cX10_signAt 2 (some .int) 0 0 [.inr o, .inl z1] E (sm_gl o 10 s mi) (some (.inl w), E, (sm_gl o 10 s mi)) := by
  have hN1 := g.1
  have hN2 := g.2.1
  unfold fModel_signAt at h
  refine sm_meth (by decide +kernel) (Nat.le_of_ble_eq_true rfl) ?_
  show sM (xModel_signAt G) 0 [some (.inr o), some (.inl z1)] [] E (sm_gl o 10 s mi) _
  refine sm_iload_n dX10_signAt_0 rfl ?_
  refine sm_aload_n dX10_signAt_1 rfl ?_
  refine sl_getI (D := 0) lf_RX10_178 fI_7_7 g.2.2.1 rfl (by omega) hN2 dX10_signAt_2 ?_
  refine sc_icmp_ge (X' := sm_w z1) (Y' := sm_w (s 0 7)) 17 dX10_signAt_5 rfl rfl rfl (fun c2 => ?_) (fun c2 => ?_)
  · rw [if_pos c2] at h
    refine sm_bipush dX10_signAt_17 rfl ?_
    cases h
    exact sm_ireturn dX10_signAt_19 (Or.inl rfl)
  · rw [if_neg c2] at h
    refine sm_aload_n dX10_signAt_8 rfl ?_
    refine sm_getR lf_RX10_22 fR_7_6 g.2.2.1 (by omega) g.2.2.2.2.2.2.2.1.2 dX10_signAt_9 ?_
    refine sm_iload_n dX10_signAt_12 rfl ?_
    obtain ⟨q1, h⟩ := sl_guard h
    have xq1 := (sl_ix (m := 60) q1).2
    refine sl_ialdk (D := 5) (k := (sm_w z1).toNat) g.2.2.2.2.2.2.2.1.1 rfl (by omega) hN2 (sl_ix (m := 60) q1) dX10_signAt_13 ?_
    refine sm_goto 19 dX10_signAt_14 rfl ?_
    cases h
    exact sm_ireturn dX10_signAt_19 (Or.inl rfl)
abbrev xModel_reads (G : GT) : XT := (G, yX10_reads.cls, cX10_reads, 4, (some .boolean), decide (yX10_reads.name = "<init>"), 1, 22)
def fModel_reads_j115 (z2 : Int) (z3 : Int) (s : MI) : Option (Int × MI) :=
  if 0 ≤ sm_w z2 ∧ sm_w z2 < 60 then Option.bind (some (sm_up s 9 (sm_w z2).toNat z3)) (fun s18 => some (1, s18)) else none
set_option maxRecDepth 100000 in
set_option maxHeartbeats 4000000 in
theorem bModel_reads_j115 {G : GT} {E : ET} {o : Nat} {s mi : MI} {z2 : Int} {z3 : Int} {w : Int × MI} (g : gL E o)  (h : fModel_reads_j115 z2 z3 s = some w) : sM (xModel_reads G) 115 [some (.inr o), none, some (.inl z2), some (.inl z3)] [] E (sm_gl o 10 s mi) (some (.inl w.1), E, sm_gl o 10 w.2 mi) := by
  have hN1 := g.1
  have hN2 := g.2.1
  unfold fModel_reads_j115 at h
  refine sm_aload_n dX10_reads_115 rfl ?_
  refine sm_getR lf_RX10_34 fR_7_12 g.2.2.1 (by omega) g.2.2.2.2.2.2.2.2.2.2.2.2 dX10_reads_116 ?_
  refine sm_iload_n dX10_reads_119 rfl ?_
  refine sm_iload_n dX10_reads_120 rfl ?_
  obtain ⟨q17, h⟩ := sl_guard h
  have xq17 := (sl_ix (m := 60) q17).2
  refine sl_iastk (D := 9) (k := (sm_w z2).toNat) g.2.2.2.2.2.2.2.2.2.2.2.1 rfl (by omega) ⟨hN1, hN2⟩ (sl_ix (m := 60) q17) dX10_reads_121 ?_
  obtain ⟨s18, hs19, h⟩ := sl_bind h
  rw [Option.some.inj hs19]
  refine sm_iconst dX10_reads_122 ?_
  cases h
  exact sm_ireturn dX10_reads_123 (Or.inr ⟨rfl, Or.inr rfl⟩)
def fModel_reads (z1 : Int) (z2 : Int) (s : MI) : Option (Int × MI) :=
  Option.bind (fModel_signAt (s 0 14) s) (fun p1 => (if sm_w p1 = sm_w z1 then Option.bind (some (sm_up s 0 14 ((s 0 14) + 1))) (fun s4 => Option.bind (fModel_signAt (s4 0 14) s4) (fun p6 => Option.bind (fModel_in p6 48 57) (fun p9 => (if sm_w p9 = 0 then some (0, s4) else Option.bind (fModel_signAt (s4 0 14) s4) (fun p12 => Option.bind (some (sm_up s4 0 14 ((s4 0 14) + 1))) (fun s15 => (if sm_w (p12 - 48) ≤ 0 then fModel_reads_j115 z2 (p12 - 48) s15 else Option.bind (fModel_signAt (s15 0 14) s15) (fun p20 => Option.bind (fModel_in p20 48 57) (fun p23 => (if sm_w p23 = 0 then fModel_reads_j115 z2 (p12 - 48) s15 else Option.bind (fModel_signAt (s15 0 14) s15) (fun p26 => Option.bind (some (sm_up s15 0 14 ((s15 0 14) + 1))) (fun s29 => fModel_reads_j115 z2 (((10 * (p12 - 48)) + p26) - 48) s29)))))))))))) else some (0, s)))
set_option maxRecDepth 100000 in
set_option maxHeartbeats 4000000 in
theorem bModel_reads {G : GT} {E : ET} {o : Nat} {s mi : MI} {z1 : Int} {z2 : Int} {w : Int × MI} (g : gL E o)  (h : fModel_reads z1 z2 s = some w) : cN G yX10_reads cX10_reads 4 (some .boolean) 1 22 [.inr o, .inl z1, .inl z2] E (sm_gl o 10 s mi) (some (.inl w.1), E, sm_gl o 10 w.2 mi) := by
  have hN1 := g.1
  have hN2 := g.2.1
  unfold fModel_reads at h
  refine sm_meth (by decide +kernel) (Nat.le_of_ble_eq_true rfl) ?_
  show sM (xModel_reads G) 0 [some (.inr o), some (.inl z1), some (.inl z2), none] [] E (sm_gl o 10 s mi) _
  refine sm_aload_n dX10_reads_0 rfl ?_
  refine sm_aload_n dX10_reads_1 rfl ?_
  refine sl_getI (D := 0) lf_RX10_181 fI_7_14 g.2.2.1 rfl (by omega) hN2 dX10_reads_2 ?_
  obtain ⟨p1, hp2, h⟩ := sl_bind h
  have hc3 := bModel_signAt (G := G) (E := E) (o := o) (s := s) (mi := mi) g  hp2
  refine sc_callV1 (avs := [.inl (s 0 14)]) (st := []) lk_RX10_184 rfl vf_X10_signAt hc3 ⟨(Nat.le_of_ble_eq_true rfl), (Nat.le_of_ble_eq_true rfl)⟩ ⟨rfl, (Nat.le_of_ble_eq_true rfl)⟩ g.2.2.1 (by omega) rfl dX10_reads_5 ?_
  refine sm_iload_n dX10_reads_8 rfl ?_
  refine sc_icmp_eq (X' := sm_w p1) (Y' := sm_w z1) 14 dX10_reads_9 rfl rfl rfl (fun c34 => ?_) (fun c34 => ?_)
  · rw [if_pos c34] at h
    refine sm_aload_n dX10_reads_14 rfl ?_
    refine sm_dup dX10_reads_15 ?_
    refine sl_getI (D := 0) lf_RX10_181 fI_7_14 g.2.2.1 rfl (by omega) hN2 dX10_reads_16 ?_
    refine sm_iconst dX10_reads_19 ?_
    refine sm_iadd dX10_reads_20 ?_
    refine sl_putI (D := 0) lf_RX10_181 fP_7_14 (Or.inl rfl) g.2.2.1 rfl (by omega) ⟨hN1, hN2⟩ dX10_reads_21 ?_
    obtain ⟨s4, hs5, h⟩ := sl_bind h
    rw [Option.some.inj hs5]
    refine sm_aload_n dX10_reads_24 rfl ?_
    refine sm_aload_n dX10_reads_25 rfl ?_
    refine sl_getI (D := 0) lf_RX10_181 fI_7_14 g.2.2.1 rfl (by omega) hN2 dX10_reads_26 ?_
    obtain ⟨p6, hp7, h⟩ := sl_bind h
    have hc8 := bModel_signAt (G := G) (E := E) (o := o) (s := s4) (mi := mi) g  hp7
    refine sc_callV1 (avs := [.inl (s4 0 14)]) (st := []) lk_RX10_184 rfl vf_X10_signAt hc8 ⟨(Nat.le_of_ble_eq_true rfl), (Nat.le_of_ble_eq_true rfl)⟩ ⟨rfl, (Nat.le_of_ble_eq_true rfl)⟩ g.2.2.1 (by omega) rfl dX10_reads_29 ?_
    refine sm_bipush dX10_reads_32 rfl ?_
    refine sm_bipush dX10_reads_34 rfl ?_
    obtain ⟨p9, hp10, h⟩ := sl_bind h
    have hc11 := bModel_in (G := G) (E := E) (mi := (sm_gl o 10 s4 mi))   hp10
    refine sc_callS1 (avs := [.inl p6, .inl 48, .inl 57]) (st := []) lk_RX10_48 rfl sf_X10_in hc11 ⟨(Nat.le_of_ble_eq_true rfl), (Nat.le_of_ble_eq_true rfl)⟩ ⟨rfl, (Nat.le_of_ble_eq_true rfl)⟩ rfl dX10_reads_36 ?_
    refine sm_if_ne 44 dX10_reads_39 rfl (fun c33 => ?_) (fun c33 => ?_)
    · rw [if_neg c33] at h
      refine sm_aload_n dX10_reads_44 rfl ?_
      refine sm_aload_n dX10_reads_45 rfl ?_
      refine sl_getI (D := 0) lf_RX10_181 fI_7_14 g.2.2.1 rfl (by omega) hN2 dX10_reads_46 ?_
      obtain ⟨p12, hp13, h⟩ := sl_bind h
      have hc14 := bModel_signAt (G := G) (E := E) (o := o) (s := s4) (mi := mi) g  hp13
      refine sc_callV1 (avs := [.inl (s4 0 14)]) (st := []) lk_RX10_184 rfl vf_X10_signAt hc14 ⟨(Nat.le_of_ble_eq_true rfl), (Nat.le_of_ble_eq_true rfl)⟩ ⟨rfl, (Nat.le_of_ble_eq_true rfl)⟩ g.2.2.1 (by omega) rfl dX10_reads_49 ?_
      refine sm_bipush dX10_reads_52 rfl ?_
      refine sm_isub dX10_reads_54 ?_
      refine sm_istore_n dX10_reads_55 (Nat.le_of_ble_eq_true rfl) ?_
      refine sm_aload_n dX10_reads_56 rfl ?_
      refine sm_dup dX10_reads_57 ?_
      refine sl_getI (D := 0) lf_RX10_181 fI_7_14 g.2.2.1 rfl (by omega) hN2 dX10_reads_58 ?_
      refine sm_iconst dX10_reads_61 ?_
      refine sm_iadd dX10_reads_62 ?_
      refine sl_putI (D := 0) lf_RX10_181 fP_7_14 (Or.inl rfl) g.2.2.1 rfl (by omega) ⟨hN1, hN2⟩ dX10_reads_63 ?_
      obtain ⟨s15, hs16, h⟩ := sl_bind h
      rw [Option.some.inj hs16]
      refine sm_iload_n dX10_reads_66 rfl ?_
      refine sm_if_le 115 dX10_reads_67 rfl (fun c32 => ?_) (fun c32 => ?_)
      · rw [if_pos c32] at h
        exact sm_less (lv' := [some (.inr o), none, some (.inl z2), some (.inl (p12 - 48))]) ⟨rfl, rfl, rfl, trivial⟩ (bModel_reads_j115 g   h)
      · rw [if_neg c32] at h
        refine sm_aload_n dX10_reads_70 rfl ?_
        refine sm_aload_n dX10_reads_71 rfl ?_
        refine sl_getI (D := 0) lf_RX10_181 fI_7_14 g.2.2.1 rfl (by omega) hN2 dX10_reads_72 ?_
        obtain ⟨p20, hp21, h⟩ := sl_bind h
        have hc22 := bModel_signAt (G := G) (E := E) (o := o) (s := s15) (mi := mi) g  hp21
        refine sc_callV1 (avs := [.inl (s15 0 14)]) (st := []) lk_RX10_184 rfl vf_X10_signAt hc22 ⟨(Nat.le_of_ble_eq_true rfl), (Nat.le_of_ble_eq_true rfl)⟩ ⟨rfl, (Nat.le_of_ble_eq_true rfl)⟩ g.2.2.1 (by omega) rfl dX10_reads_75 ?_
        refine sm_bipush dX10_reads_78 rfl ?_
        refine sm_bipush dX10_reads_80 rfl ?_
        obtain ⟨p23, hp24, h⟩ := sl_bind h
        have hc25 := bModel_in (G := G) (E := E) (mi := (sm_gl o 10 s15 mi))   hp24
        refine sc_callS1 (avs := [.inl p20, .inl 48, .inl 57]) (st := []) lk_RX10_48 rfl sf_X10_in hc25 ⟨(Nat.le_of_ble_eq_true rfl), (Nat.le_of_ble_eq_true rfl)⟩ ⟨rfl, (Nat.le_of_ble_eq_true rfl)⟩ rfl dX10_reads_82 ?_
        refine sm_if_eq 115 dX10_reads_85 rfl (fun c31 => ?_) (fun c31 => ?_)
        · rw [if_pos c31] at h
          exact sm_less (lv' := [some (.inr o), none, some (.inl z2), some (.inl (p12 - 48))]) ⟨rfl, rfl, rfl, trivial⟩ (bModel_reads_j115 g   h)
        · rw [if_neg c31] at h
          refine sm_bipush dX10_reads_88 rfl ?_
          refine sm_iload_n dX10_reads_90 rfl ?_
          refine sm_imul dX10_reads_91 ?_
          refine sm_aload_n dX10_reads_92 rfl ?_
          refine sm_aload_n dX10_reads_93 rfl ?_
          refine sl_getI (D := 0) lf_RX10_181 fI_7_14 g.2.2.1 rfl (by omega) hN2 dX10_reads_94 ?_
          obtain ⟨p26, hp27, h⟩ := sl_bind h
          have hc28 := bModel_signAt (G := G) (E := E) (o := o) (s := s15) (mi := mi) g  hp27
          refine sc_callV1 (avs := [.inl (s15 0 14)]) (st := [.inl (10 * (p12 - 48))]) lk_RX10_184 rfl vf_X10_signAt hc28 ⟨(Nat.le_of_ble_eq_true rfl), (Nat.le_of_ble_eq_true rfl)⟩ ⟨rfl, (Nat.le_of_ble_eq_true rfl)⟩ g.2.2.1 (by omega) rfl dX10_reads_97 ?_
          refine sm_iadd dX10_reads_100 ?_
          refine sm_bipush dX10_reads_101 rfl ?_
          refine sm_isub dX10_reads_103 ?_
          refine sm_istore_n dX10_reads_104 (Nat.le_of_ble_eq_true rfl) ?_
          refine sm_aload_n dX10_reads_105 rfl ?_
          refine sm_dup dX10_reads_106 ?_
          refine sl_getI (D := 0) lf_RX10_181 fI_7_14 g.2.2.1 rfl (by omega) hN2 dX10_reads_107 ?_
          refine sm_iconst dX10_reads_110 ?_
          refine sm_iadd dX10_reads_111 ?_
          refine sl_putI (D := 0) lf_RX10_181 fP_7_14 (Or.inl rfl) g.2.2.1 rfl (by omega) ⟨hN1, hN2⟩ dX10_reads_112 ?_
          obtain ⟨s29, hs30, h⟩ := sl_bind h
          rw [Option.some.inj hs30]
          exact sm_less (lv' := [some (.inr o), none, some (.inl z2), some (.inl (((10 * (p12 - 48)) + p26) - 48))]) ⟨rfl, rfl, rfl, trivial⟩ (bModel_reads_j115 g   h)
    · rw [if_pos c33] at h
      refine sm_iconst dX10_reads_42 ?_
      cases h
      exact sm_ireturn dX10_reads_43 (Or.inr ⟨rfl, Or.inl rfl⟩)
  · rw [if_neg c34] at h
    refine sm_iconst dX10_reads_12 ?_
    cases h
    exact sm_ireturn dX10_reads_13 (Or.inr ⟨rfl, Or.inl rfl⟩)
abbrev xModel_faultOf (G : GT) : XT := (G, yX10_faultOf.cls, cX10_faultOf, 2, (some .int), decide (yX10_faultOf.name = "<init>"), 2, 45)
abbrev qModel_faultOf_l12 (G : GT) (E : ET) (o : Nat) (mi : MI)  (r : RT) (t : Int × MI) : Prop := sM (xModel_faultOf G) 12 [some (.inr o), some (.inl t.1)] [] E (sm_gl o 10 t.2 mi) r
abbrev kModel_faultOf_l12 (G : GT) (E : ET) (o : Nat) (mi : MI)  (r : RT) : (MI) ⊕ (Int × MI) → Prop := Sum.elim (fun x => sM (xModel_faultOf G) 140 [none, none] [] E (sm_gl o 10 x mi) r) (fun v => (some (.inl v.1), E, sm_gl o 10 v.2 mi) = r)
def fModel_faultOf_j65_l12  (s : MI) : Option ((Int × MI) ⊕ ((MI) ⊕ (Int × MI))) :=
  some (.inr (.inr ((s 0 14), s)))
set_option maxRecDepth 100000 in
set_option maxHeartbeats 4000000 in
theorem bModel_faultOf_j65_l12 {G : GT} {E : ET} {o : Nat} {s mi : MI}  {r : RT} {w : (Int × MI) ⊕ ((MI) ⊕ (Int × MI))} (g : gL E o)  (h : fModel_faultOf_j65_l12 s = some w) (hK : Sum.elim (qModel_faultOf_l12 G E o mi r) (kModel_faultOf_l12 G E o mi r) w) : sM (xModel_faultOf G) 65 [some (.inr o), none] [] E (sm_gl o 10 s mi) r := by
  have hN1 := g.1
  have hN2 := g.2.1
  unfold fModel_faultOf_j65_l12 at h
  refine sm_aload_n dX10_faultOf_65 rfl ?_
  refine sl_getI (D := 0) lf_RX10_181 fI_7_14 g.2.2.1 rfl (by omega) hN2 dX10_faultOf_66 ?_
  cases h
  have hK : (some (.inl ((s 0 14), s).1), E, sm_gl o 10 ((s 0 14), s).2 mi) = r := hK
  subst hK
  exact sm_ireturn dX10_faultOf_69 (Or.inl rfl)
def fModel_faultOf_j133_l12 (z1 : Int) (y1 : Int) (y2 : Int) (s : MI) : Option ((Int × MI) ⊕ ((MI) ⊕ (Int × MI))) :=
  Option.bind (some (sm_up s 0 14 (y1 + y2))) (fun s19 => some (.inl (z1, s19)))
set_option maxRecDepth 100000 in
set_option maxHeartbeats 4000000 in
theorem bModel_faultOf_j133_l12 {G : GT} {E : ET} {o : Nat} {s mi : MI} {z1 : Int} {y1 : Int} {y2 : Int} {r : RT} {w : (Int × MI) ⊕ ((MI) ⊕ (Int × MI))} (g : gL E o)  (h : fModel_faultOf_j133_l12 z1 y1 y2 s = some w) (hK : Sum.elim (qModel_faultOf_l12 G E o mi r) (kModel_faultOf_l12 G E o mi r) w) : sM (xModel_faultOf G) 133 [some (.inr o), some (.inl z1)] [.inl y2, .inl y1, .inr o] E (sm_gl o 10 s mi) r := by
  have hN1 := g.1
  have hN2 := g.2.1
  unfold fModel_faultOf_j133_l12 at h
  refine sm_iadd dX10_faultOf_133 ?_
  refine sl_putI (D := 0) lf_RX10_181 fP_7_14 (Or.inl rfl) g.2.2.1 rfl (by omega) ⟨hN1, hN2⟩ dX10_faultOf_134 ?_
  obtain ⟨s19, hs20, h⟩ := sl_bind h
  rw [Option.some.inj hs20]
  refine sm_goto 12 dX10_faultOf_137 rfl ?_
  cases h
  exact sm_less (lv' := [some (.inr o), some (.inl z1)]) ⟨rfl, rfl, trivial⟩ hK
def fModel_faultOf_j119_l12 (z1 : Int) (s : MI) : Option ((Int × MI) ⊕ ((MI) ⊕ (Int × MI))) :=
  (if sm_w z1 = 0 then fModel_faultOf_j133_l12 z1 (s 0 14) 0 s else fModel_faultOf_j133_l12 z1 (s 0 14) 1 s)
set_option maxRecDepth 100000 in
set_option maxHeartbeats 4000000 in
theorem bModel_faultOf_j119_l12 {G : GT} {E : ET} {o : Nat} {s mi : MI} {z1 : Int} {r : RT} {w : (Int × MI) ⊕ ((MI) ⊕ (Int × MI))} (g : gL E o)  (h : fModel_faultOf_j119_l12 z1 s = some w) (hK : Sum.elim (qModel_faultOf_l12 G E o mi r) (kModel_faultOf_l12 G E o mi r) w) : sM (xModel_faultOf G) 119 [some (.inr o), some (.inl z1)] [] E (sm_gl o 10 s mi) r := by
  have hN1 := g.1
  have hN2 := g.2.1
  unfold fModel_faultOf_j119_l12 at h
  refine sm_aload_n dX10_faultOf_119 rfl ?_
  refine sm_dup dX10_faultOf_120 ?_
  refine sl_getI (D := 0) lf_RX10_181 fI_7_14 g.2.2.1 rfl (by omega) hN2 dX10_faultOf_121 ?_
  refine sm_iload_n dX10_faultOf_124 rfl ?_
  refine sm_if_eq 132 dX10_faultOf_125 rfl (fun c21 => ?_) (fun c21 => ?_)
  · rw [if_pos c21] at h
    refine sm_iconst dX10_faultOf_132 ?_
    exact sm_less (lv' := [some (.inr o), some (.inl z1)]) ⟨rfl, rfl, trivial⟩ (bModel_faultOf_j133_l12 g   h hK)
  · rw [if_neg c21] at h
    refine sm_iconst dX10_faultOf_128 ?_
    refine sm_goto 133 dX10_faultOf_129 rfl ?_
    exact sm_less (lv' := [some (.inr o), some (.inl z1)]) ⟨rfl, rfl, trivial⟩ (bModel_faultOf_j133_l12 g   h hK)
def fModel_faultOf_j96_l12 (y0 : Int) (s : MI) : Option ((Int × MI) ⊕ ((MI) ⊕ (Int × MI))) :=
  (if sm_w y0 = 0 then fModel_faultOf_j119_l12 y0 s else Option.bind (fModel_signAt (s 0 14) s) (fun p22 => (if sm_w p22 = 59 then fModel_faultOf_j119_l12 y0 s else some (.inr (.inr ((s 0 14), s))))))
set_option maxRecDepth 100000 in
set_option maxHeartbeats 4000000 in
theorem bModel_faultOf_j96_l12 {G : GT} {E : ET} {o : Nat} {s mi : MI} {y0 : Int} {r : RT} {w : (Int × MI) ⊕ ((MI) ⊕ (Int × MI))} (g : gL E o)  (h : fModel_faultOf_j96_l12 y0 s = some w) (hK : Sum.elim (qModel_faultOf_l12 G E o mi r) (kModel_faultOf_l12 G E o mi r) w) : sM (xModel_faultOf G) 96 [some (.inr o), none] [.inl y0] E (sm_gl o 10 s mi) r := by
  have hN1 := g.1
  have hN2 := g.2.1
  unfold fModel_faultOf_j96_l12 at h
  refine sm_istore_n dX10_faultOf_96 (Nat.le_of_ble_eq_true rfl) ?_
  refine sm_iload_n dX10_faultOf_97 rfl ?_
  refine sm_if_eq 119 dX10_faultOf_98 rfl (fun c26 => ?_) (fun c26 => ?_)
  · rw [if_pos c26] at h
    exact sm_less (lv' := [some (.inr o), some (.inl y0)]) ⟨rfl, rfl, trivial⟩ (bModel_faultOf_j119_l12 g   h hK)
  · rw [if_neg c26] at h
    refine sm_aload_n dX10_faultOf_101 rfl ?_
    refine sm_aload_n dX10_faultOf_102 rfl ?_
    refine sl_getI (D := 0) lf_RX10_181 fI_7_14 g.2.2.1 rfl (by omega) hN2 dX10_faultOf_103 ?_
    obtain ⟨p22, hp23, h⟩ := sl_bind h
    have hc24 := bModel_signAt (G := G) (E := E) (o := o) (s := s) (mi := mi) g  hp23
    refine sc_callV1 (avs := [.inl (s 0 14)]) (st := []) lk_RX10_184 rfl vf_X10_signAt hc24 ⟨(Nat.le_of_ble_eq_true rfl), (Nat.le_of_ble_eq_true rfl)⟩ ⟨rfl, (Nat.le_of_ble_eq_true rfl)⟩ g.2.2.1 (by omega) rfl dX10_faultOf_106 ?_
    refine sm_bipush dX10_faultOf_109 rfl ?_
    refine sc_icmp_eq (X' := sm_w p22) (Y' := 59) 119 dX10_faultOf_111 rfl rfl (by decide) (fun c25 => ?_) (fun c25 => ?_)
    · rw [if_pos c25] at h
      exact sm_less (lv' := [some (.inr o), some (.inl y0)]) ⟨rfl, rfl, trivial⟩ (bModel_faultOf_j119_l12 g   h hK)
    · rw [if_neg c25] at h
      refine sm_aload_n dX10_faultOf_114 rfl ?_
      refine sl_getI (D := 0) lf_RX10_181 fI_7_14 g.2.2.1 rfl (by omega) hN2 dX10_faultOf_115 ?_
      cases h
      have hK : (some (.inl ((s 0 14), s).1), E, sm_gl o 10 ((s 0 14), s).2 mi) = r := hK
      subst hK
      exact sm_ireturn dX10_faultOf_118 (Or.inl rfl)
def fModel_faultOf_l12 (z1 : Int) (s : MI) : Option ((Int × MI) ⊕ ((MI) ⊕ (Int × MI))) :=
  (if sm_w z1 = 0 then some (.inr (.inl s)) else Option.bind (fModel_reads 109 (3 * (s 0 13)) s) (fun p8 => (if sm_w p8.1 = 0 then fModel_faultOf_j65_l12 p8.2 else Option.bind (fModel_reads 64 ((3 * (p8.2 0 13)) + 1) p8.2) (fun p11 => (if sm_w p11.1 = 0 then fModel_faultOf_j65_l12 p11.2 else Option.bind (fModel_reads 33 ((3 * (p11.2 0 13)) + 2) p11.2) (fun p14 => (if sm_w p14.1 = 0 then fModel_faultOf_j65_l12 p14.2 else Option.bind (some (sm_up p14.2 0 13 ((p14.2 0 13) + 1))) (fun s17 => (if sm_w (s17 0 7) ≤ sm_w (s17 0 14) then fModel_faultOf_j96_l12 0 s17 else fModel_faultOf_j96_l12 1 s17)))))))))
set_option maxRecDepth 100000 in
set_option maxHeartbeats 4000000 in
theorem bModel_faultOf_l12 {G : GT} {E : ET} {o : Nat} {s mi : MI} {z1 : Int} {r : RT} {w : (Int × MI) ⊕ ((MI) ⊕ (Int × MI))} (g : gL E o)  (h : fModel_faultOf_l12 z1 s = some w) (hK : Sum.elim (qModel_faultOf_l12 G E o mi r) (kModel_faultOf_l12 G E o mi r) w) : qModel_faultOf_l12 G E o mi r (z1, s) := by
  have hN1 := g.1
  have hN2 := g.2.1
  unfold fModel_faultOf_l12 at h
  show sM (xModel_faultOf G) 12 [some (.inr o), some (.inl z1)] [] E (sm_gl o 10 s mi) r
  refine sm_iload_n dX10_faultOf_12 rfl ?_
  refine sm_if_eq 140 dX10_faultOf_13 rfl (fun c31 => ?_) (fun c31 => ?_)
  · rw [if_pos c31] at h
    cases h
    exact sm_less (lv' := [none, none]) trivial hK
  · rw [if_neg c31] at h
    refine sm_aload_n dX10_faultOf_16 rfl ?_
    refine sm_bipush dX10_faultOf_17 rfl ?_
    refine sm_iconst dX10_faultOf_19 ?_
    refine sm_aload_n dX10_faultOf_20 rfl ?_
    refine sl_getI (D := 0) lf_RX10_187 fI_7_13 g.2.2.1 rfl (by omega) hN2 dX10_faultOf_21 ?_
    refine sm_imul dX10_faultOf_24 ?_
    obtain ⟨p8, hp9, h⟩ := sl_bind h
    have hc10 := bModel_reads (G := G) (E := E) (o := o) (s := s) (mi := mi) g  hp9
    refine sc_callV1 (avs := [.inl 109, .inl (3 * (s 0 13))]) (st := []) lk_RX10_190 rfl vf_X10_reads hc10 ⟨(Nat.le_of_ble_eq_true rfl), (Nat.le_of_ble_eq_true rfl)⟩ ⟨rfl, (Nat.le_of_ble_eq_true rfl)⟩ g.2.2.1 (by omega) rfl dX10_faultOf_25 ?_
    refine sm_if_eq 65 dX10_faultOf_28 rfl (fun c30 => ?_) (fun c30 => ?_)
    · rw [if_pos c30] at h
      exact sm_less (lv' := [some (.inr o), none]) ⟨rfl, trivial⟩ (bModel_faultOf_j65_l12 g   h hK)
    · rw [if_neg c30] at h
      refine sm_aload_n dX10_faultOf_31 rfl ?_
      refine sm_bipush dX10_faultOf_32 rfl ?_
      refine sm_iconst dX10_faultOf_34 ?_
      refine sm_aload_n dX10_faultOf_35 rfl ?_
      refine sl_getI (D := 0) lf_RX10_187 fI_7_13 g.2.2.1 rfl (by omega) hN2 dX10_faultOf_36 ?_
      refine sm_imul dX10_faultOf_39 ?_
      refine sm_iconst dX10_faultOf_40 ?_
      refine sm_iadd dX10_faultOf_41 ?_
      obtain ⟨p11, hp12, h⟩ := sl_bind h
      have hc13 := bModel_reads (G := G) (E := E) (o := o) (s := p8.2) (mi := mi) g  hp12
      refine sc_callV1 (avs := [.inl 64, .inl ((3 * (p8.2 0 13)) + 1)]) (st := []) lk_RX10_190 rfl vf_X10_reads hc13 ⟨(Nat.le_of_ble_eq_true rfl), (Nat.le_of_ble_eq_true rfl)⟩ ⟨rfl, (Nat.le_of_ble_eq_true rfl)⟩ g.2.2.1 (by omega) rfl dX10_faultOf_42 ?_
      refine sm_if_eq 65 dX10_faultOf_45 rfl (fun c29 => ?_) (fun c29 => ?_)
      · rw [if_pos c29] at h
        exact sm_less (lv' := [some (.inr o), none]) ⟨rfl, trivial⟩ (bModel_faultOf_j65_l12 g   h hK)
      · rw [if_neg c29] at h
        refine sm_aload_n dX10_faultOf_48 rfl ?_
        refine sm_bipush dX10_faultOf_49 rfl ?_
        refine sm_iconst dX10_faultOf_51 ?_
        refine sm_aload_n dX10_faultOf_52 rfl ?_
        refine sl_getI (D := 0) lf_RX10_187 fI_7_13 g.2.2.1 rfl (by omega) hN2 dX10_faultOf_53 ?_
        refine sm_imul dX10_faultOf_56 ?_
        refine sm_iconst dX10_faultOf_57 ?_
        refine sm_iadd dX10_faultOf_58 ?_
        obtain ⟨p14, hp15, h⟩ := sl_bind h
        have hc16 := bModel_reads (G := G) (E := E) (o := o) (s := p11.2) (mi := mi) g  hp15
        refine sc_callV1 (avs := [.inl 33, .inl ((3 * (p11.2 0 13)) + 2)]) (st := []) lk_RX10_190 rfl vf_X10_reads hc16 ⟨(Nat.le_of_ble_eq_true rfl), (Nat.le_of_ble_eq_true rfl)⟩ ⟨rfl, (Nat.le_of_ble_eq_true rfl)⟩ g.2.2.1 (by omega) rfl dX10_faultOf_59 ?_
        refine sm_if_ne 70 dX10_faultOf_62 rfl (fun c28 => ?_) (fun c28 => ?_)
        · rw [if_neg c28] at h
          refine sm_aload_n dX10_faultOf_70 rfl ?_
          refine sm_dup dX10_faultOf_71 ?_
          refine sl_getI (D := 0) lf_RX10_187 fI_7_13 g.2.2.1 rfl (by omega) hN2 dX10_faultOf_72 ?_
          refine sm_iconst dX10_faultOf_75 ?_
          refine sm_iadd dX10_faultOf_76 ?_
          refine sl_putI (D := 0) lf_RX10_187 fP_7_13 (Or.inl rfl) g.2.2.1 rfl (by omega) ⟨hN1, hN2⟩ dX10_faultOf_77 ?_
          obtain ⟨s17, hs18, h⟩ := sl_bind h
          rw [Option.some.inj hs18]
          refine sm_aload_n dX10_faultOf_80 rfl ?_
          refine sl_getI (D := 0) lf_RX10_181 fI_7_14 g.2.2.1 rfl (by omega) hN2 dX10_faultOf_81 ?_
          refine sm_aload_n dX10_faultOf_84 rfl ?_
          refine sl_getI (D := 0) lf_RX10_178 fI_7_7 g.2.2.1 rfl (by omega) hN2 dX10_faultOf_85 ?_
          refine sc_icmp_ge (X' := sm_w (s17 0 14)) (Y' := sm_w (s17 0 7)) 95 dX10_faultOf_88 rfl rfl rfl (fun c27 => ?_) (fun c27 => ?_)
          · rw [if_pos c27] at h
            refine sm_iconst dX10_faultOf_95 ?_
            exact sm_less (lv' := [some (.inr o), none]) ⟨rfl, trivial⟩ (bModel_faultOf_j96_l12 g   h hK)
          · rw [if_neg c27] at h
            refine sm_iconst dX10_faultOf_91 ?_
            refine sm_goto 96 dX10_faultOf_92 rfl ?_
            exact sm_less (lv' := [some (.inr o), none]) ⟨rfl, trivial⟩ (bModel_faultOf_j96_l12 g   h hK)
        · rw [if_pos c28] at h
          exact sm_less (lv' := [some (.inr o), none]) ⟨rfl, trivial⟩ (bModel_faultOf_j65_l12 g   h hK)
def fModel_faultOf  (s : MI) : Option (Int × MI) :=
  Option.bind (some (sm_up s 0 14 0)) (fun s1 => Option.bind (some (sm_up s1 0 13 0)) (fun s3 => Option.bind (sl_it (fun (t : Int × MI) => fModel_faultOf_l12 t.1 t.2) sl_fu (1, s3)) (fun y32 => Sum.elim (fun x34 => some ((-5), x34)) (fun v35 => some v35) y32)))
set_option maxRecDepth 100000 in
set_option maxHeartbeats 4000000 in
theorem bModel_faultOf {G : GT} {E : ET} {o : Nat} {s mi : MI}  {w : Int × MI} (g : gL E o)  (h : fModel_faultOf s = some w) : cN G yX10_faultOf cX10_faultOf 2 (some .int) 2 45 [.inr o] E (sm_gl o 10 s mi) (some (.inl w.1), E, sm_gl o 10 w.2 mi) := by
  have hN1 := g.1
  have hN2 := g.2.1
  unfold fModel_faultOf at h
  refine sm_meth (by decide +kernel) (Nat.le_of_ble_eq_true rfl) ?_
  show sM (xModel_faultOf G) 0 [some (.inr o), none] [] E (sm_gl o 10 s mi) _
  refine sm_aload_n dX10_faultOf_0 rfl ?_
  refine sm_iconst dX10_faultOf_1 ?_
  refine sl_putI (D := 0) lf_RX10_181 fP_7_14 (Or.inl rfl) g.2.2.1 rfl (by omega) ⟨hN1, hN2⟩ dX10_faultOf_2 ?_
  obtain ⟨s1, hs2, h⟩ := sl_bind h
  rw [Option.some.inj hs2]
  refine sm_aload_n dX10_faultOf_5 rfl ?_
  refine sm_iconst dX10_faultOf_6 ?_
  refine sl_putI (D := 0) lf_RX10_187 fP_7_13 (Or.inl rfl) g.2.2.1 rfl (by omega) ⟨hN1, hN2⟩ dX10_faultOf_7 ?_
  obtain ⟨s3, hs4, h⟩ := sl_bind h
  rw [Option.some.inj hs4]
  refine sm_iconst dX10_faultOf_10 ?_
  refine sm_istore_n dX10_faultOf_11 (Nat.le_of_ble_eq_true rfl) ?_
  obtain ⟨y32, hy33, h⟩ := sl_bind h
  refine sm_less (lv' := [some (.inr o), some (.inl 1)]) ⟨rfl, rfl, trivial⟩ (sl_itE (P := qModel_faultOf_l12 G E o mi _) (K := kModel_faultOf_l12 G E o mi _) (fun t q hq hk => bModel_faultOf_l12 g  hq hk) sl_fu _ y32 hy33 ?_)
  rcases y32 with x34 | v35
  · show sM (xModel_faultOf G) 140 [none, none] [] E (sm_gl o 10 x34 mi) _
    dsimp only [Sum.elim_inl] at h
    refine sm_bipush dX10_faultOf_140 rfl ?_
    cases h
    exact sm_ireturn dX10_faultOf_142 (Or.inl rfl)
  · dsimp only [Sum.elim_inr] at h
    cases h
    exact rfl
abbrev xModel_readCalls (G : GT) : XT := (G, yX10_readCalls.cls, cX10_readCalls, 4, (some .int), decide (yX10_readCalls.name = "<init>"), 3, 67)
abbrev qModel_readCalls_l31 (G : GT) (E : ET) (o : Nat) (mi : MI)  (r : RT) (t : Int × MI) : Prop := sM (xModel_readCalls G) 31 [some (.inr o), none, some (.inl t.1), none] [] E (sm_gl o 10 t.2 mi) r
abbrev kModel_readCalls_l31 (G : GT) (E : ET) (o : Nat) (mi : MI)  (r : RT) : (MI) ⊕ (Int × MI) → Prop := Sum.elim (fun x => sM (xModel_readCalls G) 129 [some (.inr o), none, none, none] [] E (sm_gl o 10 x mi) r) (fun v => (some (.inl v.1), E, sm_gl o 10 v.2 mi) = r)
def fModel_readCalls_l31 (z2 : Int) (s : MI) : Option ((Int × MI) ⊕ ((MI) ⊕ (Int × MI))) :=
  (if sm_w (s 0 13) ≤ sm_w z2 then some (.inr (.inl s)) else if 0 ≤ sm_w (3 * z2) ∧ sm_w (3 * z2) < 60 then if 0 ≤ sm_w ((3 * z2) + 1) ∧ sm_w ((3 * z2) + 1) < 60 then if 0 ≤ sm_w ((3 * z2) + 2) ∧ sm_w ((3 * z2) + 2) < 60 then Option.bind (fModel_against (s 9 (sm_w (3 * z2)).toNat) (s 9 (sm_w ((3 * z2) + 1)).toNat) (s 9 (sm_w ((3 * z2) + 2)).toNat) s) (fun p22 => (if sm_w p22 = 0 then Option.bind (fModel_comes (s 9 (sm_w (3 * z2)).toNat) (s 9 (sm_w ((3 * z2) + 1)).toNat) (s 9 (sm_w ((3 * z2) + 2)).toNat) s) (fun p25 => some (.inl ((z2 + 1), p25))) else Option.bind (fModel_copies 4 810 0 1 810 0 s) (fun p28 => some (.inr (.inr (p22, p28)))))) else none else none else none)
set_option maxRecDepth 100000 in
set_option maxHeartbeats 4000000 in
theorem bModel_readCalls_l31 {G : GT} {E : ET} {o : Nat} {s mi : MI} {z2 : Int} {r : RT} {w : (Int × MI) ⊕ ((MI) ⊕ (Int × MI))} (g : gL E o)  (h : fModel_readCalls_l31 z2 s = some w) (hK : Sum.elim (qModel_readCalls_l31 G E o mi r) (kModel_readCalls_l31 G E o mi r) w) : qModel_readCalls_l31 G E o mi r (z2, s) := by
  have hN1 := g.1
  have hN2 := g.2.1
  unfold fModel_readCalls_l31 at h
  show sM (xModel_readCalls G) 31 [some (.inr o), none, some (.inl z2), none] [] E (sm_gl o 10 s mi) r
  refine sm_iload_n dX10_readCalls_31 rfl ?_
  refine sm_aload_n dX10_readCalls_32 rfl ?_
  refine sl_getI (D := 0) lf_RX10_187 fI_7_13 g.2.2.1 rfl (by omega) hN2 dX10_readCalls_33 ?_
  refine sc_icmp_ge (X' := sm_w z2) (Y' := sm_w (s 0 13)) 129 dX10_readCalls_36 rfl rfl rfl (fun c32 => ?_) (fun c32 => ?_)
  · rw [if_pos c32] at h
    cases h
    exact sm_less (lv' := [some (.inr o), none, none, none]) ⟨rfl, trivial⟩ hK
  · rw [if_neg c32] at h
    refine sm_aload_n dX10_readCalls_39 rfl ?_
    refine sm_aload_n dX10_readCalls_40 rfl ?_
    refine sm_getR lf_RX10_34 fR_7_12 g.2.2.1 (by omega) g.2.2.2.2.2.2.2.2.2.2.2.2 dX10_readCalls_41 ?_
    refine sm_iconst dX10_readCalls_44 ?_
    refine sm_iload_n dX10_readCalls_45 rfl ?_
    refine sm_imul dX10_readCalls_46 ?_
    obtain ⟨q19, h⟩ := sl_guard h
    have xq19 := (sl_ix (m := 60) q19).2
    refine sl_ialdk (D := 9) (k := (sm_w (3 * z2)).toNat) g.2.2.2.2.2.2.2.2.2.2.2.1 rfl (by omega) hN2 (sl_ix (m := 60) q19) dX10_readCalls_47 ?_
    refine sm_aload_n dX10_readCalls_48 rfl ?_
    refine sm_getR lf_RX10_34 fR_7_12 g.2.2.1 (by omega) g.2.2.2.2.2.2.2.2.2.2.2.2 dX10_readCalls_49 ?_
    refine sm_iconst dX10_readCalls_52 ?_
    refine sm_iload_n dX10_readCalls_53 rfl ?_
    refine sm_imul dX10_readCalls_54 ?_
    refine sm_iconst dX10_readCalls_55 ?_
    refine sm_iadd dX10_readCalls_56 ?_
    obtain ⟨q20, h⟩ := sl_guard h
    have xq20 := (sl_ix (m := 60) q20).2
    refine sl_ialdk (D := 9) (k := (sm_w ((3 * z2) + 1)).toNat) g.2.2.2.2.2.2.2.2.2.2.2.1 rfl (by omega) hN2 (sl_ix (m := 60) q20) dX10_readCalls_57 ?_
    refine sm_aload_n dX10_readCalls_58 rfl ?_
    refine sm_getR lf_RX10_34 fR_7_12 g.2.2.1 (by omega) g.2.2.2.2.2.2.2.2.2.2.2.2 dX10_readCalls_59 ?_
    refine sm_iconst dX10_readCalls_62 ?_
    refine sm_iload_n dX10_readCalls_63 rfl ?_
    refine sm_imul dX10_readCalls_64 ?_
    refine sm_iconst dX10_readCalls_65 ?_
    refine sm_iadd dX10_readCalls_66 ?_
    obtain ⟨q21, h⟩ := sl_guard h
    have xq21 := (sl_ix (m := 60) q21).2
    refine sl_ialdk (D := 9) (k := (sm_w ((3 * z2) + 2)).toNat) g.2.2.2.2.2.2.2.2.2.2.2.1 rfl (by omega) hN2 (sl_ix (m := 60) q21) dX10_readCalls_67 ?_
    obtain ⟨p22, hp23, h⟩ := sl_bind h
    have hc24 := bModel_against (G := G) (E := E) (o := o) (s := s) (mi := mi) g  hp23
    refine sc_callV1 (avs := [.inl (s 9 (sm_w (3 * z2)).toNat), .inl (s 9 (sm_w ((3 * z2) + 1)).toNat), .inl (s 9 (sm_w ((3 * z2) + 2)).toNat)]) (st := []) lk_RX10_94 rfl vf_X10_against hc24 ⟨(Nat.le_of_ble_eq_true rfl), (Nat.le_of_ble_eq_true rfl)⟩ ⟨rfl, (Nat.le_of_ble_eq_true rfl)⟩ g.2.2.1 (by omega) rfl dX10_readCalls_68 ?_
    refine sm_istore_n dX10_readCalls_71 (Nat.le_of_ble_eq_true rfl) ?_
    refine sm_iload_n dX10_readCalls_72 rfl ?_
    refine sm_if_eq 91 dX10_readCalls_73 rfl (fun c31 => ?_) (fun c31 => ?_)
    · rw [if_pos c31] at h
      refine sm_aload_n dX10_readCalls_91 rfl ?_
      refine sm_aload_n dX10_readCalls_92 rfl ?_
      refine sm_getR lf_RX10_34 fR_7_12 g.2.2.1 (by omega) g.2.2.2.2.2.2.2.2.2.2.2.2 dX10_readCalls_93 ?_
      refine sm_iconst dX10_readCalls_96 ?_
      refine sm_iload_n dX10_readCalls_97 rfl ?_
      refine sm_imul dX10_readCalls_98 ?_
      refine sl_ialdk (D := 9) (k := (sm_w (3 * z2)).toNat) g.2.2.2.2.2.2.2.2.2.2.2.1 rfl (by omega) hN2 (sl_ix (m := 60) q19) dX10_readCalls_99 ?_
      refine sm_aload_n dX10_readCalls_100 rfl ?_
      refine sm_getR lf_RX10_34 fR_7_12 g.2.2.1 (by omega) g.2.2.2.2.2.2.2.2.2.2.2.2 dX10_readCalls_101 ?_
      refine sm_iconst dX10_readCalls_104 ?_
      refine sm_iload_n dX10_readCalls_105 rfl ?_
      refine sm_imul dX10_readCalls_106 ?_
      refine sm_iconst dX10_readCalls_107 ?_
      refine sm_iadd dX10_readCalls_108 ?_
      refine sl_ialdk (D := 9) (k := (sm_w ((3 * z2) + 1)).toNat) g.2.2.2.2.2.2.2.2.2.2.2.1 rfl (by omega) hN2 (sl_ix (m := 60) q20) dX10_readCalls_109 ?_
      refine sm_aload_n dX10_readCalls_110 rfl ?_
      refine sm_getR lf_RX10_34 fR_7_12 g.2.2.1 (by omega) g.2.2.2.2.2.2.2.2.2.2.2.2 dX10_readCalls_111 ?_
      refine sm_iconst dX10_readCalls_114 ?_
      refine sm_iload_n dX10_readCalls_115 rfl ?_
      refine sm_imul dX10_readCalls_116 ?_
      refine sm_iconst dX10_readCalls_117 ?_
      refine sm_iadd dX10_readCalls_118 ?_
      refine sl_ialdk (D := 9) (k := (sm_w ((3 * z2) + 2)).toNat) g.2.2.2.2.2.2.2.2.2.2.2.1 rfl (by omega) hN2 (sl_ix (m := 60) q21) dX10_readCalls_119 ?_
      obtain ⟨p25, hp26, h⟩ := sl_bind h
      have hc27 := bModel_comes (G := G) (E := E) (o := o) (s := s) (mi := mi) g  hp26
      refine sc_callV0 (avs := [.inl (s 9 (sm_w (3 * z2)).toNat), .inl (s 9 (sm_w ((3 * z2) + 1)).toNat), .inl (s 9 (sm_w ((3 * z2) + 2)).toNat)]) (st := []) lk_RX10_98 rfl vf_X10_comes hc27 ⟨(Nat.le_of_ble_eq_true rfl), (Nat.le_of_ble_eq_true rfl)⟩ ⟨rfl, (Nat.le_of_ble_eq_true rfl)⟩ g.2.2.1 (by omega) rfl dX10_readCalls_120 ?_
      refine sm_iinc dX10_readCalls_123 (Nat.le_of_ble_eq_true rfl) rfl ?_
      refine sm_goto 31 dX10_readCalls_126 rfl ?_
      cases h
      exact sm_less (lv' := [some (.inr o), none, some (.inl (z2 + 1)), none]) ⟨rfl, rfl, trivial⟩ hK
    · rw [if_neg c31] at h
      refine sm_aload_n dX10_readCalls_76 rfl ?_
      refine sm_getR lf_RX10_19 fR_7_5 g.2.2.1 (by omega) g.2.2.2.2.2.2.1.2 dX10_readCalls_77 ?_
      refine sm_iconst dX10_readCalls_80 ?_
      refine sm_aload_n dX10_readCalls_81 rfl ?_
      refine sm_getR lf_RX10_7 fR_7_0 g.2.2.1 (by omega) g.2.2.2.1.2 dX10_readCalls_82 ?_
      refine sm_iconst dX10_readCalls_85 ?_
      obtain ⟨p28, hp29, h⟩ := sl_bind h
      have hc30 := bModel_copies (G := G) (E := E) (o := o) (s := s) (mi := mi) (by omega) (by omega) g.2.2.2.2.2.2.1.1 (by omega) g.2.2.2.1.1 (by omega) hp29
      refine sc_callS0 (avs := [.inr (o + 4), .inl 0, .inr (o + 1), .inl 0]) (st := []) lk_RX10_44 rfl sf_X10_copies hc30 ⟨(Nat.le_of_ble_eq_true rfl), (Nat.le_of_ble_eq_true rfl)⟩ ⟨rfl, (Nat.le_of_ble_eq_true rfl)⟩ rfl dX10_readCalls_86 ?_
      refine sm_iload_n dX10_readCalls_89 rfl ?_
      cases h
      have hK : (some (.inl (p22, p28).1), E, sm_gl o 10 (p22, p28).2 mi) = r := hK
      subst hK
      exact sm_ireturn dX10_readCalls_90 (Or.inl rfl)
abbrev qModel_readCalls_l148 (G : GT) (E : ET) (o : Nat) (mi : MI)  (r : RT) (t : Int × MI) : Prop := sM (xModel_readCalls G) 148 [some (.inr o), none, some (.inl t.1), none] [] E (sm_gl o 10 t.2 mi) r
abbrev kModel_readCalls_l148 (G : GT) (E : ET) (o : Nat) (mi : MI)  (r : RT) (x : MI) : Prop := sM (xModel_readCalls G) 194 [some (.inr o), none, none, none] [] E (sm_gl o 10 x mi) r
def fModel_readCalls_l148 (z2 : Int) (s : MI) : Option ((Int × MI) ⊕ (MI)) :=
  (if sm_w (s 0 13) ≤ sm_w z2 then some (.inr s) else if 0 ≤ sm_w (3 * z2) ∧ sm_w (3 * z2) < 60 then if 0 ≤ sm_w ((3 * z2) + 1) ∧ sm_w ((3 * z2) + 1) < 60 then if 0 ≤ sm_w ((3 * z2) + 2) ∧ sm_w ((3 * z2) + 2) < 60 then Option.bind (fModel_comes (s 9 (sm_w (3 * z2)).toNat) (s 9 (sm_w ((3 * z2) + 1)).toNat) (s 9 (sm_w ((3 * z2) + 2)).toNat) s) (fun p45 => some (.inl ((z2 + 1), p45))) else none else none else none)
set_option maxRecDepth 100000 in
set_option maxHeartbeats 4000000 in
theorem bModel_readCalls_l148 {G : GT} {E : ET} {o : Nat} {s mi : MI} {z2 : Int} {r : RT} {w : (Int × MI) ⊕ (MI)} (g : gL E o)  (h : fModel_readCalls_l148 z2 s = some w) (hK : Sum.elim (qModel_readCalls_l148 G E o mi r) (kModel_readCalls_l148 G E o mi r) w) : qModel_readCalls_l148 G E o mi r (z2, s) := by
  have hN1 := g.1
  have hN2 := g.2.1
  unfold fModel_readCalls_l148 at h
  show sM (xModel_readCalls G) 148 [some (.inr o), none, some (.inl z2), none] [] E (sm_gl o 10 s mi) r
  refine sm_iload_n dX10_readCalls_148 rfl ?_
  refine sm_aload_n dX10_readCalls_149 rfl ?_
  refine sl_getI (D := 0) lf_RX10_187 fI_7_13 g.2.2.1 rfl (by omega) hN2 dX10_readCalls_150 ?_
  refine sc_icmp_ge (X' := sm_w z2) (Y' := sm_w (s 0 13)) 194 dX10_readCalls_153 rfl rfl rfl (fun c48 => ?_) (fun c48 => ?_)
  · rw [if_pos c48] at h
    cases h
    exact sm_less (lv' := [some (.inr o), none, none, none]) ⟨rfl, trivial⟩ hK
  · rw [if_neg c48] at h
    refine sm_aload_n dX10_readCalls_156 rfl ?_
    refine sm_aload_n dX10_readCalls_157 rfl ?_
    refine sm_getR lf_RX10_34 fR_7_12 g.2.2.1 (by omega) g.2.2.2.2.2.2.2.2.2.2.2.2 dX10_readCalls_158 ?_
    refine sm_iconst dX10_readCalls_161 ?_
    refine sm_iload_n dX10_readCalls_162 rfl ?_
    refine sm_imul dX10_readCalls_163 ?_
    obtain ⟨q42, h⟩ := sl_guard h
    have xq42 := (sl_ix (m := 60) q42).2
    refine sl_ialdk (D := 9) (k := (sm_w (3 * z2)).toNat) g.2.2.2.2.2.2.2.2.2.2.2.1 rfl (by omega) hN2 (sl_ix (m := 60) q42) dX10_readCalls_164 ?_
    refine sm_aload_n dX10_readCalls_165 rfl ?_
    refine sm_getR lf_RX10_34 fR_7_12 g.2.2.1 (by omega) g.2.2.2.2.2.2.2.2.2.2.2.2 dX10_readCalls_166 ?_
    refine sm_iconst dX10_readCalls_169 ?_
    refine sm_iload_n dX10_readCalls_170 rfl ?_
    refine sm_imul dX10_readCalls_171 ?_
    refine sm_iconst dX10_readCalls_172 ?_
    refine sm_iadd dX10_readCalls_173 ?_
    obtain ⟨q43, h⟩ := sl_guard h
    have xq43 := (sl_ix (m := 60) q43).2
    refine sl_ialdk (D := 9) (k := (sm_w ((3 * z2) + 1)).toNat) g.2.2.2.2.2.2.2.2.2.2.2.1 rfl (by omega) hN2 (sl_ix (m := 60) q43) dX10_readCalls_174 ?_
    refine sm_aload_n dX10_readCalls_175 rfl ?_
    refine sm_getR lf_RX10_34 fR_7_12 g.2.2.1 (by omega) g.2.2.2.2.2.2.2.2.2.2.2.2 dX10_readCalls_176 ?_
    refine sm_iconst dX10_readCalls_179 ?_
    refine sm_iload_n dX10_readCalls_180 rfl ?_
    refine sm_imul dX10_readCalls_181 ?_
    refine sm_iconst dX10_readCalls_182 ?_
    refine sm_iadd dX10_readCalls_183 ?_
    obtain ⟨q44, h⟩ := sl_guard h
    have xq44 := (sl_ix (m := 60) q44).2
    refine sl_ialdk (D := 9) (k := (sm_w ((3 * z2) + 2)).toNat) g.2.2.2.2.2.2.2.2.2.2.2.1 rfl (by omega) hN2 (sl_ix (m := 60) q44) dX10_readCalls_184 ?_
    obtain ⟨p45, hp46, h⟩ := sl_bind h
    have hc47 := bModel_comes (G := G) (E := E) (o := o) (s := s) (mi := mi) g  hp46
    refine sc_callV0 (avs := [.inl (s 9 (sm_w (3 * z2)).toNat), .inl (s 9 (sm_w ((3 * z2) + 1)).toNat), .inl (s 9 (sm_w ((3 * z2) + 2)).toNat)]) (st := []) lk_RX10_98 rfl vf_X10_comes hc47 ⟨(Nat.le_of_ble_eq_true rfl), (Nat.le_of_ble_eq_true rfl)⟩ ⟨rfl, (Nat.le_of_ble_eq_true rfl)⟩ g.2.2.1 (by omega) rfl dX10_readCalls_185 ?_
    refine sm_iinc dX10_readCalls_188 (Nat.le_of_ble_eq_true rfl) rfl ?_
    refine sm_goto 148 dX10_readCalls_191 rfl ?_
    cases h
    exact sm_less (lv' := [some (.inr o), none, some (.inl (z2 + 1)), none]) ⟨rfl, rfl, trivial⟩ hK
def fModel_readCalls  (s : MI) : Option (Int × MI) :=
  Option.bind (fModel_faultOf s) (fun p1 => (if sm_w p1.1 = (-5) then Option.bind (fModel_copies 1 810 0 4 810 0 p1.2) (fun p4 => Option.bind (sl_it (fun (t : Int × MI) => fModel_readCalls_l31 t.1 t.2) sl_fu (0, p4)) (fun y33 => Sum.elim (fun x35 => Option.bind (fModel_copies 4 810 0 1 810 0 x35) (fun p36 => Option.bind (fModel_records p36) (fun p39 => Option.bind (sl_it (fun (t : Int × MI) => fModel_readCalls_l148 t.1 t.2) sl_fu (0, p39)) (fun x51 => some ((x51 0 13), x51))))) (fun v52 => some v52) y33)) else some (((-100) - p1.1), p1.2)))
set_option maxRecDepth 100000 in
set_option maxHeartbeats 4000000 in
theorem bModel_readCalls {G : GT} {E : ET} {o : Nat} {s mi : MI}  {w : Int × MI} (g : gL E o)  (h : fModel_readCalls s = some w) : cN G yX10_readCalls cX10_readCalls 4 (some .int) 3 67 [.inr o] E (sm_gl o 10 s mi) (some (.inl w.1), E, sm_gl o 10 w.2 mi) := by
  have hN1 := g.1
  have hN2 := g.2.1
  unfold fModel_readCalls at h
  refine sm_meth (by decide +kernel) (Nat.le_of_ble_eq_true rfl) ?_
  show sM (xModel_readCalls G) 0 [some (.inr o), none, none, none] [] E (sm_gl o 10 s mi) _
  refine sm_aload_n dX10_readCalls_0 rfl ?_
  obtain ⟨p1, hp2, h⟩ := sl_bind h
  have hc3 := bModel_faultOf (G := G) (E := E) (o := o) (s := s) (mi := mi) g  hp2
  refine sc_callV1 (avs := []) (st := []) lk_RX10_193 rfl vf_X10_faultOf hc3 ⟨(Nat.le_of_ble_eq_true rfl), (Nat.le_of_ble_eq_true rfl)⟩ ⟨rfl, (Nat.le_of_ble_eq_true rfl)⟩ g.2.2.1 (by omega) rfl dX10_readCalls_1 ?_
  refine sm_istore_n dX10_readCalls_4 (Nat.le_of_ble_eq_true rfl) ?_
  refine sm_iload_n dX10_readCalls_5 rfl ?_
  refine sm_bipush dX10_readCalls_6 rfl ?_
  refine sc_icmp_eq (X' := sm_w p1.1) (Y' := (-5)) 16 dX10_readCalls_8 rfl rfl (by decide) (fun c53 => ?_) (fun c53 => ?_)
  · rw [if_pos c53] at h
    refine sm_aload_n dX10_readCalls_16 rfl ?_
    refine sm_getR lf_RX10_7 fR_7_0 g.2.2.1 (by omega) g.2.2.2.1.2 dX10_readCalls_17 ?_
    refine sm_iconst dX10_readCalls_20 ?_
    refine sm_aload_n dX10_readCalls_21 rfl ?_
    refine sm_getR lf_RX10_19 fR_7_5 g.2.2.1 (by omega) g.2.2.2.2.2.2.1.2 dX10_readCalls_22 ?_
    refine sm_iconst dX10_readCalls_25 ?_
    obtain ⟨p4, hp5, h⟩ := sl_bind h
    have hc6 := bModel_copies (G := G) (E := E) (o := o) (s := p1.2) (mi := mi) (by omega) (by omega) g.2.2.2.1.1 (by omega) g.2.2.2.2.2.2.1.1 (by omega) hp5
    refine sc_callS0 (avs := [.inr (o + 1), .inl 0, .inr (o + 4), .inl 0]) (st := []) lk_RX10_44 rfl sf_X10_copies hc6 ⟨(Nat.le_of_ble_eq_true rfl), (Nat.le_of_ble_eq_true rfl)⟩ ⟨rfl, (Nat.le_of_ble_eq_true rfl)⟩ rfl dX10_readCalls_26 ?_
    refine sm_iconst dX10_readCalls_29 ?_
    refine sm_istore_n dX10_readCalls_30 (Nat.le_of_ble_eq_true rfl) ?_
    obtain ⟨y33, hy34, h⟩ := sl_bind h
    refine sm_less (lv' := [some (.inr o), none, some (.inl 0), none]) ⟨rfl, rfl, trivial⟩ (sl_itE (P := qModel_readCalls_l31 G E o mi _) (K := kModel_readCalls_l31 G E o mi _) (fun t q hq hk => bModel_readCalls_l31 g  hq hk) sl_fu _ y33 hy34 ?_)
    rcases y33 with x35 | v52
    · show sM (xModel_readCalls G) 129 [some (.inr o), none, none, none] [] E (sm_gl o 10 x35 mi) _
      dsimp only [Sum.elim_inl] at h
      refine sm_aload_n dX10_readCalls_129 rfl ?_
      refine sm_getR lf_RX10_19 fR_7_5 g.2.2.1 (by omega) g.2.2.2.2.2.2.1.2 dX10_readCalls_130 ?_
      refine sm_iconst dX10_readCalls_133 ?_
      refine sm_aload_n dX10_readCalls_134 rfl ?_
      refine sm_getR lf_RX10_7 fR_7_0 g.2.2.1 (by omega) g.2.2.2.1.2 dX10_readCalls_135 ?_
      refine sm_iconst dX10_readCalls_138 ?_
      obtain ⟨p36, hp37, h⟩ := sl_bind h
      have hc38 := bModel_copies (G := G) (E := E) (o := o) (s := x35) (mi := mi) (by omega) (by omega) g.2.2.2.2.2.2.1.1 (by omega) g.2.2.2.1.1 (by omega) hp37
      refine sc_callS0 (avs := [.inr (o + 4), .inl 0, .inr (o + 1), .inl 0]) (st := []) lk_RX10_44 rfl sf_X10_copies hc38 ⟨(Nat.le_of_ble_eq_true rfl), (Nat.le_of_ble_eq_true rfl)⟩ ⟨rfl, (Nat.le_of_ble_eq_true rfl)⟩ rfl dX10_readCalls_139 ?_
      refine sm_aload_n dX10_readCalls_142 rfl ?_
      obtain ⟨p39, hp40, h⟩ := sl_bind h
      have hc41 := bModel_records (G := G) (E := E) (o := o) (s := p36) (mi := mi) g  hp40
      refine sc_callV0 (avs := []) (st := []) lk_RX10_61 rfl vf_X10_records hc41 ⟨(Nat.le_of_ble_eq_true rfl), (Nat.le_of_ble_eq_true rfl)⟩ ⟨rfl, (Nat.le_of_ble_eq_true rfl)⟩ g.2.2.1 (by omega) rfl dX10_readCalls_143 ?_
      refine sm_iconst dX10_readCalls_146 ?_
      refine sm_istore_n dX10_readCalls_147 (Nat.le_of_ble_eq_true rfl) ?_
      obtain ⟨x51, hy50, h⟩ := sl_bind h
      refine sm_less (lv' := [some (.inr o), none, some (.inl 0), none]) ⟨rfl, rfl, trivial⟩ (sl_itE (P := qModel_readCalls_l148 G E o mi _) (K := kModel_readCalls_l148 G E o mi _) (fun t q hq hk => bModel_readCalls_l148 g  hq hk) sl_fu _ x51 hy50 ?_)
      show sM (xModel_readCalls G) 194 [some (.inr o), none, none, none] [] E (sm_gl o 10 x51 mi) _
      refine sm_aload_n dX10_readCalls_194 rfl ?_
      refine sl_getI (D := 0) lf_RX10_187 fI_7_13 g.2.2.1 rfl (by omega) hN2 dX10_readCalls_195 ?_
      cases h
      exact sm_ireturn dX10_readCalls_198 (Or.inl rfl)
    · dsimp only [Sum.elim_inr] at h
      cases h
      exact rfl
  · rw [if_neg c53] at h
    refine sm_bipush dX10_readCalls_11 rfl ?_
    refine sm_iload_n dX10_readCalls_13 rfl ?_
    refine sm_isub dX10_readCalls_14 ?_
    cases h
    exact sm_ireturn dX10_readCalls_15 (Or.inl rfl)
abbrev xModel_undo (G : GT) : XT := (G, yX10_undo.cls, cX10_undo, 1, (some .int), decide (yX10_undo.name = "<init>"), 1, 24)
def fModel_undo  (s : MI) : Option (Int × MI) :=
  (if sm_w (s 0 2) = 0 then some ((-5), s) else Option.bind (some (sm_up s 0 2 ((s 0 2) - 1))) (fun s1 => Option.bind (fModel_copies 2 3240 ((s1 0 2) * 810) 1 810 0 s1) (fun p3 => Option.bind (fModel_laysWays p3) (fun p6 => some ((p6 0 2), p6)))))
set_option maxRecDepth 100000 in
set_option maxHeartbeats 4000000 in
theorem bModel_undo {G : GT} {E : ET} {o : Nat} {s mi : MI}  {w : Int × MI} (g : gL E o)  (h : fModel_undo s = some w) : cN G yX10_undo cX10_undo 1 (some .int) 1 24 [.inr o] E (sm_gl o 10 s mi) (some (.inl w.1), E, sm_gl o 10 w.2 mi) := by
  have hN1 := g.1
  have hN2 := g.2.1
  unfold fModel_undo at h
  refine sm_meth (by decide +kernel) (Nat.le_of_ble_eq_true rfl) ?_
  show sM (xModel_undo G) 0 [some (.inr o)] [] E (sm_gl o 10 s mi) _
  refine sm_aload_n dX10_undo_0 rfl ?_
  refine sl_getI (D := 0) lf_RX10_40 fI_7_2 g.2.2.1 rfl (by omega) hN2 dX10_undo_1 ?_
  refine sm_if_ne 10 dX10_undo_4 rfl (fun c9 => ?_) (fun c9 => ?_)
  · rw [if_neg c9] at h
    refine sm_aload_n dX10_undo_10 rfl ?_
    refine sm_dup dX10_undo_11 ?_
    refine sl_getI (D := 0) lf_RX10_40 fI_7_2 g.2.2.1 rfl (by omega) hN2 dX10_undo_12 ?_
    refine sm_iconst dX10_undo_15 ?_
    refine sm_isub dX10_undo_16 ?_
    refine sl_putI (D := 0) lf_RX10_40 fP_7_2 (Or.inl rfl) g.2.2.1 rfl (by omega) ⟨hN1, hN2⟩ dX10_undo_17 ?_
    obtain ⟨s1, hs2, h⟩ := sl_bind h
    rw [Option.some.inj hs2]
    refine sm_aload_n dX10_undo_20 rfl ?_
    refine sm_getR lf_RX10_13 fR_7_1 g.2.2.1 (by omega) g.2.2.2.2.1.2 dX10_undo_21 ?_
    refine sm_aload_n dX10_undo_24 rfl ?_
    refine sl_getI (D := 0) lf_RX10_40 fI_7_2 g.2.2.1 rfl (by omega) hN2 dX10_undo_25 ?_
    refine sm_sipush dX10_undo_28 rfl ?_
    refine sm_imul dX10_undo_31 ?_
    refine sm_aload_n dX10_undo_32 rfl ?_
    refine sm_getR lf_RX10_7 fR_7_0 g.2.2.1 (by omega) g.2.2.2.1.2 dX10_undo_33 ?_
    refine sm_iconst dX10_undo_36 ?_
    obtain ⟨p3, hp4, h⟩ := sl_bind h
    have hc5 := bModel_copies (G := G) (E := E) (o := o) (s := s1) (mi := mi) (by omega) (by omega) g.2.2.2.2.1.1 (by omega) g.2.2.2.1.1 (by omega) hp4
    refine sc_callS0 (avs := [.inr (o + 2), .inl ((s1 0 2) * 810), .inr (o + 1), .inl 0]) (st := []) lk_RX10_44 rfl sf_X10_copies hc5 ⟨(Nat.le_of_ble_eq_true rfl), (Nat.le_of_ble_eq_true rfl)⟩ ⟨rfl, (Nat.le_of_ble_eq_true rfl)⟩ rfl dX10_undo_37 ?_
    refine sm_aload_n dX10_undo_40 rfl ?_
    obtain ⟨p6, hp7, h⟩ := sl_bind h
    have hc8 := bModel_laysWays (G := G) (E := E) (o := o) (s := p3) (mi := mi) g  hp7
    refine sc_callV0 (avs := []) (st := []) lk_RX10_37 rfl vf_X10_laysWays hc8 ⟨(Nat.le_of_ble_eq_true rfl), (Nat.le_of_ble_eq_true rfl)⟩ ⟨rfl, (Nat.le_of_ble_eq_true rfl)⟩ g.2.2.1 (by omega) rfl dX10_undo_41 ?_
    refine sm_aload_n dX10_undo_44 rfl ?_
    refine sl_getI (D := 0) lf_RX10_40 fI_7_2 g.2.2.1 rfl (by omega) hN2 dX10_undo_45 ?_
    cases h
    exact sm_ireturn dX10_undo_48 (Or.inl rfl)
  · rw [if_pos c9] at h
    refine sm_bipush dX10_undo_7 rfl ?_
    cases h
    exact sm_ireturn dX10_undo_9 (Or.inl rfl)
abbrev xModel_keep (G : GT) : XT := (G, yX10_keep.cls, cX10_keep, 1, (some .int), decide (yX10_keep.name = "<init>"), 1, 24)
def fModel_keep  (s : MI) : Option (Int × MI) :=
  Option.bind (fModel_copies 1 810 0 3 810 0 s) (fun p1 => Option.bind (some (sm_up p1 0 4 1)) (fun s4 => some ((s4 1 0), s4)))
set_option maxRecDepth 100000 in
set_option maxHeartbeats 4000000 in
theorem bModel_keep {G : GT} {E : ET} {o : Nat} {s mi : MI}  {w : Int × MI} (g : gL E o)  (h : fModel_keep s = some w) : cN G yX10_keep cX10_keep 1 (some .int) 1 24 [.inr o] E (sm_gl o 10 s mi) (some (.inl w.1), E, sm_gl o 10 w.2 mi) := by
  have hN1 := g.1
  have hN2 := g.2.1
  unfold fModel_keep at h
  refine sm_meth (by decide +kernel) (Nat.le_of_ble_eq_true rfl) ?_
  show sM (xModel_keep G) 0 [some (.inr o)] [] E (sm_gl o 10 s mi) _
  refine sm_aload_n dX10_keep_0 rfl ?_
  refine sm_getR lf_RX10_7 fR_7_0 g.2.2.1 (by omega) g.2.2.2.1.2 dX10_keep_1 ?_
  refine sm_iconst dX10_keep_4 ?_
  refine sm_aload_n dX10_keep_5 rfl ?_
  refine sm_getR lf_RX10_16 fR_7_3 g.2.2.1 (by omega) g.2.2.2.2.2.1.2 dX10_keep_6 ?_
  refine sm_iconst dX10_keep_9 ?_
  obtain ⟨p1, hp2, h⟩ := sl_bind h
  have hc3 := bModel_copies (G := G) (E := E) (o := o) (s := s) (mi := mi) (by omega) (by omega) g.2.2.2.1.1 (by omega) g.2.2.2.2.2.1.1 (by omega) hp2
  refine sc_callS0 (avs := [.inr (o + 1), .inl 0, .inr (o + 3), .inl 0]) (st := []) lk_RX10_44 rfl sf_X10_copies hc3 ⟨(Nat.le_of_ble_eq_true rfl), (Nat.le_of_ble_eq_true rfl)⟩ ⟨rfl, (Nat.le_of_ble_eq_true rfl)⟩ rfl dX10_keep_10 ?_
  refine sm_aload_n dX10_keep_13 rfl ?_
  refine sm_iconst dX10_keep_14 ?_
  refine sl_putI (D := 0) lf_RX10_196 fP_7_4 (Or.inr ⟨rfl, Or.inr rfl⟩) g.2.2.1 rfl (by omega) ⟨hN1, hN2⟩ dX10_keep_15 ?_
  obtain ⟨s4, hs5, h⟩ := sl_bind h
  rw [Option.some.inj hs5]
  refine sm_aload_n dX10_keep_18 rfl ?_
  refine sm_getR lf_RX10_7 fR_7_0 g.2.2.1 (by omega) g.2.2.2.1.2 dX10_keep_19 ?_
  refine sm_iconst dX10_keep_22 ?_
  refine sl_ialdk (D := 1) (k := 0) g.2.2.2.1.1 rfl (by omega) hN2 ⟨by decide, by decide⟩ dX10_keep_23 ?_
  cases h
  exact sm_ireturn dX10_keep_24 (Or.inl rfl)
abbrev xModel_restore (G : GT) : XT := (G, yX10_restore.cls, cX10_restore, 1, (some .int), decide (yX10_restore.name = "<init>"), 2, 45)
def fModel_restore  (s : MI) : Option (Int × MI) :=
  (if sm_w (s 0 4) = 0 then some ((-5), s) else Option.bind (fModel_records s) (fun p1 => Option.bind (fModel_copies 3 810 0 1 810 0 p1) (fun p4 => Option.bind (fModel_laysWays p4) (fun p7 => some ((p7 1 0), p7)))))
set_option maxRecDepth 100000 in
set_option maxHeartbeats 4000000 in
theorem bModel_restore {G : GT} {E : ET} {o : Nat} {s mi : MI}  {w : Int × MI} (g : gL E o)  (h : fModel_restore s = some w) : cN G yX10_restore cX10_restore 1 (some .int) 2 45 [.inr o] E (sm_gl o 10 s mi) (some (.inl w.1), E, sm_gl o 10 w.2 mi) := by
  have hN1 := g.1
  have hN2 := g.2.1
  unfold fModel_restore at h
  refine sm_meth (by decide +kernel) (Nat.le_of_ble_eq_true rfl) ?_
  show sM (xModel_restore G) 0 [some (.inr o)] [] E (sm_gl o 10 s mi) _
  refine sm_aload_n dX10_restore_0 rfl ?_
  refine sl_getI (D := 0) lf_RX10_196 fI_7_4 g.2.2.1 rfl (by omega) hN2 dX10_restore_1 ?_
  refine sm_if_ne 10 dX10_restore_4 rfl (fun c10 => ?_) (fun c10 => ?_)
  · rw [if_neg c10] at h
    refine sm_aload_n dX10_restore_10 rfl ?_
    obtain ⟨p1, hp2, h⟩ := sl_bind h
    have hc3 := bModel_records (G := G) (E := E) (o := o) (s := s) (mi := mi) g  hp2
    refine sc_callV0 (avs := []) (st := []) lk_RX10_61 rfl vf_X10_records hc3 ⟨(Nat.le_of_ble_eq_true rfl), (Nat.le_of_ble_eq_true rfl)⟩ ⟨rfl, (Nat.le_of_ble_eq_true rfl)⟩ g.2.2.1 (by omega) rfl dX10_restore_11 ?_
    refine sm_aload_n dX10_restore_14 rfl ?_
    refine sm_getR lf_RX10_16 fR_7_3 g.2.2.1 (by omega) g.2.2.2.2.2.1.2 dX10_restore_15 ?_
    refine sm_iconst dX10_restore_18 ?_
    refine sm_aload_n dX10_restore_19 rfl ?_
    refine sm_getR lf_RX10_7 fR_7_0 g.2.2.1 (by omega) g.2.2.2.1.2 dX10_restore_20 ?_
    refine sm_iconst dX10_restore_23 ?_
    obtain ⟨p4, hp5, h⟩ := sl_bind h
    have hc6 := bModel_copies (G := G) (E := E) (o := o) (s := p1) (mi := mi) (by omega) (by omega) g.2.2.2.2.2.1.1 (by omega) g.2.2.2.1.1 (by omega) hp5
    refine sc_callS0 (avs := [.inr (o + 3), .inl 0, .inr (o + 1), .inl 0]) (st := []) lk_RX10_44 rfl sf_X10_copies hc6 ⟨(Nat.le_of_ble_eq_true rfl), (Nat.le_of_ble_eq_true rfl)⟩ ⟨rfl, (Nat.le_of_ble_eq_true rfl)⟩ rfl dX10_restore_24 ?_
    refine sm_aload_n dX10_restore_27 rfl ?_
    obtain ⟨p7, hp8, h⟩ := sl_bind h
    have hc9 := bModel_laysWays (G := G) (E := E) (o := o) (s := p4) (mi := mi) g  hp8
    refine sc_callV0 (avs := []) (st := []) lk_RX10_37 rfl vf_X10_laysWays hc9 ⟨(Nat.le_of_ble_eq_true rfl), (Nat.le_of_ble_eq_true rfl)⟩ ⟨rfl, (Nat.le_of_ble_eq_true rfl)⟩ g.2.2.1 (by omega) rfl dX10_restore_28 ?_
    refine sm_aload_n dX10_restore_31 rfl ?_
    refine sm_getR lf_RX10_7 fR_7_0 g.2.2.1 (by omega) g.2.2.2.1.2 dX10_restore_32 ?_
    refine sm_iconst dX10_restore_35 ?_
    refine sl_ialdk (D := 1) (k := 0) g.2.2.2.1.1 rfl (by omega) hN2 ⟨by decide, by decide⟩ dX10_restore_36 ?_
    cases h
    exact sm_ireturn dX10_restore_37 (Or.inl rfl)
  · rw [if_pos c10] at h
    refine sm_bipush dX10_restore_7 rfl ?_
    cases h
    exact sm_ireturn dX10_restore_9 (Or.inl rfl)
abbrev xModel_distance (G : GT) : XT := (G, yX10_distance.cls, cX10_distance, 3, (some .int), decide (yX10_distance.name = "<init>"), 2, 42)
def fModel_distance_j14  (s : MI) : Option (Int) :=
  some (-1)
set_option maxRecDepth 100000 in
set_option maxHeartbeats 4000000 in
theorem bModel_distance_j14 {G : GT} {E : ET} {o : Nat} {s mi : MI}  {w : Int} (g : gL E o)  (h : fModel_distance_j14 s = some w) : sM (xModel_distance G) 14 [none, none, none] [] E (sm_gl o 10 s mi) (some (.inl w), E, (sm_gl o 10 s mi)) := by
  have hN1 := g.1
  have hN2 := g.2.1
  unfold fModel_distance_j14 at h
  refine sm_iconst dX10_distance_14 ?_
  refine sm_goto 40 dX10_distance_15 rfl ?_
  cases h
  exact sm_ireturn dX10_distance_40 (Or.inl rfl)
def fModel_distance (z1 : Int) (z2 : Int) (s : MI) : Option (Int) :=
  Option.bind (fModel_isArea z1) (fun p1 => (if sm_w p1 = 0 then fModel_distance_j14 s else Option.bind (fModel_isArea z2) (fun p4 => (if sm_w p4 = 0 then fModel_distance_j14 s else Option.bind (fModel_way z1 z2 s) (fun p7 => (if sm_w p7 < 100000 then Option.bind (fModel_way z1 z2 s) (fun p10 => some p10) else some (-5)))))))
set_option maxRecDepth 100000 in
set_option maxHeartbeats 4000000 in
theorem bModel_distance {G : GT} {E : ET} {o : Nat} {s mi : MI} {z1 : Int} {z2 : Int} {w : Int} (g : gL E o)  (h : fModel_distance z1 z2 s = some w) : cN G yX10_distance cX10_distance 3 (some .int) 2 42 [.inr o, .inl z1, .inl z2] E (sm_gl o 10 s mi) (some (.inl w), E, (sm_gl o 10 s mi)) := by
  have hN1 := g.1
  have hN2 := g.2.1
  unfold fModel_distance at h
  refine sm_meth (by decide +kernel) (Nat.le_of_ble_eq_true rfl) ?_
  show sM (xModel_distance G) 0 [some (.inr o), some (.inl z1), some (.inl z2)] [] E (sm_gl o 10 s mi) _
  refine sm_iload_n dX10_distance_0 rfl ?_
  obtain ⟨p1, hp2, h⟩ := sl_bind h
  have hc3 := bModel_isArea (G := G) (E := E) (mi := (sm_gl o 10 s mi))   hp2
  refine sc_callS1 (avs := [.inl z1]) (st := []) lk_RX10_57 rfl sf_X10_isArea hc3 ⟨(Nat.le_of_ble_eq_true rfl), (Nat.le_of_ble_eq_true rfl)⟩ ⟨rfl, (Nat.le_of_ble_eq_true rfl)⟩ rfl dX10_distance_1 ?_
  refine sm_if_eq 14 dX10_distance_4 rfl (fun c15 => ?_) (fun c15 => ?_)
  · rw [if_pos c15] at h
    exact sm_less (lv' := [none, none, none]) trivial (bModel_distance_j14 g   h)
  · rw [if_neg c15] at h
    refine sm_iload_n dX10_distance_7 rfl ?_
    obtain ⟨p4, hp5, h⟩ := sl_bind h
    have hc6 := bModel_isArea (G := G) (E := E) (mi := (sm_gl o 10 s mi))   hp5
    refine sc_callS1 (avs := [.inl z2]) (st := []) lk_RX10_57 rfl sf_X10_isArea hc6 ⟨(Nat.le_of_ble_eq_true rfl), (Nat.le_of_ble_eq_true rfl)⟩ ⟨rfl, (Nat.le_of_ble_eq_true rfl)⟩ rfl dX10_distance_8 ?_
    refine sm_if_ne 18 dX10_distance_11 rfl (fun c14 => ?_) (fun c14 => ?_)
    · rw [if_neg c14] at h
      refine sm_aload_n dX10_distance_18 rfl ?_
      refine sm_iload_n dX10_distance_19 rfl ?_
      refine sm_iload_n dX10_distance_20 rfl ?_
      obtain ⟨p7, hp8, h⟩ := sl_bind h
      have hc9 := bModel_way (G := G) (E := E) (o := o) (s := s) (mi := mi) g  hp8
      refine sc_callV1 (avs := [.inl z1, .inl z2]) (st := []) lk_RX10_53 rfl vf_X10_way hc9 ⟨(Nat.le_of_ble_eq_true rfl), (Nat.le_of_ble_eq_true rfl)⟩ ⟨rfl, (Nat.le_of_ble_eq_true rfl)⟩ g.2.2.1 (by omega) rfl dX10_distance_21 ?_
      refine sm_ldc (v := 100000) rfl lc_RX10_52 dX10_distance_24 ?_
      refine sc_icmp_lt (X' := sm_w p7) (Y' := 100000) 34 dX10_distance_26 rfl rfl (by decide) (fun c13 => ?_) (fun c13 => ?_)
      · rw [if_pos c13] at h
        refine sm_aload_n dX10_distance_34 rfl ?_
        refine sm_iload_n dX10_distance_35 rfl ?_
        refine sm_iload_n dX10_distance_36 rfl ?_
        obtain ⟨p10, hp11, h⟩ := sl_bind h
        have hc12 := bModel_way (G := G) (E := E) (o := o) (s := s) (mi := mi) g  hp11
        refine sc_callV1 (avs := [.inl z1, .inl z2]) (st := []) lk_RX10_53 rfl vf_X10_way hc12 ⟨(Nat.le_of_ble_eq_true rfl), (Nat.le_of_ble_eq_true rfl)⟩ ⟨rfl, (Nat.le_of_ble_eq_true rfl)⟩ g.2.2.1 (by omega) rfl dX10_distance_37 ?_
        cases h
        exact sm_ireturn dX10_distance_40 (Or.inl rfl)
      · rw [if_neg c13] at h
        refine sm_bipush dX10_distance_29 rfl ?_
        refine sm_goto 40 dX10_distance_31 rfl ?_
        cases h
        exact sm_ireturn dX10_distance_40 (Or.inl rfl)
    · rw [if_pos c14] at h
      exact sm_less (lv' := [none, none, none]) trivial (bModel_distance_j14 g   h)
abbrev xModel_wayAt (G : GT) : XT := (G, yX10_wayAt.cls, cX10_wayAt, 6, (some .int), decide (yX10_wayAt.name = "<init>"), 2, 45)
abbrev qModel_wayAt_l29 (G : GT) (E : ET) (o : Nat) (mi : MI) (z1 : Int) (z2 : Int) (z3 : Int) (s : MI) (r : RT) (t : Int × Int) : Prop := sM (xModel_wayAt G) 29 [some (.inr o), some (.inl z1), some (.inl z2), some (.inl z3), some (.inl t.1), some (.inl t.2)] [] E (sm_gl o 10 s mi) r
abbrev kModel_wayAt_l29 (G : GT) (E : ET) (o : Nat) (mi : MI) (z1 : Int) (z2 : Int) (z3 : Int) (s : MI) (r : RT) (x : Int × Int) : Prop := sM (xModel_wayAt G) 67 [some (.inr o), some (.inl z1), some (.inl z2), some (.inl z3), some (.inl x.1), some (.inl x.2)] [] E (sm_gl o 10 s mi) r
def fModel_wayAt_l29 (z1 : Int) (z2 : Int) (z3 : Int) (z4 : Int) (z5 : Int) (s : MI) : Option ((Int × Int) ⊕ (Int × Int)) :=
  (if sm_w z3 ≤ sm_w z5 then some (.inr (z4, z5)) else (if sm_w z4 = sm_w z2 then some (.inr (z4, z5)) else Option.bind (fModel_way z1 z2 s) (fun p7 => (if 100000 ≤ sm_w p7 then some (.inr (z4, z5)) else Option.bind (fModel_nextOn z4 z2 s) (fun p10 => some (.inl (p10, (z5 + 1))))))))
set_option maxRecDepth 100000 in
set_option maxHeartbeats 4000000 in
theorem bModel_wayAt_l29 {G : GT} {E : ET} {o : Nat} {s mi : MI} {z1 : Int} {z2 : Int} {z3 : Int} {z4 : Int} {z5 : Int} {r : RT} {w : (Int × Int) ⊕ (Int × Int)} (g : gL E o)  (h : fModel_wayAt_l29 z1 z2 z3 z4 z5 s = some w) (hK : Sum.elim (qModel_wayAt_l29 G E o mi z1 z2 z3 s r) (kModel_wayAt_l29 G E o mi z1 z2 z3 s r) w) : qModel_wayAt_l29 G E o mi z1 z2 z3 s r (z4, z5) := by
  have hN1 := g.1
  have hN2 := g.2.1
  unfold fModel_wayAt_l29 at h
  show sM (xModel_wayAt G) 29 [some (.inr o), some (.inl z1), some (.inl z2), some (.inl z3), some (.inl z4), some (.inl z5)] [] E (sm_gl o 10 s mi) r
  refine sm_iload dX10_wayAt_29 rfl ?_
  refine sm_iload_n dX10_wayAt_31 rfl ?_
  refine sc_icmp_ge (X' := sm_w z5) (Y' := sm_w z3) 67 dX10_wayAt_32 rfl rfl rfl (fun c15 => ?_) (fun c15 => ?_)
  · rw [if_pos c15] at h
    cases h
    exact sm_less (lv' := [some (.inr o), some (.inl z1), some (.inl z2), some (.inl z3), some (.inl z4), some (.inl z5)]) ⟨rfl, rfl, rfl, rfl, rfl, rfl, trivial⟩ hK
  · rw [if_neg c15] at h
    refine sm_iload dX10_wayAt_35 rfl ?_
    refine sm_iload_n dX10_wayAt_37 rfl ?_
    refine sc_icmp_eq (X' := sm_w z4) (Y' := sm_w z2) 67 dX10_wayAt_38 rfl rfl rfl (fun c14 => ?_) (fun c14 => ?_)
    · rw [if_pos c14] at h
      cases h
      exact sm_less (lv' := [some (.inr o), some (.inl z1), some (.inl z2), some (.inl z3), some (.inl z4), some (.inl z5)]) ⟨rfl, rfl, rfl, rfl, rfl, rfl, trivial⟩ hK
    · rw [if_neg c14] at h
      refine sm_aload_n dX10_wayAt_41 rfl ?_
      refine sm_iload_n dX10_wayAt_42 rfl ?_
      refine sm_iload_n dX10_wayAt_43 rfl ?_
      obtain ⟨p7, hp8, h⟩ := sl_bind h
      have hc9 := bModel_way (G := G) (E := E) (o := o) (s := s) (mi := mi) g  hp8
      refine sc_callV1 (avs := [.inl z1, .inl z2]) (st := []) lk_RX10_53 rfl vf_X10_way hc9 ⟨(Nat.le_of_ble_eq_true rfl), (Nat.le_of_ble_eq_true rfl)⟩ ⟨rfl, (Nat.le_of_ble_eq_true rfl)⟩ g.2.2.1 (by omega) rfl dX10_wayAt_44 ?_
      refine sm_ldc (v := 100000) rfl lc_RX10_52 dX10_wayAt_47 ?_
      refine sc_icmp_ge (X' := sm_w p7) (Y' := 100000) 67 dX10_wayAt_49 rfl rfl (by decide) (fun c13 => ?_) (fun c13 => ?_)
      · rw [if_pos c13] at h
        cases h
        exact sm_less (lv' := [some (.inr o), some (.inl z1), some (.inl z2), some (.inl z3), some (.inl z4), some (.inl z5)]) ⟨rfl, rfl, rfl, rfl, rfl, rfl, trivial⟩ hK
      · rw [if_neg c13] at h
        refine sm_aload_n dX10_wayAt_52 rfl ?_
        refine sm_iload dX10_wayAt_53 rfl ?_
        refine sm_iload_n dX10_wayAt_55 rfl ?_
        obtain ⟨p10, hp11, h⟩ := sl_bind h
        have hc12 := bModel_nextOn (G := G) (E := E) (o := o) (s := s) (mi := mi) g  hp11
        refine sc_callV1 (avs := [.inl z4, .inl z2]) (st := []) lk_RX10_132 rfl vf_X10_nextOn hc12 ⟨(Nat.le_of_ble_eq_true rfl), (Nat.le_of_ble_eq_true rfl)⟩ ⟨rfl, (Nat.le_of_ble_eq_true rfl)⟩ g.2.2.1 (by omega) rfl dX10_wayAt_56 ?_
        refine sm_istore dX10_wayAt_59 (Nat.le_of_ble_eq_true rfl) ?_
        refine sm_iinc dX10_wayAt_61 (Nat.le_of_ble_eq_true rfl) rfl ?_
        refine sm_goto 29 dX10_wayAt_64 rfl ?_
        cases h
        exact sm_less (lv' := [some (.inr o), some (.inl z1), some (.inl z2), some (.inl z3), some (.inl p10), some (.inl (z5 + 1))]) ⟨rfl, rfl, rfl, rfl, rfl, rfl, trivial⟩ hK
def fModel_wayAt_j67 (z1 : Int) (z2 : Int) (z3 : Int) (z4 : Int) (z5 : Int) (s : MI) : Option (Int) :=
  Option.bind (fModel_way z1 z2 s) (fun p19 => (if 100000 ≤ sm_w p19 then some (-5) else (if sm_w z5 = sm_w z3 then some z4 else some (-5))))
set_option maxRecDepth 100000 in
set_option maxHeartbeats 4000000 in
theorem bModel_wayAt_j67 {G : GT} {E : ET} {o : Nat} {s mi : MI} {z1 : Int} {z2 : Int} {z3 : Int} {z4 : Int} {z5 : Int} {w : Int} (g : gL E o)  (h : fModel_wayAt_j67 z1 z2 z3 z4 z5 s = some w) : sM (xModel_wayAt G) 67 [some (.inr o), some (.inl z1), some (.inl z2), some (.inl z3), some (.inl z4), some (.inl z5)] [] E (sm_gl o 10 s mi) (some (.inl w), E, (sm_gl o 10 s mi)) := by
  have hN1 := g.1
  have hN2 := g.2.1
  unfold fModel_wayAt_j67 at h
  refine sm_aload_n dX10_wayAt_67 rfl ?_
  refine sm_iload_n dX10_wayAt_68 rfl ?_
  refine sm_iload_n dX10_wayAt_69 rfl ?_
  obtain ⟨p19, hp20, h⟩ := sl_bind h
  have hc21 := bModel_way (G := G) (E := E) (o := o) (s := s) (mi := mi) g  hp20
  refine sc_callV1 (avs := [.inl z1, .inl z2]) (st := []) lk_RX10_53 rfl vf_X10_way hc21 ⟨(Nat.le_of_ble_eq_true rfl), (Nat.le_of_ble_eq_true rfl)⟩ ⟨rfl, (Nat.le_of_ble_eq_true rfl)⟩ g.2.2.1 (by omega) rfl dX10_wayAt_70 ?_
  refine sm_ldc (v := 100000) rfl lc_RX10_52 dX10_wayAt_73 ?_
  refine sc_icmp_ge (X' := sm_w p19) (Y' := 100000) 89 dX10_wayAt_75 rfl rfl (by decide) (fun c23 => ?_) (fun c23 => ?_)
  · rw [if_pos c23] at h
    refine sm_bipush dX10_wayAt_89 rfl ?_
    cases h
    exact sm_ireturn dX10_wayAt_91 (Or.inl rfl)
  · rw [if_neg c23] at h
    refine sm_iload dX10_wayAt_78 rfl ?_
    refine sm_iload_n dX10_wayAt_80 rfl ?_
    refine sc_icmp_ne (X' := sm_w z5) (Y' := sm_w z3) 89 dX10_wayAt_81 rfl rfl rfl (fun c22 => ?_) (fun c22 => ?_)
    · rw [if_neg c22] at h
      refine sm_bipush dX10_wayAt_89 rfl ?_
      cases h
      exact sm_ireturn dX10_wayAt_91 (Or.inl rfl)
    · rw [if_pos c22] at h
      refine sm_iload dX10_wayAt_84 rfl ?_
      refine sm_goto 91 dX10_wayAt_86 rfl ?_
      cases h
      exact sm_ireturn dX10_wayAt_91 (Or.inl rfl)
def fModel_wayAt (z1 : Int) (z2 : Int) (z3 : Int) (s : MI) : Option (Int) :=
  Option.bind (fModel_isArea z1) (fun p1 => (if sm_w p1 = 0 then some (-1) else Option.bind (fModel_isArea z2) (fun p4 => (if sm_w p4 = 0 then some (-1) else (if 0 ≤ sm_w z3 then Option.bind (sl_it (fun (t : Int × Int) => fModel_wayAt_l29 z1 z2 z3 t.1 t.2 s) sl_fu (z1, 0)) (fun x18 => fModel_wayAt_j67 z1 z2 z3 x18.1 x18.2 s) else some (-2))))))
set_option maxRecDepth 100000 in
set_option maxHeartbeats 4000000 in
theorem bModel_wayAt {G : GT} {E : ET} {o : Nat} {s mi : MI} {z1 : Int} {z2 : Int} {z3 : Int} {w : Int} (g : gL E o)  (h : fModel_wayAt z1 z2 z3 s = some w) : cN G yX10_wayAt cX10_wayAt 6 (some .int) 2 45 [.inr o, .inl z1, .inl z2, .inl z3] E (sm_gl o 10 s mi) (some (.inl w), E, (sm_gl o 10 s mi)) := by
  have hN1 := g.1
  have hN2 := g.2.1
  unfold fModel_wayAt at h
  refine sm_meth (by decide +kernel) (Nat.le_of_ble_eq_true rfl) ?_
  show sM (xModel_wayAt G) 0 [some (.inr o), some (.inl z1), some (.inl z2), some (.inl z3), none, none] [] E (sm_gl o 10 s mi) _
  refine sm_iload_n dX10_wayAt_0 rfl ?_
  obtain ⟨p1, hp2, h⟩ := sl_bind h
  have hc3 := bModel_isArea (G := G) (E := E) (mi := (sm_gl o 10 s mi))   hp2
  refine sc_callS1 (avs := [.inl z1]) (st := []) lk_RX10_57 rfl sf_X10_isArea hc3 ⟨(Nat.le_of_ble_eq_true rfl), (Nat.le_of_ble_eq_true rfl)⟩ ⟨rfl, (Nat.le_of_ble_eq_true rfl)⟩ rfl dX10_wayAt_1 ?_
  refine sm_if_eq 14 dX10_wayAt_4 rfl (fun c26 => ?_) (fun c26 => ?_)
  · rw [if_pos c26] at h
    refine sm_iconst dX10_wayAt_14 ?_
    cases h
    exact sm_ireturn dX10_wayAt_15 (Or.inl rfl)
  · rw [if_neg c26] at h
    refine sm_iload_n dX10_wayAt_7 rfl ?_
    obtain ⟨p4, hp5, h⟩ := sl_bind h
    have hc6 := bModel_isArea (G := G) (E := E) (mi := (sm_gl o 10 s mi))   hp5
    refine sc_callS1 (avs := [.inl z2]) (st := []) lk_RX10_57 rfl sf_X10_isArea hc6 ⟨(Nat.le_of_ble_eq_true rfl), (Nat.le_of_ble_eq_true rfl)⟩ ⟨rfl, (Nat.le_of_ble_eq_true rfl)⟩ rfl dX10_wayAt_8 ?_
    refine sm_if_ne 16 dX10_wayAt_11 rfl (fun c25 => ?_) (fun c25 => ?_)
    · rw [if_neg c25] at h
      refine sm_iload_n dX10_wayAt_16 rfl ?_
      refine sm_if_ge 23 dX10_wayAt_17 rfl (fun c24 => ?_) (fun c24 => ?_)
      · rw [if_pos c24] at h
        refine sm_iload_n dX10_wayAt_23 rfl ?_
        refine sm_istore dX10_wayAt_24 (Nat.le_of_ble_eq_true rfl) ?_
        refine sm_iconst dX10_wayAt_26 ?_
        refine sm_istore dX10_wayAt_27 (Nat.le_of_ble_eq_true rfl) ?_
        obtain ⟨x18, hy17, h⟩ := sl_bind h
        refine sm_less (lv' := [some (.inr o), some (.inl z1), some (.inl z2), some (.inl z3), some (.inl z1), some (.inl 0)]) ⟨rfl, rfl, rfl, rfl, rfl, rfl, trivial⟩ (sl_itE (P := qModel_wayAt_l29 G E o mi z1 z2 z3 s _) (K := kModel_wayAt_l29 G E o mi z1 z2 z3 s _) (fun t q hq hk => bModel_wayAt_l29 g  hq hk) sl_fu _ x18 hy17 ?_)
        show sM (xModel_wayAt G) 67 [some (.inr o), some (.inl z1), some (.inl z2), some (.inl z3), some (.inl x18.1), some (.inl x18.2)] [] E (sm_gl o 10 s mi) _
        exact sm_less (lv' := [some (.inr o), some (.inl z1), some (.inl z2), some (.inl z3), some (.inl x18.1), some (.inl x18.2)]) ⟨rfl, rfl, rfl, rfl, rfl, rfl, trivial⟩ (bModel_wayAt_j67 g   h)
      · rw [if_neg c24] at h
        refine sm_bipush dX10_wayAt_20 rfl ?_
        cases h
        exact sm_ireturn dX10_wayAt_22 (Or.inl rfl)
    · rw [if_pos c25] at h
      refine sm_iconst dX10_wayAt_14 ?_
      cases h
      exact sm_ireturn dX10_wayAt_15 (Or.inl rfl)
abbrev xModel_member (G : GT) : XT := (G, yX10_member.cls, cX10_member, 6, (some .int), decide (yX10_member.name = "<init>"), 2, 44)
abbrev qModel_member_l18 (G : GT) (E : ET) (o : Nat) (mi : MI) (z1 : Int) (z2 : Int) (s : MI) (r : RT) (t : Int × Int × Int) : Prop := sM (xModel_member G) 18 [some (.inr o), some (.inl z1), some (.inl z2), some (.inl t.1), some (.inl t.2.1), some (.inl t.2.2)] [] E (sm_gl o 10 s mi) r
abbrev kModel_member_l18 (G : GT) (E : ET) (o : Nat) (mi : MI) (z1 : Int) (z2 : Int) (s : MI) (r : RT) (x : Int × Int) : Prop := sM (xModel_member G) 61 [some (.inr o), some (.inl z1), some (.inl z2), some (.inl x.1), some (.inl x.2), none] [] E (sm_gl o 10 s mi) r
def fModel_member_j55_l18 (z1 : Int) (z2 : Int) (z3 : Int) (z4 : Int) (z5 : Int) (s : MI) : Option ((Int × Int × Int) ⊕ (Int × Int)) :=
  some (.inl (z3, z4, (z5 + 1)))
set_option maxRecDepth 100000 in
set_option maxHeartbeats 4000000 in
theorem bModel_member_j55_l18 {G : GT} {E : ET} {o : Nat} {s mi : MI} {z1 : Int} {z2 : Int} {z3 : Int} {z4 : Int} {z5 : Int} {r : RT} {w : (Int × Int × Int) ⊕ (Int × Int)} (g : gL E o)  (h : fModel_member_j55_l18 z1 z2 z3 z4 z5 s = some w) (hK : Sum.elim (qModel_member_l18 G E o mi z1 z2 s r) (kModel_member_l18 G E o mi z1 z2 s r) w) : sM (xModel_member G) 55 [some (.inr o), some (.inl z1), some (.inl z2), some (.inl z3), some (.inl z4), some (.inl z5)] [] E (sm_gl o 10 s mi) r := by
  have hN1 := g.1
  have hN2 := g.2.1
  unfold fModel_member_j55_l18 at h
  refine sm_iinc dX10_member_55 (Nat.le_of_ble_eq_true rfl) rfl ?_
  refine sm_goto 18 dX10_member_58 rfl ?_
  cases h
  exact sm_less (lv' := [some (.inr o), some (.inl z1), some (.inl z2), some (.inl z3), some (.inl z4), some (.inl (z5 + 1))]) ⟨rfl, rfl, rfl, rfl, rfl, rfl, trivial⟩ hK
def fModel_member_l18 (z1 : Int) (z2 : Int) (z3 : Int) (z4 : Int) (z5 : Int) (s : MI) : Option ((Int × Int × Int) ⊕ (Int × Int)) :=
  (if sm_w (s 1 9) ≤ sm_w z5 then some (.inr (z3, z4)) else Option.bind (fModel_ofCall z5 0 s) (fun p4 => (if sm_w p4 = sm_w z1 then Option.bind (fModel_waitedOf z5 s) (fun p7 => fModel_member_j55_l18 z1 z2 (z3 + 1) (z4 + p7) z5 s) else fModel_member_j55_l18 z1 z2 z3 z4 z5 s)))
set_option maxRecDepth 100000 in
set_option maxHeartbeats 4000000 in
theorem bModel_member_l18 {G : GT} {E : ET} {o : Nat} {s mi : MI} {z1 : Int} {z2 : Int} {z3 : Int} {z4 : Int} {z5 : Int} {r : RT} {w : (Int × Int × Int) ⊕ (Int × Int)} (g : gL E o)  (h : fModel_member_l18 z1 z2 z3 z4 z5 s = some w) (hK : Sum.elim (qModel_member_l18 G E o mi z1 z2 s r) (kModel_member_l18 G E o mi z1 z2 s r) w) : qModel_member_l18 G E o mi z1 z2 s r (z3, z4, z5) := by
  have hN1 := g.1
  have hN2 := g.2.1
  unfold fModel_member_l18 at h
  show sM (xModel_member G) 18 [some (.inr o), some (.inl z1), some (.inl z2), some (.inl z3), some (.inl z4), some (.inl z5)] [] E (sm_gl o 10 s mi) r
  refine sm_iload dX10_member_18 rfl ?_
  refine sm_aload_n dX10_member_20 rfl ?_
  refine sm_getR lf_RX10_7 fR_7_0 g.2.2.1 (by omega) g.2.2.2.1.2 dX10_member_21 ?_
  refine sm_bipush dX10_member_24 rfl ?_
  refine sl_ialdk (D := 1) (k := 9) g.2.2.2.1.1 rfl (by omega) hN2 ⟨by decide, by decide⟩ dX10_member_26 ?_
  refine sc_icmp_ge (X' := sm_w z5) (Y' := sm_w (s 1 9)) 61 dX10_member_27 rfl rfl rfl (fun c11 => ?_) (fun c11 => ?_)
  · rw [if_pos c11] at h
    cases h
    exact sm_less (lv' := [some (.inr o), some (.inl z1), some (.inl z2), some (.inl z3), some (.inl z4), none]) ⟨rfl, rfl, rfl, rfl, rfl, trivial⟩ hK
  · rw [if_neg c11] at h
    refine sm_aload_n dX10_member_30 rfl ?_
    refine sm_iload dX10_member_31 rfl ?_
    refine sm_iconst dX10_member_33 ?_
    obtain ⟨p4, hp5, h⟩ := sl_bind h
    have hc6 := bModel_ofCall (G := G) (E := E) (o := o) (s := s) (mi := mi) g  hp5
    refine sc_callV1 (avs := [.inl z5, .inl 0]) (st := []) lk_RX10_72 rfl vf_X10_ofCall hc6 ⟨(Nat.le_of_ble_eq_true rfl), (Nat.le_of_ble_eq_true rfl)⟩ ⟨rfl, (Nat.le_of_ble_eq_true rfl)⟩ g.2.2.1 (by omega) rfl dX10_member_34 ?_
    refine sm_iload_n dX10_member_37 rfl ?_
    refine sc_icmp_ne (X' := sm_w p4) (Y' := sm_w z1) 55 dX10_member_38 rfl rfl rfl (fun c10 => ?_) (fun c10 => ?_)
    · rw [if_neg c10] at h
      exact sm_less (lv' := [some (.inr o), some (.inl z1), some (.inl z2), some (.inl z3), some (.inl z4), some (.inl z5)]) ⟨rfl, rfl, rfl, rfl, rfl, rfl, trivial⟩ (bModel_member_j55_l18 g   h hK)
    · rw [if_pos c10] at h
      refine sm_iinc dX10_member_41 (Nat.le_of_ble_eq_true rfl) rfl ?_
      refine sm_iload dX10_member_44 rfl ?_
      refine sm_aload_n dX10_member_46 rfl ?_
      refine sm_iload dX10_member_47 rfl ?_
      obtain ⟨p7, hp8, h⟩ := sl_bind h
      have hc9 := bModel_waitedOf (G := G) (E := E) (o := o) (s := s) (mi := mi) g  hp8
      refine sc_callV1 (avs := [.inl z5]) (st := [.inl z4]) lk_RX10_104 rfl vf_X10_waitedOf hc9 ⟨(Nat.le_of_ble_eq_true rfl), (Nat.le_of_ble_eq_true rfl)⟩ ⟨rfl, (Nat.le_of_ble_eq_true rfl)⟩ g.2.2.1 (by omega) rfl dX10_member_49 ?_
      refine sm_iadd dX10_member_52 ?_
      refine sm_istore dX10_member_53 (Nat.le_of_ble_eq_true rfl) ?_
      exact sm_less (lv' := [some (.inr o), some (.inl z1), some (.inl z2), some (.inl (z3 + 1)), some (.inl (z4 + p7)), some (.inl z5)]) ⟨rfl, rfl, rfl, rfl, rfl, rfl, trivial⟩ (bModel_member_j55_l18 g   h hK)
def fModel_member (z1 : Int) (z2 : Int) (s : MI) : Option (Int) :=
  Option.bind (fModel_isMember z1 s) (fun p1 => (if sm_w p1 = 0 then some (-1) else Option.bind (sl_it (fun (t : Int × Int × Int) => fModel_member_l18 z1 z2 t.1 t.2.1 t.2.2 s) sl_fu (0, 0, 0)) (fun x14 => (if 0 ≤ sm_w z2 ∧ sm_w z2 ≤ 6 then (if sm_w z2 = 0 then Option.bind (fModel_ofMember z1 0 s) (fun p16 => some p16) else (if sm_w z2 = 1 then some x14.1 else (if sm_w z2 = 2 then Option.bind (fModel_openOf z1 s) (fun p23 => some p23) else (if sm_w z2 = 3 then some x14.2 else (if sm_w z2 = 4 then Option.bind (fModel_ofMember z1 1 s) (fun p30 => some (p30 + 1000)) else (if sm_w z2 = 5 then Option.bind (fModel_ofMember z1 2 s) (fun p35 => some p35) else Option.bind (fModel_ofMember z1 3 s) (fun p40 => some p40))))))) else some (-2)))))
set_option maxRecDepth 100000 in
set_option maxHeartbeats 4000000 in
theorem bModel_member {G : GT} {E : ET} {o : Nat} {s mi : MI} {z1 : Int} {z2 : Int} {w : Int} (g : gL E o)  (h : fModel_member z1 z2 s = some w) : cN G yX10_member cX10_member 6 (some .int) 2 44 [.inr o, .inl z1, .inl z2] E (sm_gl o 10 s mi) (some (.inl w), E, (sm_gl o 10 s mi)) := by
  have hN1 := g.1
  have hN2 := g.2.1
  unfold fModel_member at h
  refine sm_meth (by decide +kernel) (Nat.le_of_ble_eq_true rfl) ?_
  show sM (xModel_member G) 0 [some (.inr o), some (.inl z1), some (.inl z2), none, none, none] [] E (sm_gl o 10 s mi) _
  refine sm_aload_n dX10_member_0 rfl ?_
  refine sm_iload_n dX10_member_1 rfl ?_
  obtain ⟨p1, hp2, h⟩ := sl_bind h
  have hc3 := bModel_isMember (G := G) (E := E) (o := o) (s := s) (mi := mi) g  hp2
  refine sc_callV1 (avs := [.inl z1]) (st := []) lk_RX10_75 rfl vf_X10_isMember hc3 ⟨(Nat.le_of_ble_eq_true rfl), (Nat.le_of_ble_eq_true rfl)⟩ ⟨rfl, (Nat.le_of_ble_eq_true rfl)⟩ g.2.2.1 (by omega) rfl dX10_member_2 ?_
  refine sm_if_ne 10 dX10_member_5 rfl (fun c44 => ?_) (fun c44 => ?_)
  · rw [if_neg c44] at h
    refine sm_iconst dX10_member_10 ?_
    refine sm_istore_n dX10_member_11 (Nat.le_of_ble_eq_true rfl) ?_
    refine sm_iconst dX10_member_12 ?_
    refine sm_istore dX10_member_13 (Nat.le_of_ble_eq_true rfl) ?_
    refine sm_iconst dX10_member_15 ?_
    refine sm_istore dX10_member_16 (Nat.le_of_ble_eq_true rfl) ?_
    obtain ⟨x14, hy13, h⟩ := sl_bind h
    refine sm_less (lv' := [some (.inr o), some (.inl z1), some (.inl z2), some (.inl 0), some (.inl 0), some (.inl 0)]) ⟨rfl, rfl, rfl, rfl, rfl, rfl, trivial⟩ (sl_itE (P := qModel_member_l18 G E o mi z1 z2 s _) (K := kModel_member_l18 G E o mi z1 z2 s _) (fun t q hq hk => bModel_member_l18 g  hq hk) sl_fu _ x14 hy13 ?_)
    show sM (xModel_member G) 61 [some (.inr o), some (.inl z1), some (.inl z2), some (.inl x14.1), some (.inl x14.2), none] [] E (sm_gl o 10 s mi) _
    refine sm_iload_n dX10_member_61 rfl ?_
    by_cases c15 : 0 ≤ sm_w z2 ∧ sm_w z2 ≤ 6
    · rw [if_pos c15] at h
      by_cases c19 : sm_w z2 = 0
      · rw [if_pos c19] at h
        refine sm_table dX10_member_62 104 (Or.inr ⟨⟨by omega, by omega⟩, _, (by rw [c19]; rfl), rfl⟩) ?_
        refine sm_aload_n dX10_member_104 rfl ?_
        refine sm_iload_n dX10_member_105 rfl ?_
        refine sm_iconst dX10_member_106 ?_
        obtain ⟨p16, hp17, h⟩ := sl_bind h
        have hc18 := bModel_ofMember (G := G) (E := E) (o := o) (s := s) (mi := mi) g  hp17
        refine sc_callV1 (avs := [.inl z1, .inl 0]) (st := []) lk_RX10_85 rfl vf_X10_ofMember hc18 ⟨(Nat.le_of_ble_eq_true rfl), (Nat.le_of_ble_eq_true rfl)⟩ ⟨rfl, (Nat.le_of_ble_eq_true rfl)⟩ g.2.2.1 (by omega) rfl dX10_member_107 ?_
        cases h
        exact sm_ireturn dX10_member_110 (Or.inl rfl)
      · rw [if_neg c19] at h
        have l20 := sl_nx c15.1 c19 (b := 1) rfl
        by_cases c21 : sm_w z2 = 1
        · rw [if_pos c21] at h
          refine sm_table dX10_member_62 111 (Or.inr ⟨⟨by omega, by omega⟩, _, (by rw [c21]; rfl), rfl⟩) ?_
          refine sm_iload_n dX10_member_111 rfl ?_
          cases h
          exact sm_ireturn dX10_member_112 (Or.inl rfl)
        · rw [if_neg c21] at h
          have l22 := sl_nx l20 c21 (b := 2) rfl
          by_cases c26 : sm_w z2 = 2
          · rw [if_pos c26] at h
            refine sm_table dX10_member_62 113 (Or.inr ⟨⟨by omega, by omega⟩, _, (by rw [c26]; rfl), rfl⟩) ?_
            refine sm_aload_n dX10_member_113 rfl ?_
            refine sm_iload_n dX10_member_114 rfl ?_
            obtain ⟨p23, hp24, h⟩ := sl_bind h
            have hc25 := bModel_openOf (G := G) (E := E) (o := o) (s := s) (mi := mi) g  hp24
            refine sc_callV1 (avs := [.inl z1]) (st := []) lk_RX10_78 rfl vf_X10_openOf hc25 ⟨(Nat.le_of_ble_eq_true rfl), (Nat.le_of_ble_eq_true rfl)⟩ ⟨rfl, (Nat.le_of_ble_eq_true rfl)⟩ g.2.2.1 (by omega) rfl dX10_member_115 ?_
            cases h
            exact sm_ireturn dX10_member_118 (Or.inl rfl)
          · rw [if_neg c26] at h
            have l27 := sl_nx l22 c26 (b := 3) rfl
            by_cases c28 : sm_w z2 = 3
            · rw [if_pos c28] at h
              refine sm_table dX10_member_62 119 (Or.inr ⟨⟨by omega, by omega⟩, _, (by rw [c28]; rfl), rfl⟩) ?_
              refine sm_iload dX10_member_119 rfl ?_
              cases h
              exact sm_ireturn dX10_member_121 (Or.inl rfl)
            · rw [if_neg c28] at h
              have l29 := sl_nx l27 c28 (b := 4) rfl
              by_cases c33 : sm_w z2 = 4
              · rw [if_pos c33] at h
                refine sm_table dX10_member_62 122 (Or.inr ⟨⟨by omega, by omega⟩, _, (by rw [c33]; rfl), rfl⟩) ?_
                refine sm_aload_n dX10_member_122 rfl ?_
                refine sm_iload_n dX10_member_123 rfl ?_
                refine sm_iconst dX10_member_124 ?_
                obtain ⟨p30, hp31, h⟩ := sl_bind h
                have hc32 := bModel_ofMember (G := G) (E := E) (o := o) (s := s) (mi := mi) g  hp31
                refine sc_callV1 (avs := [.inl z1, .inl 1]) (st := []) lk_RX10_85 rfl vf_X10_ofMember hc32 ⟨(Nat.le_of_ble_eq_true rfl), (Nat.le_of_ble_eq_true rfl)⟩ ⟨rfl, (Nat.le_of_ble_eq_true rfl)⟩ g.2.2.1 (by omega) rfl dX10_member_125 ?_
                refine sm_sipush dX10_member_128 rfl ?_
                refine sm_iadd dX10_member_131 ?_
                cases h
                exact sm_ireturn dX10_member_132 (Or.inl rfl)
              · rw [if_neg c33] at h
                have l34 := sl_nx l29 c33 (b := 5) rfl
                by_cases c38 : sm_w z2 = 5
                · rw [if_pos c38] at h
                  refine sm_table dX10_member_62 133 (Or.inr ⟨⟨by omega, by omega⟩, _, (by rw [c38]; rfl), rfl⟩) ?_
                  refine sm_aload_n dX10_member_133 rfl ?_
                  refine sm_iload_n dX10_member_134 rfl ?_
                  refine sm_iconst dX10_member_135 ?_
                  obtain ⟨p35, hp36, h⟩ := sl_bind h
                  have hc37 := bModel_ofMember (G := G) (E := E) (o := o) (s := s) (mi := mi) g  hp36
                  refine sc_callV1 (avs := [.inl z1, .inl 2]) (st := []) lk_RX10_85 rfl vf_X10_ofMember hc37 ⟨(Nat.le_of_ble_eq_true rfl), (Nat.le_of_ble_eq_true rfl)⟩ ⟨rfl, (Nat.le_of_ble_eq_true rfl)⟩ g.2.2.1 (by omega) rfl dX10_member_136 ?_
                  cases h
                  exact sm_ireturn dX10_member_139 (Or.inl rfl)
                · rw [if_neg c38] at h
                  have l39 := sl_nx l34 c38 (b := 6) rfl
                  have c43 : sm_w z2 = 6 := by omega
                  refine sm_table dX10_member_62 140 (Or.inr ⟨⟨by omega, by omega⟩, _, (by rw [c43]; rfl), rfl⟩) ?_
                  refine sm_aload_n dX10_member_140 rfl ?_
                  refine sm_iload_n dX10_member_141 rfl ?_
                  refine sm_iconst dX10_member_142 ?_
                  obtain ⟨p40, hp41, h⟩ := sl_bind h
                  have hc42 := bModel_ofMember (G := G) (E := E) (o := o) (s := s) (mi := mi) g  hp41
                  refine sc_callV1 (avs := [.inl z1, .inl 3]) (st := []) lk_RX10_85 rfl vf_X10_ofMember hc42 ⟨(Nat.le_of_ble_eq_true rfl), (Nat.le_of_ble_eq_true rfl)⟩ ⟨rfl, (Nat.le_of_ble_eq_true rfl)⟩ g.2.2.1 (by omega) rfl dX10_member_143 ?_
                  cases h
                  exact sm_ireturn dX10_member_146 (Or.inl rfl)
    · rw [if_neg c15] at h
      refine sm_table dX10_member_62 147 (Or.inl ⟨by omega, rfl⟩) ?_
      refine sm_bipush dX10_member_147 rfl ?_
      cases h
      exact sm_ireturn dX10_member_149 (Or.inl rfl)
  · rw [if_pos c44] at h
    refine sm_iconst dX10_member_8 ?_
    cases h
    exact sm_ireturn dX10_member_9 (Or.inl rfl)
abbrev xModel_patrol (G : GT) : XT := (G, yX10_patrol.cls, cX10_patrol, 3, (some .int), decide (yX10_patrol.name = "<init>"), 2, 43)
def fModel_patrol (z1 : Int) (z2 : Int) (s : MI) : Option (Int) :=
  Option.bind (fModel_isPatrol z1 s) (fun p1 => (if sm_w p1 = 0 then some (-1) else Option.bind (fModel_in z2 0 11) (fun p4 => (if sm_w p4 = 0 then some (-2) else Option.bind (fModel_ofPatrol z1 z2 s) (fun p7 => some p7)))))
set_option maxRecDepth 100000 in
set_option maxHeartbeats 4000000 in
theorem bModel_patrol {G : GT} {E : ET} {o : Nat} {s mi : MI} {z1 : Int} {z2 : Int} {w : Int} (g : gL E o)  (h : fModel_patrol z1 z2 s = some w) : cN G yX10_patrol cX10_patrol 3 (some .int) 2 43 [.inr o, .inl z1, .inl z2] E (sm_gl o 10 s mi) (some (.inl w), E, (sm_gl o 10 s mi)) := by
  have hN1 := g.1
  have hN2 := g.2.1
  unfold fModel_patrol at h
  refine sm_meth (by decide +kernel) (Nat.le_of_ble_eq_true rfl) ?_
  show sM (xModel_patrol G) 0 [some (.inr o), some (.inl z1), some (.inl z2)] [] E (sm_gl o 10 s mi) _
  refine sm_aload_n dX10_patrol_0 rfl ?_
  refine sm_iload_n dX10_patrol_1 rfl ?_
  obtain ⟨p1, hp2, h⟩ := sl_bind h
  have hc3 := bModel_isPatrol (G := G) (E := E) (o := o) (s := s) (mi := mi) g  hp2
  refine sc_callV1 (avs := [.inl z1]) (st := []) lk_RX10_107 rfl vf_X10_isPatrol hc3 ⟨(Nat.le_of_ble_eq_true rfl), (Nat.le_of_ble_eq_true rfl)⟩ ⟨rfl, (Nat.le_of_ble_eq_true rfl)⟩ g.2.2.1 (by omega) rfl dX10_patrol_2 ?_
  refine sm_if_ne 12 dX10_patrol_5 rfl (fun c11 => ?_) (fun c11 => ?_)
  · rw [if_neg c11] at h
    refine sm_iload_n dX10_patrol_12 rfl ?_
    refine sm_iconst dX10_patrol_13 ?_
    refine sm_bipush dX10_patrol_14 rfl ?_
    obtain ⟨p4, hp5, h⟩ := sl_bind h
    have hc6 := bModel_in (G := G) (E := E) (mi := (sm_gl o 10 s mi))   hp5
    refine sc_callS1 (avs := [.inl z2, .inl 0, .inl 11]) (st := []) lk_RX10_48 rfl sf_X10_in hc6 ⟨(Nat.le_of_ble_eq_true rfl), (Nat.le_of_ble_eq_true rfl)⟩ ⟨rfl, (Nat.le_of_ble_eq_true rfl)⟩ rfl dX10_patrol_16 ?_
    refine sm_if_ne 27 dX10_patrol_19 rfl (fun c10 => ?_) (fun c10 => ?_)
    · rw [if_neg c10] at h
      refine sm_aload_n dX10_patrol_27 rfl ?_
      refine sm_iload_n dX10_patrol_28 rfl ?_
      refine sm_iload_n dX10_patrol_29 rfl ?_
      obtain ⟨p7, hp8, h⟩ := sl_bind h
      have hc9 := bModel_ofPatrol (G := G) (E := E) (o := o) (s := s) (mi := mi) g  hp8
      refine sc_callV1 (avs := [.inl z1, .inl z2]) (st := []) lk_RX10_88 rfl vf_X10_ofPatrol hc9 ⟨(Nat.le_of_ble_eq_true rfl), (Nat.le_of_ble_eq_true rfl)⟩ ⟨rfl, (Nat.le_of_ble_eq_true rfl)⟩ g.2.2.1 (by omega) rfl dX10_patrol_30 ?_
      cases h
      exact sm_ireturn dX10_patrol_33 (Or.inl rfl)
    · rw [if_pos c10] at h
      refine sm_bipush dX10_patrol_22 rfl ?_
      refine sm_goto 33 dX10_patrol_24 rfl ?_
      cases h
      exact sm_ireturn dX10_patrol_33 (Or.inl rfl)
  · rw [if_pos c11] at h
    refine sm_iconst dX10_patrol_8 ?_
    refine sm_goto 33 dX10_patrol_9 rfl ?_
    cases h
    exact sm_ireturn dX10_patrol_33 (Or.inl rfl)
abbrev xModel_garage (G : GT) : XT := (G, yX10_garage.cls, cX10_garage, 3, (some .int), decide (yX10_garage.name = "<init>"), 2, 45)
def fModel_garage_j47 (y1 : Int) (y2 : Int) (s : MI) : Option (Int) :=
  Option.bind (fModel_ofGarage y1 y2 s) (fun p7 => some p7)
set_option maxRecDepth 100000 in
set_option maxHeartbeats 4000000 in
theorem bModel_garage_j47 {G : GT} {E : ET} {o : Nat} {s mi : MI} {y1 : Int} {y2 : Int} {w : Int} (g : gL E o)  (h : fModel_garage_j47 y1 y2 s = some w) : sM (xModel_garage G) 47 [none, none, none] [.inl y2, .inl y1, .inr o] E (sm_gl o 10 s mi) (some (.inl w), E, (sm_gl o 10 s mi)) := by
  have hN1 := g.1
  have hN2 := g.2.1
  unfold fModel_garage_j47 at h
  obtain ⟨p7, hp8, h⟩ := sl_bind h
  have hc9 := bModel_ofGarage (G := G) (E := E) (o := o) (s := s) (mi := mi) g  hp8
  refine sc_callV1 (avs := [.inl y1, .inl y2]) (st := []) lk_RX10_117 rfl vf_X10_ofGarage hc9 ⟨(Nat.le_of_ble_eq_true rfl), (Nat.le_of_ble_eq_true rfl)⟩ ⟨rfl, (Nat.le_of_ble_eq_true rfl)⟩ g.2.2.1 (by omega) rfl dX10_garage_47 ?_
  cases h
  exact sm_ireturn dX10_garage_50 (Or.inl rfl)
def fModel_garage (z1 : Int) (z2 : Int) (s : MI) : Option (Int) :=
  Option.bind (fModel_isGarage z1 s) (fun p1 => (if sm_w p1 = 0 then some (-1) else Option.bind (fModel_in z2 0 4) (fun p4 => (if sm_w p4 = 0 then some (-2) else (if sm_w z2 = 3 then Option.bind (fModel_underWay z1 s) (fun p11 => some p11) else (if sm_w z2 = 4 then fModel_garage_j47 z1 3 s else fModel_garage_j47 z1 z2 s))))))
set_option maxRecDepth 100000 in
set_option maxHeartbeats 4000000 in
theorem bModel_garage {G : GT} {E : ET} {o : Nat} {s mi : MI} {z1 : Int} {z2 : Int} {w : Int} (g : gL E o)  (h : fModel_garage z1 z2 s = some w) : cN G yX10_garage cX10_garage 3 (some .int) 2 45 [.inr o, .inl z1, .inl z2] E (sm_gl o 10 s mi) (some (.inl w), E, (sm_gl o 10 s mi)) := by
  have hN1 := g.1
  have hN2 := g.2.1
  unfold fModel_garage at h
  refine sm_meth (by decide +kernel) (Nat.le_of_ble_eq_true rfl) ?_
  show sM (xModel_garage G) 0 [some (.inr o), some (.inl z1), some (.inl z2)] [] E (sm_gl o 10 s mi) _
  refine sm_aload_n dX10_garage_0 rfl ?_
  refine sm_iload_n dX10_garage_1 rfl ?_
  obtain ⟨p1, hp2, h⟩ := sl_bind h
  have hc3 := bModel_isGarage (G := G) (E := E) (o := o) (s := s) (mi := mi) g  hp2
  refine sc_callV1 (avs := [.inl z1]) (st := []) lk_RX10_114 rfl vf_X10_isGarage hc3 ⟨(Nat.le_of_ble_eq_true rfl), (Nat.le_of_ble_eq_true rfl)⟩ ⟨rfl, (Nat.le_of_ble_eq_true rfl)⟩ g.2.2.1 (by omega) rfl dX10_garage_2 ?_
  refine sm_if_ne 10 dX10_garage_5 rfl (fun c16 => ?_) (fun c16 => ?_)
  · rw [if_neg c16] at h
    refine sm_iload_n dX10_garage_10 rfl ?_
    refine sm_iconst dX10_garage_11 ?_
    refine sm_iconst dX10_garage_12 ?_
    obtain ⟨p4, hp5, h⟩ := sl_bind h
    have hc6 := bModel_in (G := G) (E := E) (mi := (sm_gl o 10 s mi))   hp5
    refine sc_callS1 (avs := [.inl z2, .inl 0, .inl 4]) (st := []) lk_RX10_48 rfl sf_X10_in hc6 ⟨(Nat.le_of_ble_eq_true rfl), (Nat.le_of_ble_eq_true rfl)⟩ ⟨rfl, (Nat.le_of_ble_eq_true rfl)⟩ rfl dX10_garage_13 ?_
    refine sm_if_ne 22 dX10_garage_16 rfl (fun c15 => ?_) (fun c15 => ?_)
    · rw [if_neg c15] at h
      refine sm_iload_n dX10_garage_22 rfl ?_
      refine sm_iconst dX10_garage_23 ?_
      refine sc_icmp_ne (X' := sm_w z2) (Y' := 3) 35 dX10_garage_24 rfl rfl (by decide) (fun c14 => ?_) (fun c14 => ?_)
      · rw [if_neg c14] at h
        refine sm_aload_n dX10_garage_35 rfl ?_
        refine sm_iload_n dX10_garage_36 rfl ?_
        refine sm_iload_n dX10_garage_37 rfl ?_
        refine sm_iconst dX10_garage_38 ?_
        refine sc_icmp_ne (X' := sm_w z2) (Y' := 4) 46 dX10_garage_39 rfl rfl (by decide) (fun c10 => ?_) (fun c10 => ?_)
        · rw [if_neg c10] at h
          refine sm_iload_n dX10_garage_46 rfl ?_
          exact sm_less (lv' := [none, none, none]) trivial (bModel_garage_j47 g   h)
        · rw [if_pos c10] at h
          refine sm_iconst dX10_garage_42 ?_
          refine sm_goto 47 dX10_garage_43 rfl ?_
          exact sm_less (lv' := [none, none, none]) trivial (bModel_garage_j47 g   h)
      · rw [if_pos c14] at h
        refine sm_aload_n dX10_garage_27 rfl ?_
        refine sm_iload_n dX10_garage_28 rfl ?_
        obtain ⟨p11, hp12, h⟩ := sl_bind h
        have hc13 := bModel_underWay (G := G) (E := E) (o := o) (s := s) (mi := mi) g  hp12
        refine sc_callV1 (avs := [.inl z1]) (st := []) lk_RX10_120 rfl vf_X10_underWay hc13 ⟨(Nat.le_of_ble_eq_true rfl), (Nat.le_of_ble_eq_true rfl)⟩ ⟨rfl, (Nat.le_of_ble_eq_true rfl)⟩ g.2.2.1 (by omega) rfl dX10_garage_29 ?_
        refine sm_goto 50 dX10_garage_32 rfl ?_
        cases h
        exact sm_ireturn dX10_garage_50 (Or.inl rfl)
    · rw [if_pos c15] at h
      refine sm_bipush dX10_garage_19 rfl ?_
      cases h
      exact sm_ireturn dX10_garage_21 (Or.inl rfl)
  · rw [if_pos c16] at h
    refine sm_iconst dX10_garage_8 ?_
    cases h
    exact sm_ireturn dX10_garage_9 (Or.inl rfl)
abbrev xModel_callOf (G : GT) : XT := (G, yX10_callOf.cls, cX10_callOf, 3, (some .int), decide (yX10_callOf.name = "<init>"), 2, 44)
def fModel_callOf (z1 : Int) (z2 : Int) (s : MI) : Option (Int) :=
  Option.bind (fModel_isCall z1 s) (fun p1 => (if sm_w p1 = 0 then some (-1) else Option.bind (fModel_in z2 0 12) (fun p4 => (if sm_w p4 = 0 then some (-2) else (if sm_w z2 = 7 then Option.bind (fModel_waitedOf z1 s) (fun p7 => some p7) else (if sm_w z2 = 11 then Option.bind (fModel_ofCall z1 5 s) (fun p11 => (if sm_w p11 ≤ 1 then Option.bind (fModel_rest z1 s) (fun p14 => some (p14 + 10000)) else some (-5))) else (if sm_w z2 = 12 then Option.bind (fModel_ofCall z1 11 s) (fun p19 => some p19) else Option.bind (fModel_ofCall z1 z2 s) (fun p23 => some p23))))))))
set_option maxRecDepth 100000 in
set_option maxHeartbeats 4000000 in
theorem bModel_callOf {G : GT} {E : ET} {o : Nat} {s mi : MI} {z1 : Int} {z2 : Int} {w : Int} (g : gL E o)  (h : fModel_callOf z1 z2 s = some w) : cN G yX10_callOf cX10_callOf 3 (some .int) 2 44 [.inr o, .inl z1, .inl z2] E (sm_gl o 10 s mi) (some (.inl w), E, (sm_gl o 10 s mi)) := by
  have hN1 := g.1
  have hN2 := g.2.1
  unfold fModel_callOf at h
  refine sm_meth (by decide +kernel) (Nat.le_of_ble_eq_true rfl) ?_
  show sM (xModel_callOf G) 0 [some (.inr o), some (.inl z1), some (.inl z2)] [] E (sm_gl o 10 s mi) _
  refine sm_aload_n dX10_callOf_0 rfl ?_
  refine sm_iload_n dX10_callOf_1 rfl ?_
  obtain ⟨p1, hp2, h⟩ := sl_bind h
  have hc3 := bModel_isCall (G := G) (E := E) (o := o) (s := s) (mi := mi) g  hp2
  refine sc_callV1 (avs := [.inl z1]) (st := []) lk_RX10_101 rfl vf_X10_isCall hc3 ⟨(Nat.le_of_ble_eq_true rfl), (Nat.le_of_ble_eq_true rfl)⟩ ⟨rfl, (Nat.le_of_ble_eq_true rfl)⟩ g.2.2.1 (by omega) rfl dX10_callOf_2 ?_
  refine sm_if_ne 10 dX10_callOf_5 rfl (fun c27 => ?_) (fun c27 => ?_)
  · rw [if_neg c27] at h
    refine sm_iload_n dX10_callOf_10 rfl ?_
    refine sm_iconst dX10_callOf_11 ?_
    refine sm_bipush dX10_callOf_12 rfl ?_
    obtain ⟨p4, hp5, h⟩ := sl_bind h
    have hc6 := bModel_in (G := G) (E := E) (mi := (sm_gl o 10 s mi))   hp5
    refine sc_callS1 (avs := [.inl z2, .inl 0, .inl 12]) (st := []) lk_RX10_48 rfl sf_X10_in hc6 ⟨(Nat.le_of_ble_eq_true rfl), (Nat.le_of_ble_eq_true rfl)⟩ ⟨rfl, (Nat.le_of_ble_eq_true rfl)⟩ rfl dX10_callOf_14 ?_
    refine sm_if_ne 23 dX10_callOf_17 rfl (fun c26 => ?_) (fun c26 => ?_)
    · rw [if_neg c26] at h
      refine sm_iload_n dX10_callOf_23 rfl ?_
      by_cases c10 : sm_w z2 = 7
      · rw [if_pos c10] at h
        refine sm_lookup dX10_callOf_24 60 (by decide) (by rw [c10]; rfl) ?_
        refine sm_aload_n dX10_callOf_60 rfl ?_
        refine sm_iload_n dX10_callOf_61 rfl ?_
        obtain ⟨p7, hp8, h⟩ := sl_bind h
        have hc9 := bModel_waitedOf (G := G) (E := E) (o := o) (s := s) (mi := mi) g  hp8
        refine sc_callV1 (avs := [.inl z1]) (st := []) lk_RX10_104 rfl vf_X10_waitedOf hc9 ⟨(Nat.le_of_ble_eq_true rfl), (Nat.le_of_ble_eq_true rfl)⟩ ⟨rfl, (Nat.le_of_ble_eq_true rfl)⟩ g.2.2.1 (by omega) rfl dX10_callOf_62 ?_
        cases h
        exact sm_ireturn dX10_callOf_65 (Or.inl rfl)
      · rw [if_neg c10] at h
        by_cases c18 : sm_w z2 = 11
        · rw [if_pos c18] at h
          refine sm_lookup dX10_callOf_24 66 (by decide) (by rw [c18]; rfl) ?_
          refine sm_aload_n dX10_callOf_66 rfl ?_
          refine sm_iload_n dX10_callOf_67 rfl ?_
          refine sm_iconst dX10_callOf_68 ?_
          obtain ⟨p11, hp12, h⟩ := sl_bind h
          have hc13 := bModel_ofCall (G := G) (E := E) (o := o) (s := s) (mi := mi) g  hp12
          refine sc_callV1 (avs := [.inl z1, .inl 5]) (st := []) lk_RX10_72 rfl vf_X10_ofCall hc13 ⟨(Nat.le_of_ble_eq_true rfl), (Nat.le_of_ble_eq_true rfl)⟩ ⟨rfl, (Nat.le_of_ble_eq_true rfl)⟩ g.2.2.1 (by omega) rfl dX10_callOf_69 ?_
          refine sm_iconst dX10_callOf_72 ?_
          refine sc_icmp_le (X' := sm_w p11) (Y' := 1) 81 dX10_callOf_73 rfl rfl (by decide) (fun c17 => ?_) (fun c17 => ?_)
          · rw [if_pos c17] at h
            refine sm_aload_n dX10_callOf_81 rfl ?_
            refine sm_iload_n dX10_callOf_82 rfl ?_
            obtain ⟨p14, hp15, h⟩ := sl_bind h
            have hc16 := bModel_rest (G := G) (E := E) (o := o) (s := s) (mi := mi) g  hp15
            refine sc_callV1 (avs := [.inl z1]) (st := []) lk_RX10_138 rfl vf_X10_rest hc16 ⟨(Nat.le_of_ble_eq_true rfl), (Nat.le_of_ble_eq_true rfl)⟩ ⟨rfl, (Nat.le_of_ble_eq_true rfl)⟩ g.2.2.1 (by omega) rfl dX10_callOf_83 ?_
            refine sm_sipush dX10_callOf_86 rfl ?_
            refine sm_iadd dX10_callOf_89 ?_
            cases h
            exact sm_ireturn dX10_callOf_90 (Or.inl rfl)
          · rw [if_neg c17] at h
            refine sm_bipush dX10_callOf_76 rfl ?_
            refine sm_goto 90 dX10_callOf_78 rfl ?_
            cases h
            exact sm_ireturn dX10_callOf_90 (Or.inl rfl)
        · rw [if_neg c18] at h
          by_cases c22 : sm_w z2 = 12
          · rw [if_pos c22] at h
            refine sm_lookup dX10_callOf_24 91 (by decide) (by rw [c22]; rfl) ?_
            refine sm_aload_n dX10_callOf_91 rfl ?_
            refine sm_iload_n dX10_callOf_92 rfl ?_
            refine sm_bipush dX10_callOf_93 rfl ?_
            obtain ⟨p19, hp20, h⟩ := sl_bind h
            have hc21 := bModel_ofCall (G := G) (E := E) (o := o) (s := s) (mi := mi) g  hp20
            refine sc_callV1 (avs := [.inl z1, .inl 11]) (st := []) lk_RX10_72 rfl vf_X10_ofCall hc21 ⟨(Nat.le_of_ble_eq_true rfl), (Nat.le_of_ble_eq_true rfl)⟩ ⟨rfl, (Nat.le_of_ble_eq_true rfl)⟩ g.2.2.1 (by omega) rfl dX10_callOf_95 ?_
            cases h
            exact sm_ireturn dX10_callOf_98 (Or.inl rfl)
          · rw [if_neg c22] at h
            refine sm_lookup dX10_callOf_24 99 (by decide) (by simp [Op.lookupswitch.offset_cons, Op.lookupswitch.offset, Ne.symm c10, c10, Ne.symm c18, c18, Ne.symm c22, c22]) ?_
            refine sm_aload_n dX10_callOf_99 rfl ?_
            refine sm_iload_n dX10_callOf_100 rfl ?_
            refine sm_iload_n dX10_callOf_101 rfl ?_
            obtain ⟨p23, hp24, h⟩ := sl_bind h
            have hc25 := bModel_ofCall (G := G) (E := E) (o := o) (s := s) (mi := mi) g  hp24
            refine sc_callV1 (avs := [.inl z1, .inl z2]) (st := []) lk_RX10_72 rfl vf_X10_ofCall hc25 ⟨(Nat.le_of_ble_eq_true rfl), (Nat.le_of_ble_eq_true rfl)⟩ ⟨rfl, (Nat.le_of_ble_eq_true rfl)⟩ g.2.2.1 (by omega) rfl dX10_callOf_102 ?_
            cases h
            exact sm_ireturn dX10_callOf_105 (Or.inl rfl)
    · rw [if_pos c26] at h
      refine sm_bipush dX10_callOf_20 rfl ?_
      cases h
      exact sm_ireturn dX10_callOf_22 (Or.inl rfl)
  · rw [if_pos c27] at h
    refine sm_iconst dX10_callOf_8 ?_
    cases h
    exact sm_ireturn dX10_callOf_9 (Or.inl rfl)
abbrev xModel_waiting (G : GT) : XT := (G, yX10_waiting.cls, cX10_waiting, 2, (some .int), decide (yX10_waiting.name = "<init>"), 4, 89)
def fModel_waiting (z1 : Int) (s : MI) : Option (Int × MI) :=
  (if 0 ≤ sm_w z1 then Option.bind (fModel_laysRow s) (fun p1 => (if sm_w (p1 0 11) ≤ sm_w z1 then some ((-5), p1) else if 0 ≤ sm_w z1 ∧ sm_w z1 < 40 then some ((p1 8 (sm_w z1).toNat), p1) else none)) else some ((-2), s))
set_option maxRecDepth 100000 in
set_option maxHeartbeats 4000000 in
theorem bModel_waiting {G : GT} {E : ET} {o : Nat} {s mi : MI} {z1 : Int} {w : Int × MI} (g : gL E o)  (h : fModel_waiting z1 s = some w) : cN G yX10_waiting cX10_waiting 2 (some .int) 4 89 [.inr o, .inl z1] E (sm_gl o 10 s mi) (some (.inl w.1), E, sm_gl o 10 w.2 mi) := by
  have hN1 := g.1
  have hN2 := g.2.1
  unfold fModel_waiting at h
  refine sm_meth (by decide +kernel) (Nat.le_of_ble_eq_true rfl) ?_
  show sM (xModel_waiting G) 0 [some (.inr o), some (.inl z1)] [] E (sm_gl o 10 s mi) _
  refine sm_iload_n dX10_waiting_0 rfl ?_
  refine sm_if_ge 7 dX10_waiting_1 rfl (fun c6 => ?_) (fun c6 => ?_)
  · rw [if_pos c6] at h
    refine sm_aload_n dX10_waiting_7 rfl ?_
    obtain ⟨p1, hp2, h⟩ := sl_bind h
    have hc3 := bModel_laysRow (G := G) (E := E) (o := o) (s := s) (mi := mi) g  hp2
    refine sc_callV0 (avs := []) (st := []) lk_RX10_154 rfl vf_X10_laysRow hc3 ⟨(Nat.le_of_ble_eq_true rfl), (Nat.le_of_ble_eq_true rfl)⟩ ⟨rfl, (Nat.le_of_ble_eq_true rfl)⟩ g.2.2.1 (by omega) rfl dX10_waiting_8 ?_
    refine sm_iload_n dX10_waiting_11 rfl ?_
    refine sm_aload_n dX10_waiting_12 rfl ?_
    refine sl_getI (D := 0) lf_RX10_141 fI_7_11 g.2.2.1 rfl (by omega) hN2 dX10_waiting_13 ?_
    refine sc_icmp_ge (X' := sm_w z1) (Y' := sm_w (p1 0 11)) 28 dX10_waiting_16 rfl rfl rfl (fun c5 => ?_) (fun c5 => ?_)
    · rw [if_pos c5] at h
      refine sm_bipush dX10_waiting_28 rfl ?_
      cases h
      exact sm_ireturn dX10_waiting_30 (Or.inl rfl)
    · rw [if_neg c5] at h
      refine sm_aload_n dX10_waiting_19 rfl ?_
      refine sm_getR lf_RX10_31 fR_7_10 g.2.2.1 (by omega) g.2.2.2.2.2.2.2.2.2.2.1.2 dX10_waiting_20 ?_
      refine sm_iload_n dX10_waiting_23 rfl ?_
      obtain ⟨q4, h⟩ := sl_guard h
      have xq4 := (sl_ix (m := 40) q4).2
      refine sl_ialdk (D := 8) (k := (sm_w z1).toNat) g.2.2.2.2.2.2.2.2.2.2.1.1 rfl (by omega) hN2 (sl_ix (m := 40) q4) dX10_waiting_24 ?_
      refine sm_goto 30 dX10_waiting_25 rfl ?_
      cases h
      exact sm_ireturn dX10_waiting_30 (Or.inl rfl)
  · rw [if_neg c6] at h
    refine sm_bipush dX10_waiting_4 rfl ?_
    cases h
    exact sm_ireturn dX10_waiting_6 (Or.inl rfl)
abbrev xModel_nearest (G : GT) : XT := (G, yX10_nearest.cls, cX10_nearest, 2, (some .int), decide (yX10_nearest.name = "<init>"), 3, 72)
def fModel_nearest (z1 : Int) (s : MI) : Option (Int) :=
  Option.bind (fModel_isCall z1 s) (fun p1 => (if sm_w p1 = 0 then some (-1) else Option.bind (fModel_waits z1 s) (fun p4 => (if sm_w p4 = 0 then some (-4) else Option.bind (fModel_nearestOf z1 s) (fun p7 => some p7)))))
set_option maxRecDepth 100000 in
set_option maxHeartbeats 4000000 in
theorem bModel_nearest {G : GT} {E : ET} {o : Nat} {s mi : MI} {z1 : Int} {w : Int} (g : gL E o)  (h : fModel_nearest z1 s = some w) : cN G yX10_nearest cX10_nearest 2 (some .int) 3 72 [.inr o, .inl z1] E (sm_gl o 10 s mi) (some (.inl w), E, (sm_gl o 10 s mi)) := by
  have hN1 := g.1
  have hN2 := g.2.1
  unfold fModel_nearest at h
  refine sm_meth (by decide +kernel) (Nat.le_of_ble_eq_true rfl) ?_
  show sM (xModel_nearest G) 0 [some (.inr o), some (.inl z1)] [] E (sm_gl o 10 s mi) _
  refine sm_aload_n dX10_nearest_0 rfl ?_
  refine sm_iload_n dX10_nearest_1 rfl ?_
  obtain ⟨p1, hp2, h⟩ := sl_bind h
  have hc3 := bModel_isCall (G := G) (E := E) (o := o) (s := s) (mi := mi) g  hp2
  refine sc_callV1 (avs := [.inl z1]) (st := []) lk_RX10_101 rfl vf_X10_isCall hc3 ⟨(Nat.le_of_ble_eq_true rfl), (Nat.le_of_ble_eq_true rfl)⟩ ⟨rfl, (Nat.le_of_ble_eq_true rfl)⟩ g.2.2.1 (by omega) rfl dX10_nearest_2 ?_
  refine sm_if_ne 12 dX10_nearest_5 rfl (fun c11 => ?_) (fun c11 => ?_)
  · rw [if_neg c11] at h
    refine sm_aload_n dX10_nearest_12 rfl ?_
    refine sm_iload_n dX10_nearest_13 rfl ?_
    obtain ⟨p4, hp5, h⟩ := sl_bind h
    have hc6 := bModel_waits (G := G) (E := E) (o := o) (s := s) (mi := mi) g  hp5
    refine sc_callV1 (avs := [.inl z1]) (st := []) lk_RX10_144 rfl vf_X10_waits hc6 ⟨(Nat.le_of_ble_eq_true rfl), (Nat.le_of_ble_eq_true rfl)⟩ ⟨rfl, (Nat.le_of_ble_eq_true rfl)⟩ g.2.2.1 (by omega) rfl dX10_nearest_14 ?_
    refine sm_if_ne 25 dX10_nearest_17 rfl (fun c10 => ?_) (fun c10 => ?_)
    · rw [if_neg c10] at h
      refine sm_aload_n dX10_nearest_25 rfl ?_
      refine sm_iload_n dX10_nearest_26 rfl ?_
      obtain ⟨p7, hp8, h⟩ := sl_bind h
      have hc9 := bModel_nearestOf (G := G) (E := E) (o := o) (s := s) (mi := mi) g  hp8
      refine sc_callV1 (avs := [.inl z1]) (st := []) lk_RX10_157 rfl vf_X10_nearestOf hc9 ⟨(Nat.le_of_ble_eq_true rfl), (Nat.le_of_ble_eq_true rfl)⟩ ⟨rfl, (Nat.le_of_ble_eq_true rfl)⟩ g.2.2.1 (by omega) rfl dX10_nearest_27 ?_
      cases h
      exact sm_ireturn dX10_nearest_30 (Or.inl rfl)
    · rw [if_pos c10] at h
      refine sm_bipush dX10_nearest_20 rfl ?_
      refine sm_goto 30 dX10_nearest_22 rfl ?_
      cases h
      exact sm_ireturn dX10_nearest_30 (Or.inl rfl)
  · rw [if_pos c11] at h
    refine sm_iconst dX10_nearest_8 ?_
    refine sm_goto 30 dX10_nearest_9 rfl ?_
    cases h
    exact sm_ireturn dX10_nearest_30 (Or.inl rfl)
abbrev xModel_waitFor (G : GT) : XT := (G, yX10_waitFor.cls, cX10_waitFor, 3, (some .int), decide (yX10_waitFor.name = "<init>"), 7, 172)
abbrev qModel_waitFor_l38 (G : GT) (E : ET) (o : Nat) (mi : MI) (z1 : Int) (r : RT) (t : Int × MI) : Prop := sM (xModel_waitFor G) 38 [some (.inr o), some (.inl z1), some (.inl t.1)] [] E (sm_gl o 10 t.2 mi) r
abbrev kModel_waitFor_l38 (G : GT) (E : ET) (o : Nat) (mi : MI) (z1 : Int) (r : RT) (x : MI) : Prop := sM (xModel_waitFor G) 79 [some (.inr o), some (.inl z1), none] [] E (sm_gl o 10 x mi) r
def fModel_waitFor_l38 (z1 : Int) (z2 : Int) (s : MI) : Option ((Int × MI) ⊕ (MI)) :=
  (if 240 ≤ sm_w z2 then some (.inr s) else (if 2880 ≤ sm_w (s 1 0) then some (.inr s) else Option.bind (fModel_ofCall z1 8 s) (fun p10 => (if sm_w p10 = (-5) then Option.bind (fModel_passes s) (fun p13 => some (.inl ((z2 + 1), p13))) else some (.inr s)))))
set_option maxRecDepth 100000 in
set_option maxHeartbeats 4000000 in
theorem bModel_waitFor_l38 {G : GT} {E : ET} {o : Nat} {s mi : MI} {z1 : Int} {z2 : Int} {r : RT} {w : (Int × MI) ⊕ (MI)} (g : gL E o)  (h : fModel_waitFor_l38 z1 z2 s = some w) (hK : Sum.elim (qModel_waitFor_l38 G E o mi z1 r) (kModel_waitFor_l38 G E o mi z1 r) w) : qModel_waitFor_l38 G E o mi z1 r (z2, s) := by
  have hN1 := g.1
  have hN2 := g.2.1
  unfold fModel_waitFor_l38 at h
  show sM (xModel_waitFor G) 38 [some (.inr o), some (.inl z1), some (.inl z2)] [] E (sm_gl o 10 s mi) r
  refine sm_iload_n dX10_waitFor_38 rfl ?_
  refine sm_sipush dX10_waitFor_39 rfl ?_
  refine sc_icmp_ge (X' := sm_w z2) (Y' := 240) 79 dX10_waitFor_42 rfl rfl (by decide) (fun c18 => ?_) (fun c18 => ?_)
  · rw [if_pos c18] at h
    cases h
    exact sm_less (lv' := [some (.inr o), some (.inl z1), none]) ⟨rfl, rfl, trivial⟩ hK
  · rw [if_neg c18] at h
    refine sm_aload_n dX10_waitFor_45 rfl ?_
    refine sm_getR lf_RX10_7 fR_7_0 g.2.2.1 (by omega) g.2.2.2.1.2 dX10_waitFor_46 ?_
    refine sm_iconst dX10_waitFor_49 ?_
    refine sl_ialdk (D := 1) (k := 0) g.2.2.2.1.1 rfl (by omega) hN2 ⟨by decide, by decide⟩ dX10_waitFor_50 ?_
    refine sm_sipush dX10_waitFor_51 rfl ?_
    refine sc_icmp_ge (X' := sm_w (s 1 0)) (Y' := 2880) 79 dX10_waitFor_54 rfl rfl (by decide) (fun c17 => ?_) (fun c17 => ?_)
    · rw [if_pos c17] at h
      cases h
      exact sm_less (lv' := [some (.inr o), some (.inl z1), none]) ⟨rfl, rfl, trivial⟩ hK
    · rw [if_neg c17] at h
      refine sm_aload_n dX10_waitFor_57 rfl ?_
      refine sm_iload_n dX10_waitFor_58 rfl ?_
      refine sm_bipush dX10_waitFor_59 rfl ?_
      obtain ⟨p10, hp11, h⟩ := sl_bind h
      have hc12 := bModel_ofCall (G := G) (E := E) (o := o) (s := s) (mi := mi) g  hp11
      refine sc_callV1 (avs := [.inl z1, .inl 8]) (st := []) lk_RX10_72 rfl vf_X10_ofCall hc12 ⟨(Nat.le_of_ble_eq_true rfl), (Nat.le_of_ble_eq_true rfl)⟩ ⟨rfl, (Nat.le_of_ble_eq_true rfl)⟩ g.2.2.1 (by omega) rfl dX10_waitFor_61 ?_
      refine sm_bipush dX10_waitFor_64 rfl ?_
      refine sc_icmp_ne (X' := sm_w p10) (Y' := (-5)) 79 dX10_waitFor_66 rfl rfl (by decide) (fun c16 => ?_) (fun c16 => ?_)
      · rw [if_neg c16] at h
        cases h
        exact sm_less (lv' := [some (.inr o), some (.inl z1), none]) ⟨rfl, rfl, trivial⟩ hK
      · rw [if_pos c16] at h
        refine sm_aload_n dX10_waitFor_69 rfl ?_
        obtain ⟨p13, hp14, h⟩ := sl_bind h
        have hc15 := bModel_passes (G := G) (E := E) (o := o) (s := s) (mi := mi) g  hp14
        refine sc_callV0 (avs := []) (st := []) lk_RX10_175 rfl vf_X10_passes hc15 ⟨(Nat.le_of_ble_eq_true rfl), (Nat.le_of_ble_eq_true rfl)⟩ ⟨rfl, (Nat.le_of_ble_eq_true rfl)⟩ g.2.2.1 (by omega) rfl dX10_waitFor_70 ?_
        refine sm_iinc dX10_waitFor_73 (Nat.le_of_ble_eq_true rfl) rfl ?_
        refine sm_goto 38 dX10_waitFor_76 rfl ?_
        cases h
        exact sm_less (lv' := [some (.inr o), some (.inl z1), some (.inl (z2 + 1))]) ⟨rfl, rfl, rfl, trivial⟩ hK
def fModel_waitFor_j103 (y0 : Int) (s : MI) : Option (Int × MI) :=
  Option.bind (fModel_copies 4 810 0 1 810 0 s) (fun p28 => some (y0, p28))
set_option maxRecDepth 100000 in
set_option maxHeartbeats 4000000 in
theorem bModel_waitFor_j103 {G : GT} {E : ET} {o : Nat} {s mi : MI} {y0 : Int} {w : Int × MI} (g : gL E o)  (h : fModel_waitFor_j103 y0 s = some w) : sM (xModel_waitFor G) 103 [some (.inr o), none, none] [.inl y0] E (sm_gl o 10 s mi) (some (.inl w.1), E, sm_gl o 10 w.2 mi) := by
  have hN1 := g.1
  have hN2 := g.2.1
  unfold fModel_waitFor_j103 at h
  refine sm_istore_n dX10_waitFor_103 (Nat.le_of_ble_eq_true rfl) ?_
  refine sm_aload_n dX10_waitFor_104 rfl ?_
  refine sm_getR lf_RX10_19 fR_7_5 g.2.2.1 (by omega) g.2.2.2.2.2.2.1.2 dX10_waitFor_105 ?_
  refine sm_iconst dX10_waitFor_108 ?_
  refine sm_aload_n dX10_waitFor_109 rfl ?_
  refine sm_getR lf_RX10_7 fR_7_0 g.2.2.1 (by omega) g.2.2.2.1.2 dX10_waitFor_110 ?_
  refine sm_iconst dX10_waitFor_113 ?_
  obtain ⟨p28, hp29, h⟩ := sl_bind h
  have hc30 := bModel_copies (G := G) (E := E) (o := o) (s := s) (mi := mi) (by omega) (by omega) g.2.2.2.2.2.2.1.1 (by omega) g.2.2.2.1.1 (by omega) hp29
  refine sc_callS0 (avs := [.inr (o + 4), .inl 0, .inr (o + 1), .inl 0]) (st := []) lk_RX10_44 rfl sf_X10_copies hc30 ⟨(Nat.le_of_ble_eq_true rfl), (Nat.le_of_ble_eq_true rfl)⟩ ⟨rfl, (Nat.le_of_ble_eq_true rfl)⟩ rfl dX10_waitFor_114 ?_
  refine sm_iload_n dX10_waitFor_117 rfl ?_
  cases h
  exact sm_ireturn dX10_waitFor_118 (Or.inl rfl)
def fModel_waitFor_j79 (z1 : Int) (s : MI) : Option (Int × MI) :=
  Option.bind (fModel_ofCall z1 8 s) (fun p22 => (if sm_w p22 = (-5) then fModel_waitFor_j103 (-5) s else Option.bind (fModel_ofCall z1 7 s) (fun p25 => fModel_waitFor_j103 p25 s)))
set_option maxRecDepth 100000 in
set_option maxHeartbeats 4000000 in
theorem bModel_waitFor_j79 {G : GT} {E : ET} {o : Nat} {s mi : MI} {z1 : Int} {w : Int × MI} (g : gL E o)  (h : fModel_waitFor_j79 z1 s = some w) : sM (xModel_waitFor G) 79 [some (.inr o), some (.inl z1), none] [] E (sm_gl o 10 s mi) (some (.inl w.1), E, sm_gl o 10 w.2 mi) := by
  have hN1 := g.1
  have hN2 := g.2.1
  unfold fModel_waitFor_j79 at h
  refine sm_aload_n dX10_waitFor_79 rfl ?_
  refine sm_iload_n dX10_waitFor_80 rfl ?_
  refine sm_bipush dX10_waitFor_81 rfl ?_
  obtain ⟨p22, hp23, h⟩ := sl_bind h
  have hc24 := bModel_ofCall (G := G) (E := E) (o := o) (s := s) (mi := mi) g  hp23
  refine sc_callV1 (avs := [.inl z1, .inl 8]) (st := []) lk_RX10_72 rfl vf_X10_ofCall hc24 ⟨(Nat.le_of_ble_eq_true rfl), (Nat.le_of_ble_eq_true rfl)⟩ ⟨rfl, (Nat.le_of_ble_eq_true rfl)⟩ g.2.2.1 (by omega) rfl dX10_waitFor_83 ?_
  refine sm_bipush dX10_waitFor_86 rfl ?_
  refine sc_icmp_ne (X' := sm_w p22) (Y' := (-5)) 96 dX10_waitFor_88 rfl rfl (by decide) (fun c31 => ?_) (fun c31 => ?_)
  · rw [if_neg c31] at h
    refine sm_aload_n dX10_waitFor_96 rfl ?_
    refine sm_iload_n dX10_waitFor_97 rfl ?_
    refine sm_bipush dX10_waitFor_98 rfl ?_
    obtain ⟨p25, hp26, h⟩ := sl_bind h
    have hc27 := bModel_ofCall (G := G) (E := E) (o := o) (s := s) (mi := mi) g  hp26
    refine sc_callV1 (avs := [.inl z1, .inl 7]) (st := []) lk_RX10_72 rfl vf_X10_ofCall hc27 ⟨(Nat.le_of_ble_eq_true rfl), (Nat.le_of_ble_eq_true rfl)⟩ ⟨rfl, (Nat.le_of_ble_eq_true rfl)⟩ g.2.2.1 (by omega) rfl dX10_waitFor_100 ?_
    exact sm_less (lv' := [some (.inr o), none, none]) ⟨rfl, trivial⟩ (bModel_waitFor_j103 g   h)
  · rw [if_pos c31] at h
    refine sm_bipush dX10_waitFor_91 rfl ?_
    refine sm_goto 103 dX10_waitFor_93 rfl ?_
    exact sm_less (lv' := [some (.inr o), none, none]) ⟨rfl, trivial⟩ (bModel_waitFor_j103 g   h)
def fModel_waitFor (z1 : Int) (s : MI) : Option (Int × MI) :=
  Option.bind (fModel_isCall z1 s) (fun p1 => (if sm_w p1 = 0 then some ((-1), s) else Option.bind (fModel_ofCall z1 5 s) (fun p4 => (if sm_w p4 ≤ 1 then Option.bind (fModel_copies 1 810 0 4 810 0 s) (fun p7 => Option.bind (sl_it (fun (t : Int × MI) => fModel_waitFor_l38 z1 t.1 t.2) sl_fu (0, p7)) (fun x21 => fModel_waitFor_j79 z1 x21)) else some ((-4), s)))))
set_option maxRecDepth 100000 in
set_option maxHeartbeats 4000000 in
theorem bModel_waitFor {G : GT} {E : ET} {o : Nat} {s mi : MI} {z1 : Int} {w : Int × MI} (g : gL E o)  (h : fModel_waitFor z1 s = some w) : cN G yX10_waitFor cX10_waitFor 3 (some .int) 7 172 [.inr o, .inl z1] E (sm_gl o 10 s mi) (some (.inl w.1), E, sm_gl o 10 w.2 mi) := by
  have hN1 := g.1
  have hN2 := g.2.1
  unfold fModel_waitFor at h
  refine sm_meth (by decide +kernel) (Nat.le_of_ble_eq_true rfl) ?_
  show sM (xModel_waitFor G) 0 [some (.inr o), some (.inl z1), none] [] E (sm_gl o 10 s mi) _
  refine sm_aload_n dX10_waitFor_0 rfl ?_
  refine sm_iload_n dX10_waitFor_1 rfl ?_
  obtain ⟨p1, hp2, h⟩ := sl_bind h
  have hc3 := bModel_isCall (G := G) (E := E) (o := o) (s := s) (mi := mi) g  hp2
  refine sc_callV1 (avs := [.inl z1]) (st := []) lk_RX10_101 rfl vf_X10_isCall hc3 ⟨(Nat.le_of_ble_eq_true rfl), (Nat.le_of_ble_eq_true rfl)⟩ ⟨rfl, (Nat.le_of_ble_eq_true rfl)⟩ g.2.2.1 (by omega) rfl dX10_waitFor_2 ?_
  refine sm_if_ne 10 dX10_waitFor_5 rfl (fun c33 => ?_) (fun c33 => ?_)
  · rw [if_neg c33] at h
    refine sm_aload_n dX10_waitFor_10 rfl ?_
    refine sm_iload_n dX10_waitFor_11 rfl ?_
    refine sm_iconst dX10_waitFor_12 ?_
    obtain ⟨p4, hp5, h⟩ := sl_bind h
    have hc6 := bModel_ofCall (G := G) (E := E) (o := o) (s := s) (mi := mi) g  hp5
    refine sc_callV1 (avs := [.inl z1, .inl 5]) (st := []) lk_RX10_72 rfl vf_X10_ofCall hc6 ⟨(Nat.le_of_ble_eq_true rfl), (Nat.le_of_ble_eq_true rfl)⟩ ⟨rfl, (Nat.le_of_ble_eq_true rfl)⟩ g.2.2.1 (by omega) rfl dX10_waitFor_13 ?_
    refine sm_iconst dX10_waitFor_16 ?_
    refine sc_icmp_le (X' := sm_w p4) (Y' := 1) 23 dX10_waitFor_17 rfl rfl (by decide) (fun c32 => ?_) (fun c32 => ?_)
    · rw [if_pos c32] at h
      refine sm_aload_n dX10_waitFor_23 rfl ?_
      refine sm_getR lf_RX10_7 fR_7_0 g.2.2.1 (by omega) g.2.2.2.1.2 dX10_waitFor_24 ?_
      refine sm_iconst dX10_waitFor_27 ?_
      refine sm_aload_n dX10_waitFor_28 rfl ?_
      refine sm_getR lf_RX10_19 fR_7_5 g.2.2.1 (by omega) g.2.2.2.2.2.2.1.2 dX10_waitFor_29 ?_
      refine sm_iconst dX10_waitFor_32 ?_
      obtain ⟨p7, hp8, h⟩ := sl_bind h
      have hc9 := bModel_copies (G := G) (E := E) (o := o) (s := s) (mi := mi) (by omega) (by omega) g.2.2.2.1.1 (by omega) g.2.2.2.2.2.2.1.1 (by omega) hp8
      refine sc_callS0 (avs := [.inr (o + 1), .inl 0, .inr (o + 4), .inl 0]) (st := []) lk_RX10_44 rfl sf_X10_copies hc9 ⟨(Nat.le_of_ble_eq_true rfl), (Nat.le_of_ble_eq_true rfl)⟩ ⟨rfl, (Nat.le_of_ble_eq_true rfl)⟩ rfl dX10_waitFor_33 ?_
      refine sm_iconst dX10_waitFor_36 ?_
      refine sm_istore_n dX10_waitFor_37 (Nat.le_of_ble_eq_true rfl) ?_
      obtain ⟨x21, hy20, h⟩ := sl_bind h
      refine sm_less (lv' := [some (.inr o), some (.inl z1), some (.inl 0)]) ⟨rfl, rfl, rfl, trivial⟩ (sl_itE (P := qModel_waitFor_l38 G E o mi z1 _) (K := kModel_waitFor_l38 G E o mi z1 _) (fun t q hq hk => bModel_waitFor_l38 g  hq hk) sl_fu _ x21 hy20 ?_)
      show sM (xModel_waitFor G) 79 [some (.inr o), some (.inl z1), none] [] E (sm_gl o 10 x21 mi) _
      exact sm_less (lv' := [some (.inr o), some (.inl z1), none]) ⟨rfl, rfl, trivial⟩ (bModel_waitFor_j79 g   h)
    · rw [if_neg c32] at h
      refine sm_bipush dX10_waitFor_20 rfl ?_
      cases h
      exact sm_ireturn dX10_waitFor_22 (Or.inl rfl)
  · rw [if_pos c33] at h
    refine sm_iconst dX10_waitFor_8 ?_
    cases h
    exact sm_ireturn dX10_waitFor_9 (Or.inl rfl)
abbrev xModel_count (G : GT) : XT := (G, yX10_count.cls, cX10_count, 4, (some .int), decide (yX10_count.name = "<init>"), 2, 45)
abbrev qModel_count_l45 (G : GT) (E : ET) (o : Nat) (mi : MI) (z1 : Int) (s : MI) (r : RT) (t : Int × Int) : Prop := sM (xModel_count G) 45 [some (.inr o), some (.inl z1), some (.inl t.1), some (.inl t.2)] [] E (sm_gl o 10 s mi) r
abbrev kModel_count_l45 (G : GT) (E : ET) (o : Nat) (mi : MI) (z1 : Int) (s : MI) (r : RT) (x : Int) : Prop := sM (xModel_count G) 70 [some (.inr o), some (.inl z1), some (.inl x), none] [] E (sm_gl o 10 s mi) r
def fModel_count_l45 (z1 : Int) (z2 : Int) (z3 : Int) (s : MI) : Option ((Int × Int) ⊕ (Int)) :=
  (if sm_w (s 1 9) ≤ sm_w z3 then some (.inr z2) else Option.bind (fModel_waitedOf z3 s) (fun p7 => some (.inl ((z2 + p7), (z3 + 1)))))
set_option maxRecDepth 100000 in
set_option maxHeartbeats 4000000 in
theorem bModel_count_l45 {G : GT} {E : ET} {o : Nat} {s mi : MI} {z1 : Int} {z2 : Int} {z3 : Int} {r : RT} {w : (Int × Int) ⊕ (Int)} (g : gL E o)  (h : fModel_count_l45 z1 z2 z3 s = some w) (hK : Sum.elim (qModel_count_l45 G E o mi z1 s r) (kModel_count_l45 G E o mi z1 s r) w) : qModel_count_l45 G E o mi z1 s r (z2, z3) := by
  have hN1 := g.1
  have hN2 := g.2.1
  unfold fModel_count_l45 at h
  show sM (xModel_count G) 45 [some (.inr o), some (.inl z1), some (.inl z2), some (.inl z3)] [] E (sm_gl o 10 s mi) r
  refine sm_iload_n dX10_count_45 rfl ?_
  refine sm_aload_n dX10_count_46 rfl ?_
  refine sm_getR lf_RX10_7 fR_7_0 g.2.2.1 (by omega) g.2.2.2.1.2 dX10_count_47 ?_
  refine sm_bipush dX10_count_50 rfl ?_
  refine sl_ialdk (D := 1) (k := 9) g.2.2.2.1.1 rfl (by omega) hN2 ⟨by decide, by decide⟩ dX10_count_52 ?_
  refine sc_icmp_ge (X' := sm_w z3) (Y' := sm_w (s 1 9)) 70 dX10_count_53 rfl rfl rfl (fun c10 => ?_) (fun c10 => ?_)
  · rw [if_pos c10] at h
    cases h
    exact sm_less (lv' := [some (.inr o), some (.inl z1), some (.inl z2), none]) ⟨rfl, rfl, rfl, trivial⟩ hK
  · rw [if_neg c10] at h
    refine sm_iload_n dX10_count_56 rfl ?_
    refine sm_aload_n dX10_count_57 rfl ?_
    refine sm_iload_n dX10_count_58 rfl ?_
    obtain ⟨p7, hp8, h⟩ := sl_bind h
    have hc9 := bModel_waitedOf (G := G) (E := E) (o := o) (s := s) (mi := mi) g  hp8
    refine sc_callV1 (avs := [.inl z3]) (st := [.inl z2]) lk_RX10_104 rfl vf_X10_waitedOf hc9 ⟨(Nat.le_of_ble_eq_true rfl), (Nat.le_of_ble_eq_true rfl)⟩ ⟨rfl, (Nat.le_of_ble_eq_true rfl)⟩ g.2.2.1 (by omega) rfl dX10_count_59 ?_
    refine sm_iadd dX10_count_62 ?_
    refine sm_istore_n dX10_count_63 (Nat.le_of_ble_eq_true rfl) ?_
    refine sm_iinc dX10_count_64 (Nat.le_of_ble_eq_true rfl) rfl ?_
    refine sm_goto 45 dX10_count_67 rfl ?_
    cases h
    exact sm_less (lv' := [some (.inr o), some (.inl z1), some (.inl (z2 + p7)), some (.inl (z3 + 1))]) ⟨rfl, rfl, rfl, rfl, trivial⟩ hK
def fModel_count (z1 : Int) (s : MI) : Option (Int) :=
  Option.bind (fModel_in z1 2 6) (fun p1 => (if sm_w p1 = 0 then Option.bind (fModel_in z1 7 14) (fun p4 => (if sm_w p4 = 0 then Option.bind (sl_it (fun (t : Int × Int) => fModel_count_l45 z1 t.1 t.2 s) sl_fu (0, 0)) (fun x13 => (if 0 ≤ sm_w z1 ∧ sm_w z1 ≤ 24 then (if sm_w z1 = 0 then if 0 ≤ sm_w z1 ∧ sm_w z1 < 810 then some (s 1 (sm_w z1).toNat) else none else (if sm_w z1 = 1 then if 0 ≤ sm_w z1 ∧ sm_w z1 < 810 then some (s 1 (sm_w z1).toNat) else none else (if sm_w z1 = 2 then some (-2) else (if sm_w z1 = 3 then some (-2) else (if sm_w z1 = 4 then some (-2) else (if sm_w z1 = 5 then some (-2) else (if sm_w z1 = 6 then some (-2) else (if sm_w z1 = 7 then some (-2) else (if sm_w z1 = 8 then some (-2) else (if sm_w z1 = 9 then some (-2) else (if sm_w z1 = 10 then some (-2) else (if sm_w z1 = 11 then some (-2) else (if sm_w z1 = 12 then some (-2) else (if sm_w z1 = 13 then some (-2) else (if sm_w z1 = 14 then some (-2) else (if sm_w z1 = 15 then some x13 else (if sm_w z1 = 16 then if 0 ≤ sm_w ((10 + z1) - 16) ∧ sm_w ((10 + z1) - 16) < 810 then some (s 1 (sm_w ((10 + z1) - 16)).toNat) else none else (if sm_w z1 = 17 then if 0 ≤ sm_w ((10 + z1) - 16) ∧ sm_w ((10 + z1) - 16) < 810 then some (s 1 (sm_w ((10 + z1) - 16)).toNat) else none else (if sm_w z1 = 18 then if 0 ≤ sm_w ((10 + z1) - 16) ∧ sm_w ((10 + z1) - 16) < 810 then some (s 1 (sm_w ((10 + z1) - 16)).toNat) else none else (if sm_w z1 = 19 then if 0 ≤ sm_w ((2 + z1) - 19) ∧ sm_w ((2 + z1) - 19) < 810 then some (s 1 (sm_w ((2 + z1) - 19)).toNat) else none else (if sm_w z1 = 20 then if 0 ≤ sm_w ((2 + z1) - 19) ∧ sm_w ((2 + z1) - 19) < 810 then some (s 1 (sm_w ((2 + z1) - 19)).toNat) else none else (if sm_w z1 = 21 then if 0 ≤ sm_w ((2 + z1) - 19) ∧ sm_w ((2 + z1) - 19) < 810 then some (s 1 (sm_w ((2 + z1) - 19)).toNat) else none else (if sm_w z1 = 22 then Option.bind (fModel_onDuty s) (fun p67 => some p67) else (if sm_w z1 = 23 then some (s 0 2) else some (s 0 7))))))))))))))))))))))))) else some (-2))) else Option.bind (fModel_manyIn (z1 - 7) s) (fun p75 => some p75))) else if 0 ≤ sm_w ((5 + z1) - 2) ∧ sm_w ((5 + z1) - 2) < 810 then some (s 1 (sm_w ((5 + z1) - 2)).toNat) else none))
set_option maxRecDepth 100000 in
set_option maxHeartbeats 4000000 in
theorem bModel_count {G : GT} {E : ET} {o : Nat} {s mi : MI} {z1 : Int} {w : Int} (g : gL E o)  (h : fModel_count z1 s = some w) : cN G yX10_count cX10_count 4 (some .int) 2 45 [.inr o, .inl z1] E (sm_gl o 10 s mi) (some (.inl w), E, (sm_gl o 10 s mi)) := by
  have hN1 := g.1
  have hN2 := g.2.1
  unfold fModel_count at h
  refine sm_meth (by decide +kernel) (Nat.le_of_ble_eq_true rfl) ?_
  show sM (xModel_count G) 0 [some (.inr o), some (.inl z1), none, none] [] E (sm_gl o 10 s mi) _
  refine sm_iload_n dX10_count_0 rfl ?_
  refine sm_iconst dX10_count_1 ?_
  refine sm_bipush dX10_count_2 rfl ?_
  obtain ⟨p1, hp2, h⟩ := sl_bind h
  have hc3 := bModel_in (G := G) (E := E) (mi := (sm_gl o 10 s mi))   hp2
  refine sc_callS1 (avs := [.inl z1, .inl 2, .inl 6]) (st := []) lk_RX10_48 rfl sf_X10_in hc3 ⟨(Nat.le_of_ble_eq_true rfl), (Nat.le_of_ble_eq_true rfl)⟩ ⟨rfl, (Nat.le_of_ble_eq_true rfl)⟩ rfl dX10_count_4 ?_
  refine sm_if_eq 21 dX10_count_7 rfl (fun c80 => ?_) (fun c80 => ?_)
  · rw [if_pos c80] at h
    refine sm_iload_n dX10_count_21 rfl ?_
    refine sm_bipush dX10_count_22 rfl ?_
    refine sm_bipush dX10_count_24 rfl ?_
    obtain ⟨p4, hp5, h⟩ := sl_bind h
    have hc6 := bModel_in (G := G) (E := E) (mi := (sm_gl o 10 s mi))   hp5
    refine sc_callS1 (avs := [.inl z1, .inl 7, .inl 14]) (st := []) lk_RX10_48 rfl sf_X10_in hc6 ⟨(Nat.le_of_ble_eq_true rfl), (Nat.le_of_ble_eq_true rfl)⟩ ⟨rfl, (Nat.le_of_ble_eq_true rfl)⟩ rfl dX10_count_26 ?_
    refine sm_if_eq 41 dX10_count_29 rfl (fun c78 => ?_) (fun c78 => ?_)
    · rw [if_pos c78] at h
      refine sm_iconst dX10_count_41 ?_
      refine sm_istore_n dX10_count_42 (Nat.le_of_ble_eq_true rfl) ?_
      refine sm_iconst dX10_count_43 ?_
      refine sm_istore_n dX10_count_44 (Nat.le_of_ble_eq_true rfl) ?_
      obtain ⟨x13, hy12, h⟩ := sl_bind h
      refine sm_less (lv' := [some (.inr o), some (.inl z1), some (.inl 0), some (.inl 0)]) ⟨rfl, rfl, rfl, rfl, trivial⟩ (sl_itE (P := qModel_count_l45 G E o mi z1 s _) (K := kModel_count_l45 G E o mi z1 s _) (fun t q hq hk => bModel_count_l45 g  hq hk) sl_fu _ x13 hy12 ?_)
      show sM (xModel_count G) 70 [some (.inr o), some (.inl z1), some (.inl x13), none] [] E (sm_gl o 10 s mi) _
      refine sm_iload_n dX10_count_70 rfl ?_
      by_cases c14 : 0 ≤ sm_w z1 ∧ sm_w z1 ≤ 24
      · rw [if_pos c14] at h
        by_cases c16 : sm_w z1 = 0
        · rw [if_pos c16] at h
          refine sm_table dX10_count_71 184 (Or.inr ⟨⟨by omega, by omega⟩, _, (by rw [c16]; rfl), rfl⟩) ?_
          refine sm_aload_n dX10_count_184 rfl ?_
          refine sm_getR lf_RX10_7 fR_7_0 g.2.2.1 (by omega) g.2.2.2.1.2 dX10_count_185 ?_
          refine sm_iload_n dX10_count_188 rfl ?_
          obtain ⟨q15, h⟩ := sl_guard h
          have xq15 := (sl_ix (m := 810) q15).2
          refine sl_ialdk (D := 1) (k := (sm_w z1).toNat) g.2.2.2.1.1 rfl (by omega) hN2 (sl_ix (m := 810) q15) dX10_count_189 ?_
          cases h
          exact sm_ireturn dX10_count_190 (Or.inl rfl)
        · rw [if_neg c16] at h
          have l17 := sl_nx c14.1 c16 (b := 1) rfl
          by_cases c19 : sm_w z1 = 1
          · rw [if_pos c19] at h
            refine sm_table dX10_count_71 184 (Or.inr ⟨⟨by omega, by omega⟩, _, (by rw [c19]; rfl), rfl⟩) ?_
            refine sm_aload_n dX10_count_184 rfl ?_
            refine sm_getR lf_RX10_7 fR_7_0 g.2.2.1 (by omega) g.2.2.2.1.2 dX10_count_185 ?_
            refine sm_iload_n dX10_count_188 rfl ?_
            obtain ⟨q18, h⟩ := sl_guard h
            have xq18 := (sl_ix (m := 810) q18).2
            refine sl_ialdk (D := 1) (k := (sm_w z1).toNat) g.2.2.2.1.1 rfl (by omega) hN2 (sl_ix (m := 810) q18) dX10_count_189 ?_
            cases h
            exact sm_ireturn dX10_count_190 (Or.inl rfl)
          · rw [if_neg c19] at h
            have l20 := sl_nx l17 c19 (b := 2) rfl
            by_cases c21 : sm_w z1 = 2
            · rw [if_pos c21] at h
              refine sm_table dX10_count_71 233 (Or.inr ⟨⟨by omega, by omega⟩, _, (by rw [c21]; rfl), rfl⟩) ?_
              refine sm_bipush dX10_count_233 rfl ?_
              cases h
              exact sm_ireturn dX10_count_235 (Or.inl rfl)
            · rw [if_neg c21] at h
              have l22 := sl_nx l20 c21 (b := 3) rfl
              by_cases c23 : sm_w z1 = 3
              · rw [if_pos c23] at h
                refine sm_table dX10_count_71 233 (Or.inr ⟨⟨by omega, by omega⟩, _, (by rw [c23]; rfl), rfl⟩) ?_
                refine sm_bipush dX10_count_233 rfl ?_
                cases h
                exact sm_ireturn dX10_count_235 (Or.inl rfl)
              · rw [if_neg c23] at h
                have l24 := sl_nx l22 c23 (b := 4) rfl
                by_cases c25 : sm_w z1 = 4
                · rw [if_pos c25] at h
                  refine sm_table dX10_count_71 233 (Or.inr ⟨⟨by omega, by omega⟩, _, (by rw [c25]; rfl), rfl⟩) ?_
                  refine sm_bipush dX10_count_233 rfl ?_
                  cases h
                  exact sm_ireturn dX10_count_235 (Or.inl rfl)
                · rw [if_neg c25] at h
                  have l26 := sl_nx l24 c25 (b := 5) rfl
                  by_cases c27 : sm_w z1 = 5
                  · rw [if_pos c27] at h
                    refine sm_table dX10_count_71 233 (Or.inr ⟨⟨by omega, by omega⟩, _, (by rw [c27]; rfl), rfl⟩) ?_
                    refine sm_bipush dX10_count_233 rfl ?_
                    cases h
                    exact sm_ireturn dX10_count_235 (Or.inl rfl)
                  · rw [if_neg c27] at h
                    have l28 := sl_nx l26 c27 (b := 6) rfl
                    by_cases c29 : sm_w z1 = 6
                    · rw [if_pos c29] at h
                      refine sm_table dX10_count_71 233 (Or.inr ⟨⟨by omega, by omega⟩, _, (by rw [c29]; rfl), rfl⟩) ?_
                      refine sm_bipush dX10_count_233 rfl ?_
                      cases h
                      exact sm_ireturn dX10_count_235 (Or.inl rfl)
                    · rw [if_neg c29] at h
                      have l30 := sl_nx l28 c29 (b := 7) rfl
                      by_cases c31 : sm_w z1 = 7
                      · rw [if_pos c31] at h
                        refine sm_table dX10_count_71 233 (Or.inr ⟨⟨by omega, by omega⟩, _, (by rw [c31]; rfl), rfl⟩) ?_
                        refine sm_bipush dX10_count_233 rfl ?_
                        cases h
                        exact sm_ireturn dX10_count_235 (Or.inl rfl)
                      · rw [if_neg c31] at h
                        have l32 := sl_nx l30 c31 (b := 8) rfl
                        by_cases c33 : sm_w z1 = 8
                        · rw [if_pos c33] at h
                          refine sm_table dX10_count_71 233 (Or.inr ⟨⟨by omega, by omega⟩, _, (by rw [c33]; rfl), rfl⟩) ?_
                          refine sm_bipush dX10_count_233 rfl ?_
                          cases h
                          exact sm_ireturn dX10_count_235 (Or.inl rfl)
                        · rw [if_neg c33] at h
                          have l34 := sl_nx l32 c33 (b := 9) rfl
                          by_cases c35 : sm_w z1 = 9
                          · rw [if_pos c35] at h
                            refine sm_table dX10_count_71 233 (Or.inr ⟨⟨by omega, by omega⟩, _, (by rw [c35]; rfl), rfl⟩) ?_
                            refine sm_bipush dX10_count_233 rfl ?_
                            cases h
                            exact sm_ireturn dX10_count_235 (Or.inl rfl)
                          · rw [if_neg c35] at h
                            have l36 := sl_nx l34 c35 (b := 10) rfl
                            by_cases c37 : sm_w z1 = 10
                            · rw [if_pos c37] at h
                              refine sm_table dX10_count_71 233 (Or.inr ⟨⟨by omega, by omega⟩, _, (by rw [c37]; rfl), rfl⟩) ?_
                              refine sm_bipush dX10_count_233 rfl ?_
                              cases h
                              exact sm_ireturn dX10_count_235 (Or.inl rfl)
                            · rw [if_neg c37] at h
                              have l38 := sl_nx l36 c37 (b := 11) rfl
                              by_cases c39 : sm_w z1 = 11
                              · rw [if_pos c39] at h
                                refine sm_table dX10_count_71 233 (Or.inr ⟨⟨by omega, by omega⟩, _, (by rw [c39]; rfl), rfl⟩) ?_
                                refine sm_bipush dX10_count_233 rfl ?_
                                cases h
                                exact sm_ireturn dX10_count_235 (Or.inl rfl)
                              · rw [if_neg c39] at h
                                have l40 := sl_nx l38 c39 (b := 12) rfl
                                by_cases c41 : sm_w z1 = 12
                                · rw [if_pos c41] at h
                                  refine sm_table dX10_count_71 233 (Or.inr ⟨⟨by omega, by omega⟩, _, (by rw [c41]; rfl), rfl⟩) ?_
                                  refine sm_bipush dX10_count_233 rfl ?_
                                  cases h
                                  exact sm_ireturn dX10_count_235 (Or.inl rfl)
                                · rw [if_neg c41] at h
                                  have l42 := sl_nx l40 c41 (b := 13) rfl
                                  by_cases c43 : sm_w z1 = 13
                                  · rw [if_pos c43] at h
                                    refine sm_table dX10_count_71 233 (Or.inr ⟨⟨by omega, by omega⟩, _, (by rw [c43]; rfl), rfl⟩) ?_
                                    refine sm_bipush dX10_count_233 rfl ?_
                                    cases h
                                    exact sm_ireturn dX10_count_235 (Or.inl rfl)
                                  · rw [if_neg c43] at h
                                    have l44 := sl_nx l42 c43 (b := 14) rfl
                                    by_cases c45 : sm_w z1 = 14
                                    · rw [if_pos c45] at h
                                      refine sm_table dX10_count_71 233 (Or.inr ⟨⟨by omega, by omega⟩, _, (by rw [c45]; rfl), rfl⟩) ?_
                                      refine sm_bipush dX10_count_233 rfl ?_
                                      cases h
                                      exact sm_ireturn dX10_count_235 (Or.inl rfl)
                                    · rw [if_neg c45] at h
                                      have l46 := sl_nx l44 c45 (b := 15) rfl
                                      by_cases c47 : sm_w z1 = 15
                                      · rw [if_pos c47] at h
                                        refine sm_table dX10_count_71 191 (Or.inr ⟨⟨by omega, by omega⟩, _, (by rw [c47]; rfl), rfl⟩) ?_
                                        refine sm_iload_n dX10_count_191 rfl ?_
                                        cases h
                                        exact sm_ireturn dX10_count_192 (Or.inl rfl)
                                      · rw [if_neg c47] at h
                                        have l48 := sl_nx l46 c47 (b := 16) rfl
                                        by_cases c50 : sm_w z1 = 16
                                        · rw [if_pos c50] at h
                                          refine sm_table dX10_count_71 193 (Or.inr ⟨⟨by omega, by omega⟩, _, (by rw [c50]; rfl), rfl⟩) ?_
                                          refine sm_aload_n dX10_count_193 rfl ?_
                                          refine sm_getR lf_RX10_7 fR_7_0 g.2.2.1 (by omega) g.2.2.2.1.2 dX10_count_194 ?_
                                          refine sm_bipush dX10_count_197 rfl ?_
                                          refine sm_iload_n dX10_count_199 rfl ?_
                                          refine sm_iadd dX10_count_200 ?_
                                          refine sm_bipush dX10_count_201 rfl ?_
                                          refine sm_isub dX10_count_203 ?_
                                          obtain ⟨q49, h⟩ := sl_guard h
                                          have xq49 := (sl_ix (m := 810) q49).2
                                          refine sl_ialdk (D := 1) (k := (sm_w ((10 + z1) - 16)).toNat) g.2.2.2.1.1 rfl (by omega) hN2 (sl_ix (m := 810) q49) dX10_count_204 ?_
                                          cases h
                                          exact sm_ireturn dX10_count_205 (Or.inl rfl)
                                        · rw [if_neg c50] at h
                                          have l51 := sl_nx l48 c50 (b := 17) rfl
                                          by_cases c53 : sm_w z1 = 17
                                          · rw [if_pos c53] at h
                                            refine sm_table dX10_count_71 193 (Or.inr ⟨⟨by omega, by omega⟩, _, (by rw [c53]; rfl), rfl⟩) ?_
                                            refine sm_aload_n dX10_count_193 rfl ?_
                                            refine sm_getR lf_RX10_7 fR_7_0 g.2.2.1 (by omega) g.2.2.2.1.2 dX10_count_194 ?_
                                            refine sm_bipush dX10_count_197 rfl ?_
                                            refine sm_iload_n dX10_count_199 rfl ?_
                                            refine sm_iadd dX10_count_200 ?_
                                            refine sm_bipush dX10_count_201 rfl ?_
                                            refine sm_isub dX10_count_203 ?_
                                            obtain ⟨q52, h⟩ := sl_guard h
                                            have xq52 := (sl_ix (m := 810) q52).2
                                            refine sl_ialdk (D := 1) (k := (sm_w ((10 + z1) - 16)).toNat) g.2.2.2.1.1 rfl (by omega) hN2 (sl_ix (m := 810) q52) dX10_count_204 ?_
                                            cases h
                                            exact sm_ireturn dX10_count_205 (Or.inl rfl)
                                          · rw [if_neg c53] at h
                                            have l54 := sl_nx l51 c53 (b := 18) rfl
                                            by_cases c56 : sm_w z1 = 18
                                            · rw [if_pos c56] at h
                                              refine sm_table dX10_count_71 193 (Or.inr ⟨⟨by omega, by omega⟩, _, (by rw [c56]; rfl), rfl⟩) ?_
                                              refine sm_aload_n dX10_count_193 rfl ?_
                                              refine sm_getR lf_RX10_7 fR_7_0 g.2.2.1 (by omega) g.2.2.2.1.2 dX10_count_194 ?_
                                              refine sm_bipush dX10_count_197 rfl ?_
                                              refine sm_iload_n dX10_count_199 rfl ?_
                                              refine sm_iadd dX10_count_200 ?_
                                              refine sm_bipush dX10_count_201 rfl ?_
                                              refine sm_isub dX10_count_203 ?_
                                              obtain ⟨q55, h⟩ := sl_guard h
                                              have xq55 := (sl_ix (m := 810) q55).2
                                              refine sl_ialdk (D := 1) (k := (sm_w ((10 + z1) - 16)).toNat) g.2.2.2.1.1 rfl (by omega) hN2 (sl_ix (m := 810) q55) dX10_count_204 ?_
                                              cases h
                                              exact sm_ireturn dX10_count_205 (Or.inl rfl)
                                            · rw [if_neg c56] at h
                                              have l57 := sl_nx l54 c56 (b := 19) rfl
                                              by_cases c59 : sm_w z1 = 19
                                              · rw [if_pos c59] at h
                                                refine sm_table dX10_count_71 206 (Or.inr ⟨⟨by omega, by omega⟩, _, (by rw [c59]; rfl), rfl⟩) ?_
                                                refine sm_aload_n dX10_count_206 rfl ?_
                                                refine sm_getR lf_RX10_7 fR_7_0 g.2.2.1 (by omega) g.2.2.2.1.2 dX10_count_207 ?_
                                                refine sm_iconst dX10_count_210 ?_
                                                refine sm_iload_n dX10_count_211 rfl ?_
                                                refine sm_iadd dX10_count_212 ?_
                                                refine sm_bipush dX10_count_213 rfl ?_
                                                refine sm_isub dX10_count_215 ?_
                                                obtain ⟨q58, h⟩ := sl_guard h
                                                have xq58 := (sl_ix (m := 810) q58).2
                                                refine sl_ialdk (D := 1) (k := (sm_w ((2 + z1) - 19)).toNat) g.2.2.2.1.1 rfl (by omega) hN2 (sl_ix (m := 810) q58) dX10_count_216 ?_
                                                cases h
                                                exact sm_ireturn dX10_count_217 (Or.inl rfl)
                                              · rw [if_neg c59] at h
                                                have l60 := sl_nx l57 c59 (b := 20) rfl
                                                by_cases c62 : sm_w z1 = 20
                                                · rw [if_pos c62] at h
                                                  refine sm_table dX10_count_71 206 (Or.inr ⟨⟨by omega, by omega⟩, _, (by rw [c62]; rfl), rfl⟩) ?_
                                                  refine sm_aload_n dX10_count_206 rfl ?_
                                                  refine sm_getR lf_RX10_7 fR_7_0 g.2.2.1 (by omega) g.2.2.2.1.2 dX10_count_207 ?_
                                                  refine sm_iconst dX10_count_210 ?_
                                                  refine sm_iload_n dX10_count_211 rfl ?_
                                                  refine sm_iadd dX10_count_212 ?_
                                                  refine sm_bipush dX10_count_213 rfl ?_
                                                  refine sm_isub dX10_count_215 ?_
                                                  obtain ⟨q61, h⟩ := sl_guard h
                                                  have xq61 := (sl_ix (m := 810) q61).2
                                                  refine sl_ialdk (D := 1) (k := (sm_w ((2 + z1) - 19)).toNat) g.2.2.2.1.1 rfl (by omega) hN2 (sl_ix (m := 810) q61) dX10_count_216 ?_
                                                  cases h
                                                  exact sm_ireturn dX10_count_217 (Or.inl rfl)
                                                · rw [if_neg c62] at h
                                                  have l63 := sl_nx l60 c62 (b := 21) rfl
                                                  by_cases c65 : sm_w z1 = 21
                                                  · rw [if_pos c65] at h
                                                    refine sm_table dX10_count_71 206 (Or.inr ⟨⟨by omega, by omega⟩, _, (by rw [c65]; rfl), rfl⟩) ?_
                                                    refine sm_aload_n dX10_count_206 rfl ?_
                                                    refine sm_getR lf_RX10_7 fR_7_0 g.2.2.1 (by omega) g.2.2.2.1.2 dX10_count_207 ?_
                                                    refine sm_iconst dX10_count_210 ?_
                                                    refine sm_iload_n dX10_count_211 rfl ?_
                                                    refine sm_iadd dX10_count_212 ?_
                                                    refine sm_bipush dX10_count_213 rfl ?_
                                                    refine sm_isub dX10_count_215 ?_
                                                    obtain ⟨q64, h⟩ := sl_guard h
                                                    have xq64 := (sl_ix (m := 810) q64).2
                                                    refine sl_ialdk (D := 1) (k := (sm_w ((2 + z1) - 19)).toNat) g.2.2.2.1.1 rfl (by omega) hN2 (sl_ix (m := 810) q64) dX10_count_216 ?_
                                                    cases h
                                                    exact sm_ireturn dX10_count_217 (Or.inl rfl)
                                                  · rw [if_neg c65] at h
                                                    have l66 := sl_nx l63 c65 (b := 22) rfl
                                                    by_cases c70 : sm_w z1 = 22
                                                    · rw [if_pos c70] at h
                                                      refine sm_table dX10_count_71 218 (Or.inr ⟨⟨by omega, by omega⟩, _, (by rw [c70]; rfl), rfl⟩) ?_
                                                      refine sm_aload_n dX10_count_218 rfl ?_
                                                      obtain ⟨p67, hp68, h⟩ := sl_bind h
                                                      have hc69 := bModel_onDuty (G := G) (E := E) (o := o) (s := s) (mi := mi) g  hp68
                                                      refine sc_callV1 (avs := []) (st := []) lk_RX10_110 rfl vf_X10_onDuty hc69 ⟨(Nat.le_of_ble_eq_true rfl), (Nat.le_of_ble_eq_true rfl)⟩ ⟨rfl, (Nat.le_of_ble_eq_true rfl)⟩ g.2.2.1 (by omega) rfl dX10_count_219 ?_
                                                      cases h
                                                      exact sm_ireturn dX10_count_222 (Or.inl rfl)
                                                    · rw [if_neg c70] at h
                                                      have l71 := sl_nx l66 c70 (b := 23) rfl
                                                      by_cases c72 : sm_w z1 = 23
                                                      · rw [if_pos c72] at h
                                                        refine sm_table dX10_count_71 223 (Or.inr ⟨⟨by omega, by omega⟩, _, (by rw [c72]; rfl), rfl⟩) ?_
                                                        refine sm_aload_n dX10_count_223 rfl ?_
                                                        refine sl_getI (D := 0) lf_RX10_40 fI_7_2 g.2.2.1 rfl (by omega) hN2 dX10_count_224 ?_
                                                        cases h
                                                        exact sm_ireturn dX10_count_227 (Or.inl rfl)
                                                      · rw [if_neg c72] at h
                                                        have l73 := sl_nx l71 c72 (b := 24) rfl
                                                        have c74 : sm_w z1 = 24 := by omega
                                                        refine sm_table dX10_count_71 228 (Or.inr ⟨⟨by omega, by omega⟩, _, (by rw [c74]; rfl), rfl⟩) ?_
                                                        refine sm_aload_n dX10_count_228 rfl ?_
                                                        refine sl_getI (D := 0) lf_RX10_178 fI_7_7 g.2.2.1 rfl (by omega) hN2 dX10_count_229 ?_
                                                        cases h
                                                        exact sm_ireturn dX10_count_232 (Or.inl rfl)
      · rw [if_neg c14] at h
        refine sm_table dX10_count_71 233 (Or.inl ⟨by omega, rfl⟩) ?_
        refine sm_bipush dX10_count_233 rfl ?_
        cases h
        exact sm_ireturn dX10_count_235 (Or.inl rfl)
    · rw [if_neg c78] at h
      refine sm_aload_n dX10_count_32 rfl ?_
      refine sm_iload_n dX10_count_33 rfl ?_
      refine sm_bipush dX10_count_34 rfl ?_
      refine sm_isub dX10_count_36 ?_
      obtain ⟨p75, hp76, h⟩ := sl_bind h
      have hc77 := bModel_manyIn (G := G) (E := E) (o := o) (s := s) (mi := mi) g  hp76
      refine sc_callV1 (avs := [.inl (z1 - 7)]) (st := []) lk_RX10_172 rfl vf_X10_manyIn hc77 ⟨(Nat.le_of_ble_eq_true rfl), (Nat.le_of_ble_eq_true rfl)⟩ ⟨rfl, (Nat.le_of_ble_eq_true rfl)⟩ g.2.2.1 (by omega) rfl dX10_count_37 ?_
      cases h
      exact sm_ireturn dX10_count_40 (Or.inl rfl)
  · rw [if_neg c80] at h
    refine sm_aload_n dX10_count_10 rfl ?_
    refine sm_getR lf_RX10_7 fR_7_0 g.2.2.1 (by omega) g.2.2.2.1.2 dX10_count_11 ?_
    refine sm_iconst dX10_count_14 ?_
    refine sm_iload_n dX10_count_15 rfl ?_
    refine sm_iadd dX10_count_16 ?_
    refine sm_iconst dX10_count_17 ?_
    refine sm_isub dX10_count_18 ?_
    obtain ⟨q79, h⟩ := sl_guard h
    have xq79 := (sl_ix (m := 810) q79).2
    refine sl_ialdk (D := 1) (k := (sm_w ((5 + z1) - 2)).toNat) g.2.2.2.1.1 rfl (by omega) hN2 (sl_ix (m := 810) q79) dX10_count_19 ?_
    cases h
    exact sm_ireturn dX10_count_20 (Or.inl rfl)
