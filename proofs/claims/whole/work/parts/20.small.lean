abbrev xPatrol_copyFrom (G : GT) : XT := (G, yX4_copyFrom.cls, cX4_copyFrom, 2, none, decide (yX4_copyFrom.name = "<init>"), 0, 0)
def fPatrol_copyFrom  (s : MI) (s2 : MI) : Option (MI) :=
  Option.bind (some (sm_up s 0 0 (s2 0 0))) (fun s1 => Option.bind (some (sm_up s1 0 1 (s2 0 1))) (fun s3 => if (s2 0 2) = 0 ∨ (s2 0 2) = 1 then Option.bind (some (sm_up s3 0 2 (s2 0 2))) (fun s6 => Option.bind (some (sm_up s6 0 3 (s2 0 3))) (fun s8 => Option.bind (some (sm_up s8 0 4 (s2 0 4))) (fun s10 => Option.bind (some (sm_up s10 0 5 (s2 0 5))) (fun s12 => Option.bind (some (sm_up s12 0 6 (s2 0 6))) (fun s14 => Option.bind (some (sm_up s14 0 7 (s2 0 7))) (fun s16 => Option.bind (some (sm_up s16 0 8 (s2 0 8))) (fun s18 => Option.bind (some (sm_up s18 0 9 (s2 0 9))) (fun s20 => Option.bind (some (sm_up s20 0 10 (s2 0 10))) (fun s22 => Option.bind (some (sm_up s22 0 11 (s2 0 11))) (fun s24 => Option.bind (some (sm_up s24 0 12 (s2 0 12))) (fun s26 => Option.bind (some (sm_up s26 0 13 (s2 0 13))) (fun s28 => some s28)))))))))))) else none))
set_option maxRecDepth 100000 in
set_option maxHeartbeats 4000000 in
theorem bPatrol_copyFrom {G : GT} {E : ET} {o : Nat} {s mi : MI} {o2 : Nat} {s2 : MI}  {w : MI} (g : gO 3 E o) (g' : gO 3 E o2) (h2 : g2 o 1 o2 1 s2 mi)  (h : fPatrol_copyFrom s s2 = some w) : cN G yX4_copyFrom cX4_copyFrom 2 none 0 0 [.inr o, .inr o2] E (sm_gl o 1 s mi) (none, E, sm_gl o 1 w mi) := by
  have hN1 := g.1
  have hN2 := g.2.1
  have hM1 := g'.1
  have hM2 := g'.2.1
  unfold fPatrol_copyFrom at h
  refine sm_meth (by decide +kernel) (Nat.le_of_ble_eq_true rfl) ?_
  show sM (xPatrol_copyFrom G) 0 [some (.inr o), some (.inr o2)] [] E (sm_gl o 1 s mi) _
  refine sm_aload_n dX4_copyFrom_0 rfl ?_
  refine sm_aload_n dX4_copyFrom_1 rfl ?_
  refine sl_getI2 (D := 0) h2 lf_RX4_9 fI_3_0 g'.2.2 rfl (by omega) hM2 dX4_copyFrom_2 ?_
  refine sl_putI (D := 0) lf_RX4_9 fP_3_0 (Or.inl rfl) g.2.2 rfl (by omega) ⟨hN1, hN2⟩ dX4_copyFrom_5 ?_
  obtain ⟨s1, hs2, h⟩ := sl_bind h
  rw [Option.some.inj hs2]
  refine sm_aload_n dX4_copyFrom_8 rfl ?_
  refine sm_aload_n dX4_copyFrom_9 rfl ?_
  refine sl_getI2 (D := 0) h2 lf_RX4_15 fI_3_1 g'.2.2 rfl (by omega) hM2 dX4_copyFrom_10 ?_
  refine sl_putI (D := 0) lf_RX4_15 fP_3_1 (Or.inl rfl) g.2.2 rfl (by omega) ⟨hN1, hN2⟩ dX4_copyFrom_13 ?_
  obtain ⟨s3, hs4, h⟩ := sl_bind h
  rw [Option.some.inj hs4]
  refine sm_aload_n dX4_copyFrom_16 rfl ?_
  refine sm_aload_n dX4_copyFrom_17 rfl ?_
  refine sl_getI2 (D := 0) h2 lf_RX4_18 fI_3_2 g'.2.2 rfl (by omega) hM2 dX4_copyFrom_18 ?_
  obtain ⟨q5, h⟩ := sl_guard h
  refine sl_putI (D := 0) lf_RX4_18 fP_3_2 (Or.inr ⟨rfl, q5⟩) g.2.2 rfl (by omega) ⟨hN1, hN2⟩ dX4_copyFrom_21 ?_
  obtain ⟨s6, hs7, h⟩ := sl_bind h
  rw [Option.some.inj hs7]
  refine sm_aload_n dX4_copyFrom_24 rfl ?_
  refine sm_aload_n dX4_copyFrom_25 rfl ?_
  refine sl_getI2 (D := 0) h2 lf_RX4_43 fI_3_3 g'.2.2 rfl (by omega) hM2 dX4_copyFrom_26 ?_
  refine sl_putI (D := 0) lf_RX4_43 fP_3_3 (Or.inl rfl) g.2.2 rfl (by omega) ⟨hN1, hN2⟩ dX4_copyFrom_29 ?_
  obtain ⟨s8, hs9, h⟩ := sl_bind h
  rw [Option.some.inj hs9]
  refine sm_aload_n dX4_copyFrom_32 rfl ?_
  refine sm_aload_n dX4_copyFrom_33 rfl ?_
  refine sl_getI2 (D := 0) h2 lf_RX4_22 fI_3_4 g'.2.2 rfl (by omega) hM2 dX4_copyFrom_34 ?_
  refine sl_putI (D := 0) lf_RX4_22 fP_3_4 (Or.inl rfl) g.2.2 rfl (by omega) ⟨hN1, hN2⟩ dX4_copyFrom_37 ?_
  obtain ⟨s10, hs11, h⟩ := sl_bind h
  rw [Option.some.inj hs11]
  refine sm_aload_n dX4_copyFrom_40 rfl ?_
  refine sm_aload_n dX4_copyFrom_41 rfl ?_
  refine sl_getI2 (D := 0) h2 lf_RX4_46 fI_3_5 g'.2.2 rfl (by omega) hM2 dX4_copyFrom_42 ?_
  refine sl_putI (D := 0) lf_RX4_46 fP_3_5 (Or.inl rfl) g.2.2 rfl (by omega) ⟨hN1, hN2⟩ dX4_copyFrom_45 ?_
  obtain ⟨s12, hs13, h⟩ := sl_bind h
  rw [Option.some.inj hs13]
  refine sm_aload_n dX4_copyFrom_48 rfl ?_
  refine sm_aload_n dX4_copyFrom_49 rfl ?_
  refine sl_getI2 (D := 0) h2 lf_RX4_49 fI_3_6 g'.2.2 rfl (by omega) hM2 dX4_copyFrom_50 ?_
  refine sl_putI (D := 0) lf_RX4_49 fP_3_6 (Or.inl rfl) g.2.2 rfl (by omega) ⟨hN1, hN2⟩ dX4_copyFrom_53 ?_
  obtain ⟨s14, hs15, h⟩ := sl_bind h
  rw [Option.some.inj hs15]
  refine sm_aload_n dX4_copyFrom_56 rfl ?_
  refine sm_aload_n dX4_copyFrom_57 rfl ?_
  refine sl_getI2 (D := 0) h2 lf_RX4_52 fI_3_7 g'.2.2 rfl (by omega) hM2 dX4_copyFrom_58 ?_
  refine sl_putI (D := 0) lf_RX4_52 fP_3_7 (Or.inl rfl) g.2.2 rfl (by omega) ⟨hN1, hN2⟩ dX4_copyFrom_61 ?_
  obtain ⟨s16, hs17, h⟩ := sl_bind h
  rw [Option.some.inj hs17]
  refine sm_aload_n dX4_copyFrom_64 rfl ?_
  refine sm_aload_n dX4_copyFrom_65 rfl ?_
  refine sl_getI2 (D := 0) h2 lf_RX4_55 fI_3_8 g'.2.2 rfl (by omega) hM2 dX4_copyFrom_66 ?_
  refine sl_putI (D := 0) lf_RX4_55 fP_3_8 (Or.inl rfl) g.2.2 rfl (by omega) ⟨hN1, hN2⟩ dX4_copyFrom_69 ?_
  obtain ⟨s18, hs19, h⟩ := sl_bind h
  rw [Option.some.inj hs19]
  refine sm_aload_n dX4_copyFrom_72 rfl ?_
  refine sm_aload_n dX4_copyFrom_73 rfl ?_
  refine sl_getI2 (D := 0) h2 lf_RX4_25 fI_3_9 g'.2.2 rfl (by omega) hM2 dX4_copyFrom_74 ?_
  refine sl_putI (D := 0) lf_RX4_25 fP_3_9 (Or.inl rfl) g.2.2 rfl (by omega) ⟨hN1, hN2⟩ dX4_copyFrom_77 ?_
  obtain ⟨s20, hs21, h⟩ := sl_bind h
  rw [Option.some.inj hs21]
  refine sm_aload_n dX4_copyFrom_80 rfl ?_
  refine sm_aload_n dX4_copyFrom_81 rfl ?_
  refine sl_getI2 (D := 0) h2 lf_RX4_28 fI_3_10 g'.2.2 rfl (by omega) hM2 dX4_copyFrom_82 ?_
  refine sl_putI (D := 0) lf_RX4_28 fP_3_10 (Or.inl rfl) g.2.2 rfl (by omega) ⟨hN1, hN2⟩ dX4_copyFrom_85 ?_
  obtain ⟨s22, hs23, h⟩ := sl_bind h
  rw [Option.some.inj hs23]
  refine sm_aload_n dX4_copyFrom_88 rfl ?_
  refine sm_aload_n dX4_copyFrom_89 rfl ?_
  refine sl_getI2 (D := 0) h2 lf_RX4_31 fI_3_11 g'.2.2 rfl (by omega) hM2 dX4_copyFrom_90 ?_
  refine sl_putI (D := 0) lf_RX4_31 fP_3_11 (Or.inl rfl) g.2.2 rfl (by omega) ⟨hN1, hN2⟩ dX4_copyFrom_93 ?_
  obtain ⟨s24, hs25, h⟩ := sl_bind h
  rw [Option.some.inj hs25]
  refine sm_aload_n dX4_copyFrom_96 rfl ?_
  refine sm_aload_n dX4_copyFrom_97 rfl ?_
  refine sl_getI2 (D := 0) h2 lf_RX4_34 fI_3_12 g'.2.2 rfl (by omega) hM2 dX4_copyFrom_98 ?_
  refine sl_putI (D := 0) lf_RX4_34 fP_3_12 (Or.inl rfl) g.2.2 rfl (by omega) ⟨hN1, hN2⟩ dX4_copyFrom_101 ?_
  obtain ⟨s26, hs27, h⟩ := sl_bind h
  rw [Option.some.inj hs27]
  refine sm_aload_n dX4_copyFrom_104 rfl ?_
  refine sm_aload_n dX4_copyFrom_105 rfl ?_
  refine sl_getI2 (D := 0) h2 lf_RX4_37 fI_3_13 g'.2.2 rfl (by omega) hM2 dX4_copyFrom_106 ?_
  refine sl_putI (D := 0) lf_RX4_37 fP_3_13 (Or.inl rfl) g.2.2 rfl (by omega) ⟨hN1, hN2⟩ dX4_copyFrom_109 ?_
  obtain ⟨s28, hs29, h⟩ := sl_bind h
  rw [Option.some.inj hs29]
  cases h
  exact sm_return rfl dX4_copyFrom_112
abbrev xGarage_copyFrom (G : GT) : XT := (G, yX3_copyFrom.cls, cX3_copyFrom, 2, none, decide (yX3_copyFrom.name = "<init>"), 0, 0)
def fGarage_copyFrom  (s : MI) (s2 : MI) : Option (MI) :=
  Option.bind (some (sm_up s 0 0 (s2 0 0))) (fun s1 => Option.bind (some (sm_up s1 0 1 (s2 0 1))) (fun s3 => Option.bind (some (sm_up s3 0 2 (s2 0 2))) (fun s5 => Option.bind (some (sm_up s5 0 3 (s2 0 3))) (fun s7 => Option.bind (some (sm_up s7 0 4 (s2 0 4))) (fun s9 => some s9)))))
set_option maxRecDepth 100000 in
set_option maxHeartbeats 4000000 in
theorem bGarage_copyFrom {G : GT} {E : ET} {o : Nat} {s mi : MI} {o2 : Nat} {s2 : MI}  {w : MI} (g : gO 2 E o) (g' : gO 2 E o2) (h2 : g2 o 1 o2 1 s2 mi)  (h : fGarage_copyFrom s s2 = some w) : cN G yX3_copyFrom cX3_copyFrom 2 none 0 0 [.inr o, .inr o2] E (sm_gl o 1 s mi) (none, E, sm_gl o 1 w mi) := by
  have hN1 := g.1
  have hN2 := g.2.1
  have hM1 := g'.1
  have hM2 := g'.2.1
  unfold fGarage_copyFrom at h
  refine sm_meth (by decide +kernel) (Nat.le_of_ble_eq_true rfl) ?_
  show sM (xGarage_copyFrom G) 0 [some (.inr o), some (.inr o2)] [] E (sm_gl o 1 s mi) _
  refine sm_aload_n dX3_copyFrom_0 rfl ?_
  refine sm_aload_n dX3_copyFrom_1 rfl ?_
  refine sl_getI2 (D := 0) h2 lf_RX3_7 fI_2_0 g'.2.2 rfl (by omega) hM2 dX3_copyFrom_2 ?_
  refine sl_putI (D := 0) lf_RX3_7 fP_2_0 (Or.inl rfl) g.2.2 rfl (by omega) ⟨hN1, hN2⟩ dX3_copyFrom_5 ?_
  obtain ⟨s1, hs2, h⟩ := sl_bind h
  rw [Option.some.inj hs2]
  refine sm_aload_n dX3_copyFrom_8 rfl ?_
  refine sm_aload_n dX3_copyFrom_9 rfl ?_
  refine sl_getI2 (D := 0) h2 lf_RX3_13 fI_2_1 g'.2.2 rfl (by omega) hM2 dX3_copyFrom_10 ?_
  refine sl_putI (D := 0) lf_RX3_13 fP_2_1 (Or.inl rfl) g.2.2 rfl (by omega) ⟨hN1, hN2⟩ dX3_copyFrom_13 ?_
  obtain ⟨s3, hs4, h⟩ := sl_bind h
  rw [Option.some.inj hs4]
  refine sm_aload_n dX3_copyFrom_16 rfl ?_
  refine sm_aload_n dX3_copyFrom_17 rfl ?_
  refine sl_getI2 (D := 0) h2 lf_RX3_16 fI_2_2 g'.2.2 rfl (by omega) hM2 dX3_copyFrom_18 ?_
  refine sl_putI (D := 0) lf_RX3_16 fP_2_2 (Or.inl rfl) g.2.2 rfl (by omega) ⟨hN1, hN2⟩ dX3_copyFrom_21 ?_
  obtain ⟨s5, hs6, h⟩ := sl_bind h
  rw [Option.some.inj hs6]
  refine sm_aload_n dX3_copyFrom_24 rfl ?_
  refine sm_aload_n dX3_copyFrom_25 rfl ?_
  refine sl_getI2 (D := 0) h2 lf_RX3_19 fI_2_3 g'.2.2 rfl (by omega) hM2 dX3_copyFrom_26 ?_
  refine sl_putI (D := 0) lf_RX3_19 fP_2_3 (Or.inl rfl) g.2.2 rfl (by omega) ⟨hN1, hN2⟩ dX3_copyFrom_29 ?_
  obtain ⟨s7, hs8, h⟩ := sl_bind h
  rw [Option.some.inj hs8]
  refine sm_aload_n dX3_copyFrom_32 rfl ?_
  refine sm_aload_n dX3_copyFrom_33 rfl ?_
  refine sl_getI2 (D := 0) h2 lf_RX3_22 fI_2_4 g'.2.2 rfl (by omega) hM2 dX3_copyFrom_34 ?_
  refine sl_putI (D := 0) lf_RX3_22 fP_2_4 (Or.inl rfl) g.2.2 rfl (by omega) ⟨hN1, hN2⟩ dX3_copyFrom_37 ?_
  obtain ⟨s9, hs10, h⟩ := sl_bind h
  rw [Option.some.inj hs10]
  cases h
  exact sm_return rfl dX3_copyFrom_40
abbrev xBreakdown_copyFrom (G : GT) : XT := (G, yX1_copyFrom.cls, cX1_copyFrom, 2, none, decide (yX1_copyFrom.name = "<init>"), 0, 0)
def fBreakdown_copyFrom  (s : MI) (s2 : MI) : Option (MI) :=
  Option.bind (some (sm_up s 0 0 (s2 0 0))) (fun s1 => Option.bind (some (sm_up s1 0 1 (s2 0 1))) (fun s3 => Option.bind (some (sm_up s3 0 2 (s2 0 2))) (fun s5 => Option.bind (some (sm_up s5 0 3 (s2 0 3))) (fun s7 => Option.bind (some (sm_up s7 0 4 (s2 0 4))) (fun s9 => Option.bind (some (sm_up s9 0 5 (s2 0 5))) (fun s11 => Option.bind (some (sm_up s11 0 6 (s2 0 6))) (fun s13 => Option.bind (some (sm_up s13 0 7 (s2 0 7))) (fun s15 => Option.bind (some (sm_up s15 0 8 (s2 0 8))) (fun s17 => Option.bind (some (sm_up s17 0 9 (s2 0 9))) (fun s19 => if (s2 0 10) = 0 ∨ (s2 0 10) = 1 then Option.bind (some (sm_up s19 0 10 (s2 0 10))) (fun s22 => some s22) else none))))))))))
set_option maxRecDepth 100000 in
set_option maxHeartbeats 4000000 in
theorem bBreakdown_copyFrom {G : GT} {E : ET} {o : Nat} {s mi : MI} {o2 : Nat} {s2 : MI}  {w : MI} (g : gO 0 E o) (g' : gO 0 E o2) (h2 : g2 o 1 o2 1 s2 mi)  (h : fBreakdown_copyFrom s s2 = some w) : cN G yX1_copyFrom cX1_copyFrom 2 none 0 0 [.inr o, .inr o2] E (sm_gl o 1 s mi) (none, E, sm_gl o 1 w mi) := by
  have hN1 := g.1
  have hN2 := g.2.1
  have hM1 := g'.1
  have hM2 := g'.2.1
  unfold fBreakdown_copyFrom at h
  refine sm_meth (by decide +kernel) (Nat.le_of_ble_eq_true rfl) ?_
  show sM (xBreakdown_copyFrom G) 0 [some (.inr o), some (.inr o2)] [] E (sm_gl o 1 s mi) _
  refine sm_aload_n dX1_copyFrom_0 rfl ?_
  refine sm_aload_n dX1_copyFrom_1 rfl ?_
  refine sl_getI2 (D := 0) h2 lf_RX1_9 fI_0_0 g'.2.2 rfl (by omega) hM2 dX1_copyFrom_2 ?_
  refine sl_putI (D := 0) lf_RX1_9 fP_0_0 (Or.inl rfl) g.2.2 rfl (by omega) ⟨hN1, hN2⟩ dX1_copyFrom_5 ?_
  obtain ⟨s1, hs2, h⟩ := sl_bind h
  rw [Option.some.inj hs2]
  refine sm_aload_n dX1_copyFrom_8 rfl ?_
  refine sm_aload_n dX1_copyFrom_9 rfl ?_
  refine sl_getI2 (D := 0) h2 lf_RX1_15 fI_0_1 g'.2.2 rfl (by omega) hM2 dX1_copyFrom_10 ?_
  refine sl_putI (D := 0) lf_RX1_15 fP_0_1 (Or.inl rfl) g.2.2 rfl (by omega) ⟨hN1, hN2⟩ dX1_copyFrom_13 ?_
  obtain ⟨s3, hs4, h⟩ := sl_bind h
  rw [Option.some.inj hs4]
  refine sm_aload_n dX1_copyFrom_16 rfl ?_
  refine sm_aload_n dX1_copyFrom_17 rfl ?_
  refine sl_getI2 (D := 0) h2 lf_RX1_18 fI_0_2 g'.2.2 rfl (by omega) hM2 dX1_copyFrom_18 ?_
  refine sl_putI (D := 0) lf_RX1_18 fP_0_2 (Or.inl rfl) g.2.2 rfl (by omega) ⟨hN1, hN2⟩ dX1_copyFrom_21 ?_
  obtain ⟨s5, hs6, h⟩ := sl_bind h
  rw [Option.some.inj hs6]
  refine sm_aload_n dX1_copyFrom_24 rfl ?_
  refine sm_aload_n dX1_copyFrom_25 rfl ?_
  refine sl_getI2 (D := 0) h2 lf_RX1_21 fI_0_3 g'.2.2 rfl (by omega) hM2 dX1_copyFrom_26 ?_
  refine sl_putI (D := 0) lf_RX1_21 fP_0_3 (Or.inl rfl) g.2.2 rfl (by omega) ⟨hN1, hN2⟩ dX1_copyFrom_29 ?_
  obtain ⟨s7, hs8, h⟩ := sl_bind h
  rw [Option.some.inj hs8]
  refine sm_aload_n dX1_copyFrom_32 rfl ?_
  refine sm_aload_n dX1_copyFrom_33 rfl ?_
  refine sl_getI2 (D := 0) h2 lf_RX1_24 fI_0_4 g'.2.2 rfl (by omega) hM2 dX1_copyFrom_34 ?_
  refine sl_putI (D := 0) lf_RX1_24 fP_0_4 (Or.inl rfl) g.2.2 rfl (by omega) ⟨hN1, hN2⟩ dX1_copyFrom_37 ?_
  obtain ⟨s9, hs10, h⟩ := sl_bind h
  rw [Option.some.inj hs10]
  refine sm_aload_n dX1_copyFrom_40 rfl ?_
  refine sm_aload_n dX1_copyFrom_41 rfl ?_
  refine sl_getI2 (D := 0) h2 lf_RX1_27 fI_0_5 g'.2.2 rfl (by omega) hM2 dX1_copyFrom_42 ?_
  refine sl_putI (D := 0) lf_RX1_27 fP_0_5 (Or.inl rfl) g.2.2 rfl (by omega) ⟨hN1, hN2⟩ dX1_copyFrom_45 ?_
  obtain ⟨s11, hs12, h⟩ := sl_bind h
  rw [Option.some.inj hs12]
  refine sm_aload_n dX1_copyFrom_48 rfl ?_
  refine sm_aload_n dX1_copyFrom_49 rfl ?_
  refine sl_getI2 (D := 0) h2 lf_RX1_30 fI_0_6 g'.2.2 rfl (by omega) hM2 dX1_copyFrom_50 ?_
  refine sl_putI (D := 0) lf_RX1_30 fP_0_6 (Or.inl rfl) g.2.2 rfl (by omega) ⟨hN1, hN2⟩ dX1_copyFrom_53 ?_
  obtain ⟨s13, hs14, h⟩ := sl_bind h
  rw [Option.some.inj hs14]
  refine sm_aload_n dX1_copyFrom_56 rfl ?_
  refine sm_aload_n dX1_copyFrom_57 rfl ?_
  refine sl_getI2 (D := 0) h2 lf_RX1_33 fI_0_7 g'.2.2 rfl (by omega) hM2 dX1_copyFrom_58 ?_
  refine sl_putI (D := 0) lf_RX1_33 fP_0_7 (Or.inl rfl) g.2.2 rfl (by omega) ⟨hN1, hN2⟩ dX1_copyFrom_61 ?_
  obtain ⟨s15, hs16, h⟩ := sl_bind h
  rw [Option.some.inj hs16]
  refine sm_aload_n dX1_copyFrom_64 rfl ?_
  refine sm_aload_n dX1_copyFrom_65 rfl ?_
  refine sl_getI2 (D := 0) h2 lf_RX1_36 fI_0_8 g'.2.2 rfl (by omega) hM2 dX1_copyFrom_66 ?_
  refine sl_putI (D := 0) lf_RX1_36 fP_0_8 (Or.inl rfl) g.2.2 rfl (by omega) ⟨hN1, hN2⟩ dX1_copyFrom_69 ?_
  obtain ⟨s17, hs18, h⟩ := sl_bind h
  rw [Option.some.inj hs18]
  refine sm_aload_n dX1_copyFrom_72 rfl ?_
  refine sm_aload_n dX1_copyFrom_73 rfl ?_
  refine sl_getI2 (D := 0) h2 lf_RX1_39 fI_0_9 g'.2.2 rfl (by omega) hM2 dX1_copyFrom_74 ?_
  refine sl_putI (D := 0) lf_RX1_39 fP_0_9 (Or.inl rfl) g.2.2 rfl (by omega) ⟨hN1, hN2⟩ dX1_copyFrom_77 ?_
  obtain ⟨s19, hs20, h⟩ := sl_bind h
  rw [Option.some.inj hs20]
  refine sm_aload_n dX1_copyFrom_80 rfl ?_
  refine sm_aload_n dX1_copyFrom_81 rfl ?_
  refine sl_getI2 (D := 0) h2 lf_RX1_42 fI_0_10 g'.2.2 rfl (by omega) hM2 dX1_copyFrom_82 ?_
  obtain ⟨q21, h⟩ := sl_guard h
  refine sl_putI (D := 0) lf_RX1_42 fP_0_10 (Or.inr ⟨rfl, q21⟩) g.2.2 rfl (by omega) ⟨hN1, hN2⟩ dX1_copyFrom_85 ?_
  obtain ⟨s22, hs23, h⟩ := sl_bind h
  rw [Option.some.inj hs23]
  cases h
  exact sm_return rfl dX1_copyFrom_88
abbrev xPatrol_becomeFree (G : GT) : XT := (G, yX4_becomeFree.cls, cX4_becomeFree, 1, none, decide (yX4_becomeFree.name = "<init>"), 0, 0)
def fPatrol_becomeFree  (s : MI) : Option (MI) :=
  Option.bind (some (sm_up s 0 3 0)) (fun s1 => Option.bind (some (sm_up s1 0 5 (-5))) (fun s3 => Option.bind (some (sm_up s3 0 6 (-5))) (fun s5 => Option.bind (some (sm_up s5 0 7 (-5))) (fun s7 => Option.bind (some (sm_up s7 0 8 (-5))) (fun s9 => some s9)))))
set_option maxRecDepth 100000 in
set_option maxHeartbeats 4000000 in
theorem bPatrol_becomeFree {G : GT} {E : ET} {o : Nat} {s mi : MI}  {w : MI} (g : gO 3 E o)  (h : fPatrol_becomeFree s = some w) : cN G yX4_becomeFree cX4_becomeFree 1 none 0 0 [.inr o] E (sm_gl o 1 s mi) (none, E, sm_gl o 1 w mi) := by
  have hN1 := g.1
  have hN2 := g.2.1
  unfold fPatrol_becomeFree at h
  refine sm_meth (by decide +kernel) (Nat.le_of_ble_eq_true rfl) ?_
  show sM (xPatrol_becomeFree G) 0 [some (.inr o)] [] E (sm_gl o 1 s mi) _
  refine sm_aload_n dX4_becomeFree_0 rfl ?_
  refine sm_iconst dX4_becomeFree_1 ?_
  refine sl_putI (D := 0) lf_RX4_43 fP_3_3 (Or.inl rfl) g.2.2 rfl (by omega) ⟨hN1, hN2⟩ dX4_becomeFree_2 ?_
  obtain ⟨s1, hs2, h⟩ := sl_bind h
  rw [Option.some.inj hs2]
  refine sm_aload_n dX4_becomeFree_5 rfl ?_
  refine sm_bipush dX4_becomeFree_6 rfl ?_
  refine sl_putI (D := 0) lf_RX4_46 fP_3_5 (Or.inl rfl) g.2.2 rfl (by omega) ⟨hN1, hN2⟩ dX4_becomeFree_8 ?_
  obtain ⟨s3, hs4, h⟩ := sl_bind h
  rw [Option.some.inj hs4]
  refine sm_aload_n dX4_becomeFree_11 rfl ?_
  refine sm_bipush dX4_becomeFree_12 rfl ?_
  refine sl_putI (D := 0) lf_RX4_49 fP_3_6 (Or.inl rfl) g.2.2 rfl (by omega) ⟨hN1, hN2⟩ dX4_becomeFree_14 ?_
  obtain ⟨s5, hs6, h⟩ := sl_bind h
  rw [Option.some.inj hs6]
  refine sm_aload_n dX4_becomeFree_17 rfl ?_
  refine sm_bipush dX4_becomeFree_18 rfl ?_
  refine sl_putI (D := 0) lf_RX4_52 fP_3_7 (Or.inl rfl) g.2.2 rfl (by omega) ⟨hN1, hN2⟩ dX4_becomeFree_20 ?_
  obtain ⟨s7, hs8, h⟩ := sl_bind h
  rw [Option.some.inj hs8]
  refine sm_aload_n dX4_becomeFree_23 rfl ?_
  refine sm_bipush dX4_becomeFree_24 rfl ?_
  refine sl_putI (D := 0) lf_RX4_55 fP_3_8 (Or.inl rfl) g.2.2 rfl (by omega) ⟨hN1, hN2⟩ dX4_becomeFree_26 ?_
  obtain ⟨s9, hs10, h⟩ := sl_bind h
  rw [Option.some.inj hs10]
  cases h
  exact sm_return rfl dX4_becomeFree_29
abbrev xPatrol_begin (G : GT) : XT := (G, yX4_begin.cls, cX4_begin, 4, none, decide (yX4_begin.name = "<init>"), 1, 20)
def fPatrol_begin (z1 : Int) (z2 : Int) (z3 : Int) (s : MI) : Option (MI) :=
  Option.bind (some (sm_up s 0 0 z1)) (fun s1 => Option.bind (some (sm_up s1 0 1 z2)) (fun s3 => if z3 = 0 ∨ z3 = 1 then Option.bind (some (sm_up s3 0 2 z3)) (fun s6 => Option.bind (some (sm_up s6 0 4 z1)) (fun s8 => Option.bind (some (sm_up s8 0 9 0)) (fun s10 => Option.bind (some (sm_up s10 0 10 0)) (fun s12 => Option.bind (some (sm_up s12 0 11 0)) (fun s14 => Option.bind (some (sm_up s14 0 12 0)) (fun s16 => Option.bind (some (sm_up s16 0 13 0)) (fun s18 => Option.bind (fPatrol_becomeFree s18) (fun p20 => some p20)))))))) else none))
set_option maxRecDepth 100000 in
set_option maxHeartbeats 4000000 in
theorem bPatrol_begin {G : GT} {E : ET} {o : Nat} {s mi : MI} {z1 : Int} {z2 : Int} {z3 : Int} {w : MI} (g : gO 3 E o)  (h : fPatrol_begin z1 z2 z3 s = some w) : cN G yX4_begin cX4_begin 4 none 1 20 [.inr o, .inl z1, .inl z2, .inl z3] E (sm_gl o 1 s mi) (none, E, sm_gl o 1 w mi) := by
  have hN1 := g.1
  have hN2 := g.2.1
  unfold fPatrol_begin at h
  refine sm_meth (by decide +kernel) (Nat.le_of_ble_eq_true rfl) ?_
  show sM (xPatrol_begin G) 0 [some (.inr o), some (.inl z1), some (.inl z2), some (.inl z3)] [] E (sm_gl o 1 s mi) _
  refine sm_aload_n dX4_begin_0 rfl ?_
  refine sm_iload_n dX4_begin_1 rfl ?_
  refine sl_putI (D := 0) lf_RX4_9 fP_3_0 (Or.inl rfl) g.2.2 rfl (by omega) ⟨hN1, hN2⟩ dX4_begin_2 ?_
  obtain ⟨s1, hs2, h⟩ := sl_bind h
  rw [Option.some.inj hs2]
  refine sm_aload_n dX4_begin_5 rfl ?_
  refine sm_iload_n dX4_begin_6 rfl ?_
  refine sl_putI (D := 0) lf_RX4_15 fP_3_1 (Or.inl rfl) g.2.2 rfl (by omega) ⟨hN1, hN2⟩ dX4_begin_7 ?_
  obtain ⟨s3, hs4, h⟩ := sl_bind h
  rw [Option.some.inj hs4]
  refine sm_aload_n dX4_begin_10 rfl ?_
  refine sm_iload_n dX4_begin_11 rfl ?_
  obtain ⟨q5, h⟩ := sl_guard h
  refine sl_putI (D := 0) lf_RX4_18 fP_3_2 (Or.inr ⟨rfl, q5⟩) g.2.2 rfl (by omega) ⟨hN1, hN2⟩ dX4_begin_12 ?_
  obtain ⟨s6, hs7, h⟩ := sl_bind h
  rw [Option.some.inj hs7]
  refine sm_aload_n dX4_begin_15 rfl ?_
  refine sm_iload_n dX4_begin_16 rfl ?_
  refine sl_putI (D := 0) lf_RX4_22 fP_3_4 (Or.inl rfl) g.2.2 rfl (by omega) ⟨hN1, hN2⟩ dX4_begin_17 ?_
  obtain ⟨s8, hs9, h⟩ := sl_bind h
  rw [Option.some.inj hs9]
  refine sm_aload_n dX4_begin_20 rfl ?_
  refine sm_iconst dX4_begin_21 ?_
  refine sl_putI (D := 0) lf_RX4_25 fP_3_9 (Or.inl rfl) g.2.2 rfl (by omega) ⟨hN1, hN2⟩ dX4_begin_22 ?_
  obtain ⟨s10, hs11, h⟩ := sl_bind h
  rw [Option.some.inj hs11]
  refine sm_aload_n dX4_begin_25 rfl ?_
  refine sm_iconst dX4_begin_26 ?_
  refine sl_putI (D := 0) lf_RX4_28 fP_3_10 (Or.inl rfl) g.2.2 rfl (by omega) ⟨hN1, hN2⟩ dX4_begin_27 ?_
  obtain ⟨s12, hs13, h⟩ := sl_bind h
  rw [Option.some.inj hs13]
  refine sm_aload_n dX4_begin_30 rfl ?_
  refine sm_iconst dX4_begin_31 ?_
  refine sl_putI (D := 0) lf_RX4_31 fP_3_11 (Or.inl rfl) g.2.2 rfl (by omega) ⟨hN1, hN2⟩ dX4_begin_32 ?_
  obtain ⟨s14, hs15, h⟩ := sl_bind h
  rw [Option.some.inj hs15]
  refine sm_aload_n dX4_begin_35 rfl ?_
  refine sm_iconst dX4_begin_36 ?_
  refine sl_putI (D := 0) lf_RX4_34 fP_3_12 (Or.inl rfl) g.2.2 rfl (by omega) ⟨hN1, hN2⟩ dX4_begin_37 ?_
  obtain ⟨s16, hs17, h⟩ := sl_bind h
  rw [Option.some.inj hs17]
  refine sm_aload_n dX4_begin_40 rfl ?_
  refine sm_iconst dX4_begin_41 ?_
  refine sl_putI (D := 0) lf_RX4_37 fP_3_13 (Or.inl rfl) g.2.2 rfl (by omega) ⟨hN1, hN2⟩ dX4_begin_42 ?_
  obtain ⟨s18, hs19, h⟩ := sl_bind h
  rw [Option.some.inj hs19]
  refine sm_aload_n dX4_begin_45 rfl ?_
  obtain ⟨p20, hp21, h⟩ := sl_bind h
  have hc22 := bPatrol_becomeFree (G := G) (E := E) (o := o) (s := s18) (mi := mi) g  hp21
  refine sc_callV0 (avs := []) (st := []) lk_RX4_40 rfl vf_X4_becomeFree hc22 ⟨(Nat.le_of_ble_eq_true rfl), (Nat.le_of_ble_eq_true rfl)⟩ ⟨rfl, (Nat.le_of_ble_eq_true rfl)⟩ g.2.2 (by omega) rfl dX4_begin_46 ?_
  cases h
  exact sm_return rfl dX4_begin_49
abbrev xGarage_begin (G : GT) : XT := (G, yX3_begin.cls, cX3_begin, 3, none, decide (yX3_begin.name = "<init>"), 0, 0)
def fGarage_begin (z1 : Int) (z2 : Int) (s : MI) : Option (MI) :=
  Option.bind (some (sm_up s 0 0 z1)) (fun s1 => Option.bind (some (sm_up s1 0 1 z2)) (fun s3 => Option.bind (some (sm_up s3 0 2 0)) (fun s5 => Option.bind (some (sm_up s5 0 3 0)) (fun s7 => Option.bind (some (sm_up s7 0 4 0)) (fun s9 => some s9)))))
set_option maxRecDepth 100000 in
set_option maxHeartbeats 4000000 in
theorem bGarage_begin {G : GT} {E : ET} {o : Nat} {s mi : MI} {z1 : Int} {z2 : Int} {w : MI} (g : gO 2 E o)  (h : fGarage_begin z1 z2 s = some w) : cN G yX3_begin cX3_begin 3 none 0 0 [.inr o, .inl z1, .inl z2] E (sm_gl o 1 s mi) (none, E, sm_gl o 1 w mi) := by
  have hN1 := g.1
  have hN2 := g.2.1
  unfold fGarage_begin at h
  refine sm_meth (by decide +kernel) (Nat.le_of_ble_eq_true rfl) ?_
  show sM (xGarage_begin G) 0 [some (.inr o), some (.inl z1), some (.inl z2)] [] E (sm_gl o 1 s mi) _
  refine sm_aload_n dX3_begin_0 rfl ?_
  refine sm_iload_n dX3_begin_1 rfl ?_
  refine sl_putI (D := 0) lf_RX3_7 fP_2_0 (Or.inl rfl) g.2.2 rfl (by omega) ⟨hN1, hN2⟩ dX3_begin_2 ?_
  obtain ⟨s1, hs2, h⟩ := sl_bind h
  rw [Option.some.inj hs2]
  refine sm_aload_n dX3_begin_5 rfl ?_
  refine sm_iload_n dX3_begin_6 rfl ?_
  refine sl_putI (D := 0) lf_RX3_13 fP_2_1 (Or.inl rfl) g.2.2 rfl (by omega) ⟨hN1, hN2⟩ dX3_begin_7 ?_
  obtain ⟨s3, hs4, h⟩ := sl_bind h
  rw [Option.some.inj hs4]
  refine sm_aload_n dX3_begin_10 rfl ?_
  refine sm_iconst dX3_begin_11 ?_
  refine sl_putI (D := 0) lf_RX3_16 fP_2_2 (Or.inl rfl) g.2.2 rfl (by omega) ⟨hN1, hN2⟩ dX3_begin_12 ?_
  obtain ⟨s5, hs6, h⟩ := sl_bind h
  rw [Option.some.inj hs6]
  refine sm_aload_n dX3_begin_15 rfl ?_
  refine sm_iconst dX3_begin_16 ?_
  refine sl_putI (D := 0) lf_RX3_19 fP_2_3 (Or.inl rfl) g.2.2 rfl (by omega) ⟨hN1, hN2⟩ dX3_begin_17 ?_
  obtain ⟨s7, hs8, h⟩ := sl_bind h
  rw [Option.some.inj hs8]
  refine sm_aload_n dX3_begin_20 rfl ?_
  refine sm_iconst dX3_begin_21 ?_
  refine sl_putI (D := 0) lf_RX3_22 fP_2_4 (Or.inl rfl) g.2.2 rfl (by omega) ⟨hN1, hN2⟩ dX3_begin_22 ?_
  obtain ⟨s9, hs10, h⟩ := sl_bind h
  rw [Option.some.inj hs10]
  cases h
  exact sm_return rfl dX3_begin_25
abbrev xBreakdown_isOpen (G : GT) : XT := (G, yX1_isOpen.cls, cX1_isOpen, 1, (some .boolean), decide (yX1_isOpen.name = "<init>"), 0, 0)
def fBreakdown_isOpen  (s : MI) : Option (Int) :=
  (if 4 < sm_w (s 0 5) then some 0 else some 1)
set_option maxRecDepth 100000 in
set_option maxHeartbeats 4000000 in
theorem bBreakdown_isOpen {G : GT} {E : ET} {o : Nat} {s mi : MI}  {w : Int} (g : gO 0 E o)  (h : fBreakdown_isOpen s = some w) : cN G yX1_isOpen cX1_isOpen 1 (some .boolean) 0 0 [.inr o] E (sm_gl o 1 s mi) (some (.inl w), E, (sm_gl o 1 s mi)) := by
  have hN1 := g.1
  have hN2 := g.2.1
  unfold fBreakdown_isOpen at h
  refine sm_meth (by decide +kernel) (Nat.le_of_ble_eq_true rfl) ?_
  show sM (xBreakdown_isOpen G) 0 [some (.inr o)] [] E (sm_gl o 1 s mi) _
  refine sm_aload_n dX1_isOpen_0 rfl ?_
  refine sl_getI (D := 0) lf_RX1_27 fI_0_5 g.2.2 rfl (by omega) hN2 dX1_isOpen_1 ?_
  refine sm_iconst dX1_isOpen_4 ?_
  refine sc_icmp_gt (X' := sm_w (s 0 5)) (Y' := 4) 12 dX1_isOpen_5 rfl rfl (by decide) (fun c1 => ?_) (fun c1 => ?_)
  · rw [if_pos c1] at h
    refine sm_iconst dX1_isOpen_12 ?_
    cases h
    exact sm_ireturn dX1_isOpen_13 (Or.inr ⟨rfl, Or.inl rfl⟩)
  · rw [if_neg c1] at h
    refine sm_iconst dX1_isOpen_8 ?_
    refine sm_goto 13 dX1_isOpen_9 rfl ?_
    cases h
    exact sm_ireturn dX1_isOpen_13 (Or.inr ⟨rfl, Or.inr rfl⟩)
abbrev xBreakdown_begin (G : GT) : XT := (G, yX1_begin.cls, cX1_begin, 6, none, decide (yX1_begin.name = "<init>"), 0, 0)
def fBreakdown_begin (z1 : Int) (z2 : Int) (z3 : Int) (z4 : Int) (z5 : Int) (s : MI) : Option (MI) :=
  Option.bind (some (sm_up s 0 0 z1)) (fun s1 => Option.bind (some (sm_up s1 0 1 z2)) (fun s3 => Option.bind (some (sm_up s3 0 2 z3)) (fun s5 => Option.bind (some (sm_up s5 0 3 z4)) (fun s7 => Option.bind (some (sm_up s7 0 4 z5)) (fun s9 => Option.bind (some (sm_up s9 0 5 0)) (fun s11 => Option.bind (some (sm_up s11 0 6 (-5))) (fun s13 => Option.bind (some (sm_up s13 0 7 (-5))) (fun s15 => Option.bind (some (sm_up s15 0 8 (-5))) (fun s17 => Option.bind (some (sm_up s17 0 9 (-5))) (fun s19 => Option.bind (some (sm_up s19 0 10 0)) (fun s21 => some s21)))))))))))
set_option maxRecDepth 100000 in
set_option maxHeartbeats 4000000 in
theorem bBreakdown_begin {G : GT} {E : ET} {o : Nat} {s mi : MI} {z1 : Int} {z2 : Int} {z3 : Int} {z4 : Int} {z5 : Int} {w : MI} (g : gO 0 E o)  (h : fBreakdown_begin z1 z2 z3 z4 z5 s = some w) : cN G yX1_begin cX1_begin 6 none 0 0 [.inr o, .inl z1, .inl z2, .inl z3, .inl z4, .inl z5] E (sm_gl o 1 s mi) (none, E, sm_gl o 1 w mi) := by
  have hN1 := g.1
  have hN2 := g.2.1
  unfold fBreakdown_begin at h
  refine sm_meth (by decide +kernel) (Nat.le_of_ble_eq_true rfl) ?_
  show sM (xBreakdown_begin G) 0 [some (.inr o), some (.inl z1), some (.inl z2), some (.inl z3), some (.inl z4), some (.inl z5)] [] E (sm_gl o 1 s mi) _
  refine sm_aload_n dX1_begin_0 rfl ?_
  refine sm_iload_n dX1_begin_1 rfl ?_
  refine sl_putI (D := 0) lf_RX1_9 fP_0_0 (Or.inl rfl) g.2.2 rfl (by omega) ⟨hN1, hN2⟩ dX1_begin_2 ?_
  obtain ⟨s1, hs2, h⟩ := sl_bind h
  rw [Option.some.inj hs2]
  refine sm_aload_n dX1_begin_5 rfl ?_
  refine sm_iload_n dX1_begin_6 rfl ?_
  refine sl_putI (D := 0) lf_RX1_15 fP_0_1 (Or.inl rfl) g.2.2 rfl (by omega) ⟨hN1, hN2⟩ dX1_begin_7 ?_
  obtain ⟨s3, hs4, h⟩ := sl_bind h
  rw [Option.some.inj hs4]
  refine sm_aload_n dX1_begin_10 rfl ?_
  refine sm_iload_n dX1_begin_11 rfl ?_
  refine sl_putI (D := 0) lf_RX1_18 fP_0_2 (Or.inl rfl) g.2.2 rfl (by omega) ⟨hN1, hN2⟩ dX1_begin_12 ?_
  obtain ⟨s5, hs6, h⟩ := sl_bind h
  rw [Option.some.inj hs6]
  refine sm_aload_n dX1_begin_15 rfl ?_
  refine sm_iload dX1_begin_16 rfl ?_
  refine sl_putI (D := 0) lf_RX1_21 fP_0_3 (Or.inl rfl) g.2.2 rfl (by omega) ⟨hN1, hN2⟩ dX1_begin_18 ?_
  obtain ⟨s7, hs8, h⟩ := sl_bind h
  rw [Option.some.inj hs8]
  refine sm_aload_n dX1_begin_21 rfl ?_
  refine sm_iload dX1_begin_22 rfl ?_
  refine sl_putI (D := 0) lf_RX1_24 fP_0_4 (Or.inl rfl) g.2.2 rfl (by omega) ⟨hN1, hN2⟩ dX1_begin_24 ?_
  obtain ⟨s9, hs10, h⟩ := sl_bind h
  rw [Option.some.inj hs10]
  refine sm_aload_n dX1_begin_27 rfl ?_
  refine sm_iconst dX1_begin_28 ?_
  refine sl_putI (D := 0) lf_RX1_27 fP_0_5 (Or.inl rfl) g.2.2 rfl (by omega) ⟨hN1, hN2⟩ dX1_begin_29 ?_
  obtain ⟨s11, hs12, h⟩ := sl_bind h
  rw [Option.some.inj hs12]
  refine sm_aload_n dX1_begin_32 rfl ?_
  refine sm_bipush dX1_begin_33 rfl ?_
  refine sl_putI (D := 0) lf_RX1_30 fP_0_6 (Or.inl rfl) g.2.2 rfl (by omega) ⟨hN1, hN2⟩ dX1_begin_35 ?_
  obtain ⟨s13, hs14, h⟩ := sl_bind h
  rw [Option.some.inj hs14]
  refine sm_aload_n dX1_begin_38 rfl ?_
  refine sm_bipush dX1_begin_39 rfl ?_
  refine sl_putI (D := 0) lf_RX1_33 fP_0_7 (Or.inl rfl) g.2.2 rfl (by omega) ⟨hN1, hN2⟩ dX1_begin_41 ?_
  obtain ⟨s15, hs16, h⟩ := sl_bind h
  rw [Option.some.inj hs16]
  refine sm_aload_n dX1_begin_44 rfl ?_
  refine sm_bipush dX1_begin_45 rfl ?_
  refine sl_putI (D := 0) lf_RX1_36 fP_0_8 (Or.inl rfl) g.2.2 rfl (by omega) ⟨hN1, hN2⟩ dX1_begin_47 ?_
  obtain ⟨s17, hs18, h⟩ := sl_bind h
  rw [Option.some.inj hs18]
  refine sm_aload_n dX1_begin_50 rfl ?_
  refine sm_bipush dX1_begin_51 rfl ?_
  refine sl_putI (D := 0) lf_RX1_39 fP_0_9 (Or.inl rfl) g.2.2 rfl (by omega) ⟨hN1, hN2⟩ dX1_begin_53 ?_
  obtain ⟨s19, hs20, h⟩ := sl_bind h
  rw [Option.some.inj hs20]
  refine sm_aload_n dX1_begin_56 rfl ?_
  refine sm_iconst dX1_begin_57 ?_
  refine sl_putI (D := 0) lf_RX1_42 fP_0_10 (Or.inr ⟨rfl, Or.inl rfl⟩) g.2.2 rfl (by omega) ⟨hN1, hN2⟩ dX1_begin_58 ?_
  obtain ⟨s21, hs22, h⟩ := sl_bind h
  rw [Option.some.inj hs22]
  cases h
  exact sm_return rfl dX1_begin_61
abbrev xBreakdown_isUnattended (G : GT) : XT := (G, yX1_isUnattended.cls, cX1_isUnattended, 1, (some .boolean), decide (yX1_isUnattended.name = "<init>"), 0, 0)
def fBreakdown_isUnattended_j15  (s : MI) : Option (Int) :=
  some 1
set_option maxRecDepth 100000 in
set_option maxHeartbeats 4000000 in
theorem bBreakdown_isUnattended_j15 {G : GT} {E : ET} {o : Nat} {s mi : MI}  {w : Int} (g : gO 0 E o)  (h : fBreakdown_isUnattended_j15 s = some w) : sM (xBreakdown_isUnattended G) 15 [none] [] E (sm_gl o 1 s mi) (some (.inl w), E, (sm_gl o 1 s mi)) := by
  have hN1 := g.1
  have hN2 := g.2.1
  unfold fBreakdown_isUnattended_j15 at h
  refine sm_iconst dX1_isUnattended_15 ?_
  refine sm_goto 20 dX1_isUnattended_16 rfl ?_
  cases h
  exact sm_ireturn dX1_isUnattended_20 (Or.inr ⟨rfl, Or.inr rfl⟩)
def fBreakdown_isUnattended  (s : MI) : Option (Int) :=
  (if sm_w (s 0 5) = 0 then fBreakdown_isUnattended_j15 s else (if sm_w (s 0 5) = 1 then fBreakdown_isUnattended_j15 s else some 0))
set_option maxRecDepth 100000 in
set_option maxHeartbeats 4000000 in
theorem bBreakdown_isUnattended {G : GT} {E : ET} {o : Nat} {s mi : MI}  {w : Int} (g : gO 0 E o)  (h : fBreakdown_isUnattended s = some w) : cN G yX1_isUnattended cX1_isUnattended 1 (some .boolean) 0 0 [.inr o] E (sm_gl o 1 s mi) (some (.inl w), E, (sm_gl o 1 s mi)) := by
  have hN1 := g.1
  have hN2 := g.2.1
  unfold fBreakdown_isUnattended at h
  refine sm_meth (by decide +kernel) (Nat.le_of_ble_eq_true rfl) ?_
  show sM (xBreakdown_isUnattended G) 0 [some (.inr o)] [] E (sm_gl o 1 s mi) _
  refine sm_aload_n dX1_isUnattended_0 rfl ?_
  refine sl_getI (D := 0) lf_RX1_27 fI_0_5 g.2.2 rfl (by omega) hN2 dX1_isUnattended_1 ?_
  refine sm_if_eq 15 dX1_isUnattended_4 rfl (fun c2 => ?_) (fun c2 => ?_)
  · rw [if_pos c2] at h
    exact sm_less (lv' := [none]) trivial (bBreakdown_isUnattended_j15 g   h)
  · rw [if_neg c2] at h
    refine sm_aload_n dX1_isUnattended_7 rfl ?_
    refine sl_getI (D := 0) lf_RX1_27 fI_0_5 g.2.2 rfl (by omega) hN2 dX1_isUnattended_8 ?_
    refine sm_iconst dX1_isUnattended_11 ?_
    refine sc_icmp_ne (X' := sm_w (s 0 5)) (Y' := 1) 19 dX1_isUnattended_12 rfl rfl (by decide) (fun c1 => ?_) (fun c1 => ?_)
    · rw [if_neg c1] at h
      refine sm_iconst dX1_isUnattended_19 ?_
      cases h
      exact sm_ireturn dX1_isUnattended_20 (Or.inr ⟨rfl, Or.inl rfl⟩)
    · rw [if_pos c1] at h
      exact sm_less (lv' := [none]) trivial (bBreakdown_isUnattended_j15 g   h)
abbrev xBreakdown_end (G : GT) : XT := (G, yX1_end.cls, cX1_end, 3, none, decide (yX1_end.name = "<init>"), 0, 0)
def fBreakdown_end (z1 : Int) (z2 : Int) (s : MI) : Option (MI) :=
  Option.bind (some (sm_up s 0 5 z1)) (fun s1 => Option.bind (some (sm_up s1 0 8 z2)) (fun s3 => some s3))
set_option maxRecDepth 100000 in
set_option maxHeartbeats 4000000 in
theorem bBreakdown_end {G : GT} {E : ET} {o : Nat} {s mi : MI} {z1 : Int} {z2 : Int} {w : MI} (g : gO 0 E o)  (h : fBreakdown_end z1 z2 s = some w) : cN G yX1_end cX1_end 3 none 0 0 [.inr o, .inl z1, .inl z2] E (sm_gl o 1 s mi) (none, E, sm_gl o 1 w mi) := by
  have hN1 := g.1
  have hN2 := g.2.1
  unfold fBreakdown_end at h
  refine sm_meth (by decide +kernel) (Nat.le_of_ble_eq_true rfl) ?_
  show sM (xBreakdown_end G) 0 [some (.inr o), some (.inl z1), some (.inl z2)] [] E (sm_gl o 1 s mi) _
  refine sm_aload_n dX1_end_0 rfl ?_
  refine sm_iload_n dX1_end_1 rfl ?_
  refine sl_putI (D := 0) lf_RX1_27 fP_0_5 (Or.inl rfl) g.2.2 rfl (by omega) ⟨hN1, hN2⟩ dX1_end_2 ?_
  obtain ⟨s1, hs2, h⟩ := sl_bind h
  rw [Option.some.inj hs2]
  refine sm_aload_n dX1_end_5 rfl ?_
  refine sm_iload_n dX1_end_6 rfl ?_
  refine sl_putI (D := 0) lf_RX1_36 fP_0_8 (Or.inl rfl) g.2.2 rfl (by omega) ⟨hN1, hN2⟩ dX1_end_7 ?_
  obtain ⟨s3, hs4, h⟩ := sl_bind h
  rw [Option.some.inj hs4]
  cases h
  exact sm_return rfl dX1_end_10
abbrev xBreakdown_waited (G : GT) : XT := (G, yX1_waited.cls, cX1_waited, 2, (some .int), decide (yX1_waited.name = "<init>"), 0, 0)
def fBreakdown_waited_j36 (y0 : Int) (s : MI) : Option (Int) :=
  some (y0 - (s 0 4))
set_option maxRecDepth 100000 in
set_option maxHeartbeats 4000000 in
theorem bBreakdown_waited_j36 {G : GT} {E : ET} {o : Nat} {s mi : MI} {y0 : Int} {w : Int} (g : gO 0 E o)  (h : fBreakdown_waited_j36 y0 s = some w) : sM (xBreakdown_waited G) 36 [some (.inr o), none] [.inl y0] E (sm_gl o 1 s mi) (some (.inl w), E, (sm_gl o 1 s mi)) := by
  have hN1 := g.1
  have hN2 := g.2.1
  unfold fBreakdown_waited_j36 at h
  refine sm_aload_n dX1_waited_36 rfl ?_
  refine sl_getI (D := 0) lf_RX1_24 fI_0_4 g.2.2 rfl (by omega) hN2 dX1_waited_37 ?_
  refine sm_isub dX1_waited_40 ?_
  cases h
  exact sm_ireturn dX1_waited_41 (Or.inl rfl)
def fBreakdown_waited (z1 : Int) (s : MI) : Option (Int) :=
  (if sm_w (s 0 7) = (-5) then (if sm_w (s 0 8) = (-5) then fBreakdown_waited_j36 z1 s else fBreakdown_waited_j36 (s 0 8) s) else some ((s 0 7) - (s 0 4)))
set_option maxRecDepth 100000 in
set_option maxHeartbeats 4000000 in
theorem bBreakdown_waited {G : GT} {E : ET} {o : Nat} {s mi : MI} {z1 : Int} {w : Int} (g : gO 0 E o)  (h : fBreakdown_waited z1 s = some w) : cN G yX1_waited cX1_waited 2 (some .int) 0 0 [.inr o, .inl z1] E (sm_gl o 1 s mi) (some (.inl w), E, (sm_gl o 1 s mi)) := by
  have hN1 := g.1
  have hN2 := g.2.1
  unfold fBreakdown_waited at h
  refine sm_meth (by decide +kernel) (Nat.le_of_ble_eq_true rfl) ?_
  show sM (xBreakdown_waited G) 0 [some (.inr o), some (.inl z1)] [] E (sm_gl o 1 s mi) _
  refine sm_aload_n dX1_waited_0 rfl ?_
  refine sl_getI (D := 0) lf_RX1_33 fI_0_7 g.2.2 rfl (by omega) hN2 dX1_waited_1 ?_
  refine sm_bipush dX1_waited_4 rfl ?_
  refine sc_icmp_eq (X' := sm_w (s 0 7)) (Y' := (-5)) 19 dX1_waited_6 rfl rfl (by decide) (fun c2 => ?_) (fun c2 => ?_)
  · rw [if_pos c2] at h
    refine sm_aload_n dX1_waited_19 rfl ?_
    refine sl_getI (D := 0) lf_RX1_36 fI_0_8 g.2.2 rfl (by omega) hN2 dX1_waited_20 ?_
    refine sm_bipush dX1_waited_23 rfl ?_
    refine sc_icmp_eq (X' := sm_w (s 0 8)) (Y' := (-5)) 35 dX1_waited_25 rfl rfl (by decide) (fun c1 => ?_) (fun c1 => ?_)
    · rw [if_pos c1] at h
      refine sm_iload_n dX1_waited_35 rfl ?_
      exact sm_less (lv' := [some (.inr o), none]) ⟨rfl, trivial⟩ (bBreakdown_waited_j36 g   h)
    · rw [if_neg c1] at h
      refine sm_aload_n dX1_waited_28 rfl ?_
      refine sl_getI (D := 0) lf_RX1_36 fI_0_8 g.2.2 rfl (by omega) hN2 dX1_waited_29 ?_
      refine sm_goto 36 dX1_waited_32 rfl ?_
      exact sm_less (lv' := [some (.inr o), none]) ⟨rfl, trivial⟩ (bBreakdown_waited_j36 g   h)
  · rw [if_neg c2] at h
    refine sm_aload_n dX1_waited_9 rfl ?_
    refine sl_getI (D := 0) lf_RX1_33 fI_0_7 g.2.2 rfl (by omega) hN2 dX1_waited_10 ?_
    refine sm_aload_n dX1_waited_13 rfl ?_
    refine sl_getI (D := 0) lf_RX1_24 fI_0_4 g.2.2 rfl (by omega) hN2 dX1_waited_14 ?_
    refine sm_isub dX1_waited_17 ?_
    cases h
    exact sm_ireturn dX1_waited_18 (Or.inl rfl)
abbrev xPatrol_isBusy (G : GT) : XT := (G, yX4_isBusy.cls, cX4_isBusy, 1, (some .boolean), decide (yX4_isBusy.name = "<init>"), 0, 0)
def fPatrol_isBusy_j24  (s : MI) : Option (Int) :=
  some 1
set_option maxRecDepth 100000 in
set_option maxHeartbeats 4000000 in
theorem bPatrol_isBusy_j24 {G : GT} {E : ET} {o : Nat} {s mi : MI}  {w : Int} (g : gO 3 E o)  (h : fPatrol_isBusy_j24 s = some w) : sM (xPatrol_isBusy G) 24 [none] [] E (sm_gl o 1 s mi) (some (.inl w), E, (sm_gl o 1 s mi)) := by
  have hN1 := g.1
  have hN2 := g.2.1
  unfold fPatrol_isBusy_j24 at h
  refine sm_iconst dX4_isBusy_24 ?_
  refine sm_goto 29 dX4_isBusy_25 rfl ?_
  cases h
  exact sm_ireturn dX4_isBusy_29 (Or.inr ⟨rfl, Or.inr rfl⟩)
def fPatrol_isBusy  (s : MI) : Option (Int) :=
  (if sm_w (s 0 3) = 1 then fPatrol_isBusy_j24 s else (if sm_w (s 0 3) = 2 then fPatrol_isBusy_j24 s else (if sm_w (s 0 3) = 3 then fPatrol_isBusy_j24 s else some 0)))
set_option maxRecDepth 100000 in
set_option maxHeartbeats 4000000 in
theorem bPatrol_isBusy {G : GT} {E : ET} {o : Nat} {s mi : MI}  {w : Int} (g : gO 3 E o)  (h : fPatrol_isBusy s = some w) : cN G yX4_isBusy cX4_isBusy 1 (some .boolean) 0 0 [.inr o] E (sm_gl o 1 s mi) (some (.inl w), E, (sm_gl o 1 s mi)) := by
  have hN1 := g.1
  have hN2 := g.2.1
  unfold fPatrol_isBusy at h
  refine sm_meth (by decide +kernel) (Nat.le_of_ble_eq_true rfl) ?_
  show sM (xPatrol_isBusy G) 0 [some (.inr o)] [] E (sm_gl o 1 s mi) _
  refine sm_aload_n dX4_isBusy_0 rfl ?_
  refine sl_getI (D := 0) lf_RX4_43 fI_3_3 g.2.2 rfl (by omega) hN2 dX4_isBusy_1 ?_
  refine sm_iconst dX4_isBusy_4 ?_
  refine sc_icmp_eq (X' := sm_w (s 0 3)) (Y' := 1) 24 dX4_isBusy_5 rfl rfl (by decide) (fun c3 => ?_) (fun c3 => ?_)
  · rw [if_pos c3] at h
    exact sm_less (lv' := [none]) trivial (bPatrol_isBusy_j24 g   h)
  · rw [if_neg c3] at h
    refine sm_aload_n dX4_isBusy_8 rfl ?_
    refine sl_getI (D := 0) lf_RX4_43 fI_3_3 g.2.2 rfl (by omega) hN2 dX4_isBusy_9 ?_
    refine sm_iconst dX4_isBusy_12 ?_
    refine sc_icmp_eq (X' := sm_w (s 0 3)) (Y' := 2) 24 dX4_isBusy_13 rfl rfl (by decide) (fun c2 => ?_) (fun c2 => ?_)
    · rw [if_pos c2] at h
      exact sm_less (lv' := [none]) trivial (bPatrol_isBusy_j24 g   h)
    · rw [if_neg c2] at h
      refine sm_aload_n dX4_isBusy_16 rfl ?_
      refine sl_getI (D := 0) lf_RX4_43 fI_3_3 g.2.2 rfl (by omega) hN2 dX4_isBusy_17 ?_
      refine sm_iconst dX4_isBusy_20 ?_
      refine sc_icmp_ne (X' := sm_w (s 0 3)) (Y' := 3) 28 dX4_isBusy_21 rfl rfl (by decide) (fun c1 => ?_) (fun c1 => ?_)
      · rw [if_neg c1] at h
        refine sm_iconst dX4_isBusy_28 ?_
        cases h
        exact sm_ireturn dX4_isBusy_29 (Or.inr ⟨rfl, Or.inl rfl⟩)
      · rw [if_pos c1] at h
        exact sm_less (lv' := [none]) trivial (bPatrol_isBusy_j24 g   h)
abbrev xGarage_hasRoom (G : GT) : XT := (G, yX3_hasRoom.cls, cX3_hasRoom, 1, (some .boolean), decide (yX3_hasRoom.name = "<init>"), 0, 0)
def fGarage_hasRoom  (s : MI) : Option (Int) :=
  (if sm_w (s 0 1) ≤ sm_w ((s 0 2) + (s 0 3)) then some 0 else some 1)
set_option maxRecDepth 100000 in
set_option maxHeartbeats 4000000 in
theorem bGarage_hasRoom {G : GT} {E : ET} {o : Nat} {s mi : MI}  {w : Int} (g : gO 2 E o)  (h : fGarage_hasRoom s = some w) : cN G yX3_hasRoom cX3_hasRoom 1 (some .boolean) 0 0 [.inr o] E (sm_gl o 1 s mi) (some (.inl w), E, (sm_gl o 1 s mi)) := by
  have hN1 := g.1
  have hN2 := g.2.1
  unfold fGarage_hasRoom at h
  refine sm_meth (by decide +kernel) (Nat.le_of_ble_eq_true rfl) ?_
  show sM (xGarage_hasRoom G) 0 [some (.inr o)] [] E (sm_gl o 1 s mi) _
  refine sm_aload_n dX3_hasRoom_0 rfl ?_
  refine sl_getI (D := 0) lf_RX3_16 fI_2_2 g.2.2 rfl (by omega) hN2 dX3_hasRoom_1 ?_
  refine sm_aload_n dX3_hasRoom_4 rfl ?_
  refine sl_getI (D := 0) lf_RX3_19 fI_2_3 g.2.2 rfl (by omega) hN2 dX3_hasRoom_5 ?_
  refine sm_iadd dX3_hasRoom_8 ?_
  refine sm_aload_n dX3_hasRoom_9 rfl ?_
  refine sl_getI (D := 0) lf_RX3_13 fI_2_1 g.2.2 rfl (by omega) hN2 dX3_hasRoom_10 ?_
  refine sc_icmp_ge (X' := sm_w ((s 0 2) + (s 0 3))) (Y' := sm_w (s 0 1)) 20 dX3_hasRoom_13 rfl rfl rfl (fun c1 => ?_) (fun c1 => ?_)
  · rw [if_pos c1] at h
    refine sm_iconst dX3_hasRoom_20 ?_
    cases h
    exact sm_ireturn dX3_hasRoom_21 (Or.inr ⟨rfl, Or.inl rfl⟩)
  · rw [if_neg c1] at h
    refine sm_iconst dX3_hasRoom_16 ?_
    refine sm_goto 21 dX3_hasRoom_17 rfl ?_
    cases h
    exact sm_ireturn dX3_hasRoom_21 (Or.inr ⟨rfl, Or.inr rfl⟩)
abbrev xBreakdown_due (G : GT) : XT := (G, yX1_due.cls, cX1_due, 1, (some .int), decide (yX1_due.name = "<init>"), 0, 0)
def fBreakdown_due  (s : MI) : Option (Int) :=
  some ((s 0 4) + (s 0 3))
set_option maxRecDepth 100000 in
set_option maxHeartbeats 4000000 in
theorem bBreakdown_due {G : GT} {E : ET} {o : Nat} {s mi : MI}  {w : Int} (g : gO 0 E o)  (h : fBreakdown_due s = some w) : cN G yX1_due cX1_due 1 (some .int) 0 0 [.inr o] E (sm_gl o 1 s mi) (some (.inl w), E, (sm_gl o 1 s mi)) := by
  have hN1 := g.1
  have hN2 := g.2.1
  unfold fBreakdown_due at h
  refine sm_meth (by decide +kernel) (Nat.le_of_ble_eq_true rfl) ?_
  show sM (xBreakdown_due G) 0 [some (.inr o)] [] E (sm_gl o 1 s mi) _
  refine sm_aload_n dX1_due_0 rfl ?_
  refine sl_getI (D := 0) lf_RX1_24 fI_0_4 g.2.2 rfl (by omega) hN2 dX1_due_1 ?_
  refine sm_aload_n dX1_due_4 rfl ?_
  refine sl_getI (D := 0) lf_RX1_21 fI_0_3 g.2.2 rfl (by omega) hN2 dX1_due_5 ?_
  refine sm_iadd dX1_due_8 ?_
  cases h
  exact sm_ireturn dX1_due_9 (Or.inl rfl)
abbrev xPatrol_leaveFor (G : GT) : XT := (G, yX4_leaveFor.cls, cX4_leaveFor, 3, none, decide (yX4_leaveFor.name = "<init>"), 0, 0)
def fPatrol_leaveFor (z1 : Int) (z2 : Int) (s : MI) : Option (MI) :=
  Option.bind (some (sm_up s 0 3 1)) (fun s1 => Option.bind (some (sm_up s1 0 5 z1)) (fun s3 => Option.bind (some (sm_up s3 0 6 z2)) (fun s5 => some s5)))
set_option maxRecDepth 100000 in
set_option maxHeartbeats 4000000 in
theorem bPatrol_leaveFor {G : GT} {E : ET} {o : Nat} {s mi : MI} {z1 : Int} {z2 : Int} {w : MI} (g : gO 3 E o)  (h : fPatrol_leaveFor z1 z2 s = some w) : cN G yX4_leaveFor cX4_leaveFor 3 none 0 0 [.inr o, .inl z1, .inl z2] E (sm_gl o 1 s mi) (none, E, sm_gl o 1 w mi) := by
  have hN1 := g.1
  have hN2 := g.2.1
  unfold fPatrol_leaveFor at h
  refine sm_meth (by decide +kernel) (Nat.le_of_ble_eq_true rfl) ?_
  show sM (xPatrol_leaveFor G) 0 [some (.inr o), some (.inl z1), some (.inl z2)] [] E (sm_gl o 1 s mi) _
  refine sm_aload_n dX4_leaveFor_0 rfl ?_
  refine sm_iconst dX4_leaveFor_1 ?_
  refine sl_putI (D := 0) lf_RX4_43 fP_3_3 (Or.inl rfl) g.2.2 rfl (by omega) ⟨hN1, hN2⟩ dX4_leaveFor_2 ?_
  obtain ⟨s1, hs2, h⟩ := sl_bind h
  rw [Option.some.inj hs2]
  refine sm_aload_n dX4_leaveFor_5 rfl ?_
  refine sm_iload_n dX4_leaveFor_6 rfl ?_
  refine sl_putI (D := 0) lf_RX4_46 fP_3_5 (Or.inl rfl) g.2.2 rfl (by omega) ⟨hN1, hN2⟩ dX4_leaveFor_7 ?_
  obtain ⟨s3, hs4, h⟩ := sl_bind h
  rw [Option.some.inj hs4]
  refine sm_aload_n dX4_leaveFor_10 rfl ?_
  refine sm_iload_n dX4_leaveFor_11 rfl ?_
  refine sl_putI (D := 0) lf_RX4_49 fP_3_6 (Or.inl rfl) g.2.2 rfl (by omega) ⟨hN1, hN2⟩ dX4_leaveFor_12 ?_
  obtain ⟨s5, hs6, h⟩ := sl_bind h
  rw [Option.some.inj hs6]
  cases h
  exact sm_return rfl dX4_leaveFor_15
abbrev xBreakdown_isLate (G : GT) : XT := (G, yX1_isLate.cls, cX1_isLate, 1, (some .boolean), decide (yX1_isLate.name = "<init>"), 1, 20)
def fBreakdown_isLate  (s : MI) : Option (Int) :=
  (if sm_w (s 0 7) = (-5) then some 0 else Option.bind (fBreakdown_due s) (fun p1 => (if sm_w (s 0 7) ≤ sm_w p1 then some 0 else some 1)))
set_option maxRecDepth 100000 in
set_option maxHeartbeats 4000000 in
theorem bBreakdown_isLate {G : GT} {E : ET} {o : Nat} {s mi : MI}  {w : Int} (g : gO 0 E o)  (h : fBreakdown_isLate s = some w) : cN G yX1_isLate cX1_isLate 1 (some .boolean) 1 20 [.inr o] E (sm_gl o 1 s mi) (some (.inl w), E, (sm_gl o 1 s mi)) := by
  have hN1 := g.1
  have hN2 := g.2.1
  unfold fBreakdown_isLate at h
  refine sm_meth (by decide +kernel) (Nat.le_of_ble_eq_true rfl) ?_
  show sM (xBreakdown_isLate G) 0 [some (.inr o)] [] E (sm_gl o 1 s mi) _
  refine sm_aload_n dX1_isLate_0 rfl ?_
  refine sl_getI (D := 0) lf_RX1_33 fI_0_7 g.2.2 rfl (by omega) hN2 dX1_isLate_1 ?_
  refine sm_bipush dX1_isLate_4 rfl ?_
  refine sc_icmp_eq (X' := sm_w (s 0 7)) (Y' := (-5)) 24 dX1_isLate_6 rfl rfl (by decide) (fun c5 => ?_) (fun c5 => ?_)
  · rw [if_pos c5] at h
    refine sm_iconst dX1_isLate_24 ?_
    cases h
    exact sm_ireturn dX1_isLate_25 (Or.inr ⟨rfl, Or.inl rfl⟩)
  · rw [if_neg c5] at h
    refine sm_aload_n dX1_isLate_9 rfl ?_
    refine sl_getI (D := 0) lf_RX1_33 fI_0_7 g.2.2 rfl (by omega) hN2 dX1_isLate_10 ?_
    refine sm_aload_n dX1_isLate_13 rfl ?_
    obtain ⟨p1, hp2, h⟩ := sl_bind h
    have hc3 := bBreakdown_due (G := G) (E := E) (o := o) (s := s) (mi := mi) g  hp2
    refine sc_callV1 (avs := []) (st := [.inl (s 0 7)]) lk_RX1_46 rfl vf_X1_due hc3 ⟨(Nat.le_of_ble_eq_true rfl), (Nat.le_of_ble_eq_true rfl)⟩ ⟨rfl, (Nat.le_of_ble_eq_true rfl)⟩ g.2.2 (by omega) rfl dX1_isLate_14 ?_
    refine sc_icmp_le (X' := sm_w (s 0 7)) (Y' := sm_w p1) 24 dX1_isLate_17 rfl rfl rfl (fun c4 => ?_) (fun c4 => ?_)
    · rw [if_pos c4] at h
      refine sm_iconst dX1_isLate_24 ?_
      cases h
      exact sm_ireturn dX1_isLate_25 (Or.inr ⟨rfl, Or.inl rfl⟩)
    · rw [if_neg c4] at h
      refine sm_iconst dX1_isLate_20 ?_
      refine sm_goto 25 dX1_isLate_21 rfl ?_
      cases h
      exact sm_ireturn dX1_isLate_25 (Or.inr ⟨rfl, Or.inr rfl⟩)
