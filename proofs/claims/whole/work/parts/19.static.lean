abbrev xDesk_isArea (G : GT) : XT := (G, yX9_isArea.cls, cX9_isArea, 1, (some .boolean), decide (yX9_isArea.name = "<init>"), 0, 0)
def fDesk_isArea (z0 : Int) : Option (Int) :=
  (if sm_w z0 < 0 then some 0 else (if 12 ≤ sm_w z0 then some 0 else some 1))
set_option maxRecDepth 100000 in
set_option maxHeartbeats 4000000 in
theorem bDesk_isArea {G : GT} {E : ET} {mi : MI} {z0 : Int} {w : Int}   (h : fDesk_isArea z0 = some w) : cN G yX9_isArea cX9_isArea 1 (some .boolean) 0 0 [.inl z0] E mi (some (.inl w), E, mi) := by
  unfold fDesk_isArea at h
  refine sm_meth (by decide +kernel) (Nat.le_of_ble_eq_true rfl) ?_
  show sM (xDesk_isArea G) 0 [some (.inl z0)] [] E mi _
  refine sm_iload_n dX9_isArea_0 rfl ?_
  refine sm_if_lt 14 dX9_isArea_1 rfl (fun c2 => ?_) (fun c2 => ?_)
  · rw [if_pos c2] at h
    refine sm_iconst dX9_isArea_14 ?_
    cases h
    exact sm_ireturn dX9_isArea_15 (Or.inr ⟨rfl, Or.inl rfl⟩)
  · rw [if_neg c2] at h
    refine sm_iload_n dX9_isArea_4 rfl ?_
    refine sm_bipush dX9_isArea_5 rfl ?_
    refine sc_icmp_ge (X' := sm_w z0) (Y' := 12) 14 dX9_isArea_7 rfl rfl (by decide) (fun c1 => ?_) (fun c1 => ?_)
    · rw [if_pos c1] at h
      refine sm_iconst dX9_isArea_14 ?_
      cases h
      exact sm_ireturn dX9_isArea_15 (Or.inr ⟨rfl, Or.inl rfl⟩)
    · rw [if_neg c1] at h
      refine sm_iconst dX9_isArea_10 ?_
      refine sm_goto 15 dX9_isArea_11 rfl ?_
      cases h
      exact sm_ireturn dX9_isArea_15 (Or.inr ⟨rfl, Or.inr rfl⟩)
abbrev xDesk_isTier (G : GT) : XT := (G, yX9_isTier.cls, cX9_isTier, 1, (some .boolean), decide (yX9_isTier.name = "<init>"), 0, 0)
def fDesk_isTier (z0 : Int) : Option (Int) :=
  (if sm_w z0 < 0 then some 0 else (if 3 ≤ sm_w z0 then some 0 else some 1))
set_option maxRecDepth 100000 in
set_option maxHeartbeats 4000000 in
theorem bDesk_isTier {G : GT} {E : ET} {mi : MI} {z0 : Int} {w : Int}   (h : fDesk_isTier z0 = some w) : cN G yX9_isTier cX9_isTier 1 (some .boolean) 0 0 [.inl z0] E mi (some (.inl w), E, mi) := by
  unfold fDesk_isTier at h
  refine sm_meth (by decide +kernel) (Nat.le_of_ble_eq_true rfl) ?_
  show sM (xDesk_isTier G) 0 [some (.inl z0)] [] E mi _
  refine sm_iload_n dX9_isTier_0 rfl ?_
  refine sm_if_lt 13 dX9_isTier_1 rfl (fun c2 => ?_) (fun c2 => ?_)
  · rw [if_pos c2] at h
    refine sm_iconst dX9_isTier_13 ?_
    cases h
    exact sm_ireturn dX9_isTier_14 (Or.inr ⟨rfl, Or.inl rfl⟩)
  · rw [if_neg c2] at h
    refine sm_iload_n dX9_isTier_4 rfl ?_
    refine sm_iconst dX9_isTier_5 ?_
    refine sc_icmp_ge (X' := sm_w z0) (Y' := 3) 13 dX9_isTier_6 rfl rfl (by decide) (fun c1 => ?_) (fun c1 => ?_)
    · rw [if_pos c1] at h
      refine sm_iconst dX9_isTier_13 ?_
      cases h
      exact sm_ireturn dX9_isTier_14 (Or.inr ⟨rfl, Or.inl rfl⟩)
    · rw [if_neg c1] at h
      refine sm_iconst dX9_isTier_9 ?_
      refine sm_goto 14 dX9_isTier_10 rfl ?_
      cases h
      exact sm_ireturn dX9_isTier_14 (Or.inr ⟨rfl, Or.inr rfl⟩)
abbrev xDesk_regionOf (G : GT) : XT := (G, yX9_regionOf.cls, cX9_regionOf, 1, (some .int), decide (yX9_regionOf.name = "<init>"), 0, 0)
def fDesk_regionOf (z0 : Int) : Option (Int) :=
  some (sm_div z0 4)
set_option maxRecDepth 100000 in
set_option maxHeartbeats 4000000 in
theorem bDesk_regionOf {G : GT} {E : ET} {mi : MI} {z0 : Int} {w : Int}   (h : fDesk_regionOf z0 = some w) : cN G yX9_regionOf cX9_regionOf 1 (some .int) 0 0 [.inl z0] E mi (some (.inl w), E, mi) := by
  unfold fDesk_regionOf at h
  refine sm_meth (by decide +kernel) (Nat.le_of_ble_eq_true rfl) ?_
  show sM (xDesk_regionOf G) 0 [some (.inl z0)] [] E mi _
  refine sm_iload_n dX9_regionOf_0 rfl ?_
  refine sm_iconst dX9_regionOf_1 ?_
  refine sm_idiv dX9_regionOf_2 (by decide) ?_
  cases h
  exact sm_ireturn dX9_regionOf_3 (Or.inl rfl)
