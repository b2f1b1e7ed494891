/-! ===== the model's readers and writers ===== -/
theorem tnn {c : Nat} (h : c < 1000) : (sm_w (c : Int)).toNat = c := by rw [tn (by omega) (by omega)]; omega
theorem twn {c : Nat} (h : c < 1000) : sm_w (c : Int) = c := tw (by omega) (by omega)
def mS (m : MI) (i : Nat) (v : Int) : MI := sm_up m 1 i v
def mP (m : MI) (p w : Nat) (v : Int) : MI := sm_up m 1 (186 + 14 * p + w) v
def mC (m : MI) (c w : Nat) (v : Int) : MI := sm_up m 1 (290 + 13 * c + w) v
def mG (m : MI) (g w : Nat) (v : Int) : MI := sm_up m 1 (270 + 4 * g + w) v
def mM (m : MI) (k w : Nat) (v : Int) : MI := sm_up m 1 (106 + 4 * k + w) v
theorem mP_D {m : MI} {p w d : Nat} {v : Int} (h : ¬ d = 1) : mP m p w v d = m d := up_D h
theorem mP_1 (m : MI) (p w : Nat) (v : Int) : mP m p w v 1 = nu (m 1) (186 + 14 * p + w) v := up_nu m 1 _ v
theorem ofPatrol_g {m : MI} {c w : Nat} (hc : c < 6) (hw : w < 14) : fModel_ofPatrol (c : Int) (w : Int) m = some (vP (m 1) c w) := by
  unfold fModel_ofPatrol vP
  rw [tg (by omega) (by omega) (by omega), tn (by omega) (by omega)]
  simp only [hw, if_true]
  rw [show (186 + 14 * (c : Int) + (w : Int)).toNat = 186 + 14 * c + w by omega]
theorem laysPatrol_g {m : MI} {c w : Nat} {v : Int} (hc : c < 6) (hw : w < 14) : fModel_laysPatrol (c : Int) (w : Int) v m = some (mP m c w v) := by
  unfold fModel_laysPatrol mP
  rw [tg (by omega) (by omega) (by omega), tn (by omega) (by omega), show (186 + 14 * (c : Int) + (w : Int)).toNat = 186 + 14 * c + w by omega]
  rfl
theorem ofPatrol_0 {m : MI} {c : Nat} (hc : c < 6) : fModel_ofPatrol (c : Int) 0 m = some (vP (m 1) c 0) := ofPatrol_g hc (w := 0) (by omega)
theorem laysPatrol_0 {m : MI} {c : Nat} {v : Int} (hc : c < 6) : fModel_laysPatrol (c : Int) 0 v m = some (mP m c 0 v) := laysPatrol_g hc (w := 0) (by omega)
theorem ofPatrol_1 {m : MI} {c : Nat} (hc : c < 6) : fModel_ofPatrol (c : Int) 1 m = some (vP (m 1) c 1) := ofPatrol_g hc (w := 1) (by omega)
theorem laysPatrol_1 {m : MI} {c : Nat} {v : Int} (hc : c < 6) : fModel_laysPatrol (c : Int) 1 v m = some (mP m c 1 v) := laysPatrol_g hc (w := 1) (by omega)
theorem ofPatrol_2 {m : MI} {c : Nat} (hc : c < 6) : fModel_ofPatrol (c : Int) 2 m = some (vP (m 1) c 2) := ofPatrol_g hc (w := 2) (by omega)
theorem laysPatrol_2 {m : MI} {c : Nat} {v : Int} (hc : c < 6) : fModel_laysPatrol (c : Int) 2 v m = some (mP m c 2 v) := laysPatrol_g hc (w := 2) (by omega)
theorem ofPatrol_3 {m : MI} {c : Nat} (hc : c < 6) : fModel_ofPatrol (c : Int) 3 m = some (vP (m 1) c 3) := ofPatrol_g hc (w := 3) (by omega)
theorem laysPatrol_3 {m : MI} {c : Nat} {v : Int} (hc : c < 6) : fModel_laysPatrol (c : Int) 3 v m = some (mP m c 3 v) := laysPatrol_g hc (w := 3) (by omega)
theorem ofPatrol_4 {m : MI} {c : Nat} (hc : c < 6) : fModel_ofPatrol (c : Int) 4 m = some (vP (m 1) c 4) := ofPatrol_g hc (w := 4) (by omega)
theorem laysPatrol_4 {m : MI} {c : Nat} {v : Int} (hc : c < 6) : fModel_laysPatrol (c : Int) 4 v m = some (mP m c 4 v) := laysPatrol_g hc (w := 4) (by omega)
theorem ofPatrol_5 {m : MI} {c : Nat} (hc : c < 6) : fModel_ofPatrol (c : Int) 5 m = some (vP (m 1) c 5) := ofPatrol_g hc (w := 5) (by omega)
theorem laysPatrol_5 {m : MI} {c : Nat} {v : Int} (hc : c < 6) : fModel_laysPatrol (c : Int) 5 v m = some (mP m c 5 v) := laysPatrol_g hc (w := 5) (by omega)
theorem ofPatrol_6 {m : MI} {c : Nat} (hc : c < 6) : fModel_ofPatrol (c : Int) 6 m = some (vP (m 1) c 6) := ofPatrol_g hc (w := 6) (by omega)
theorem laysPatrol_6 {m : MI} {c : Nat} {v : Int} (hc : c < 6) : fModel_laysPatrol (c : Int) 6 v m = some (mP m c 6 v) := laysPatrol_g hc (w := 6) (by omega)
theorem ofPatrol_7 {m : MI} {c : Nat} (hc : c < 6) : fModel_ofPatrol (c : Int) 7 m = some (vP (m 1) c 7) := ofPatrol_g hc (w := 7) (by omega)
theorem laysPatrol_7 {m : MI} {c : Nat} {v : Int} (hc : c < 6) : fModel_laysPatrol (c : Int) 7 v m = some (mP m c 7 v) := laysPatrol_g hc (w := 7) (by omega)
theorem ofPatrol_8 {m : MI} {c : Nat} (hc : c < 6) : fModel_ofPatrol (c : Int) 8 m = some (vP (m 1) c 8) := ofPatrol_g hc (w := 8) (by omega)
theorem laysPatrol_8 {m : MI} {c : Nat} {v : Int} (hc : c < 6) : fModel_laysPatrol (c : Int) 8 v m = some (mP m c 8 v) := laysPatrol_g hc (w := 8) (by omega)
theorem ofPatrol_9 {m : MI} {c : Nat} (hc : c < 6) : fModel_ofPatrol (c : Int) 9 m = some (vP (m 1) c 9) := ofPatrol_g hc (w := 9) (by omega)
theorem laysPatrol_9 {m : MI} {c : Nat} {v : Int} (hc : c < 6) : fModel_laysPatrol (c : Int) 9 v m = some (mP m c 9 v) := laysPatrol_g hc (w := 9) (by omega)
theorem ofPatrol_10 {m : MI} {c : Nat} (hc : c < 6) : fModel_ofPatrol (c : Int) 10 m = some (vP (m 1) c 10) := ofPatrol_g hc (w := 10) (by omega)
theorem laysPatrol_10 {m : MI} {c : Nat} {v : Int} (hc : c < 6) : fModel_laysPatrol (c : Int) 10 v m = some (mP m c 10 v) := laysPatrol_g hc (w := 10) (by omega)
theorem ofPatrol_11 {m : MI} {c : Nat} (hc : c < 6) : fModel_ofPatrol (c : Int) 11 m = some (vP (m 1) c 11) := ofPatrol_g hc (w := 11) (by omega)
theorem laysPatrol_11 {m : MI} {c : Nat} {v : Int} (hc : c < 6) : fModel_laysPatrol (c : Int) 11 v m = some (mP m c 11 v) := laysPatrol_g hc (w := 11) (by omega)
theorem ofPatrol_12 {m : MI} {c : Nat} (hc : c < 6) : fModel_ofPatrol (c : Int) 12 m = some (vP (m 1) c 12) := ofPatrol_g hc (w := 12) (by omega)
theorem laysPatrol_12 {m : MI} {c : Nat} {v : Int} (hc : c < 6) : fModel_laysPatrol (c : Int) 12 v m = some (mP m c 12 v) := laysPatrol_g hc (w := 12) (by omega)
theorem ofPatrol_13 {m : MI} {c : Nat} (hc : c < 6) : fModel_ofPatrol (c : Int) 13 m = some (vP (m 1) c 13) := ofPatrol_g hc (w := 13) (by omega)
theorem laysPatrol_13 {m : MI} {c : Nat} {v : Int} (hc : c < 6) : fModel_laysPatrol (c : Int) 13 v m = some (mP m c 13 v) := laysPatrol_g hc (w := 13) (by omega)
theorem mC_D {m : MI} {p w d : Nat} {v : Int} (h : ¬ d = 1) : mC m p w v d = m d := up_D h
theorem mC_1 (m : MI) (p w : Nat) (v : Int) : mC m p w v 1 = nu (m 1) (290 + 13 * p + w) v := up_nu m 1 _ v
theorem ofCall_g {m : MI} {c w : Nat} (hc : c < 40) (hw : w < 13) : fModel_ofCall (c : Int) (w : Int) m = some (vC (m 1) c w) := by
  unfold fModel_ofCall vC
  rw [tg (by omega) (by omega) (by omega), tn (by omega) (by omega)]
  simp only [hw, if_true]
  rw [show (290 + 13 * (c : Int) + (w : Int)).toNat = 290 + 13 * c + w by omega]
theorem laysCall_g {m : MI} {c w : Nat} {v : Int} (hc : c < 40) (hw : w < 13) : fModel_laysCall (c : Int) (w : Int) v m = some (mC m c w v) := by
  unfold fModel_laysCall mC
  rw [tg (by omega) (by omega) (by omega), tn (by omega) (by omega), show (290 + 13 * (c : Int) + (w : Int)).toNat = 290 + 13 * c + w by omega]
  rfl
theorem ofCall_0 {m : MI} {c : Nat} (hc : c < 40) : fModel_ofCall (c : Int) 0 m = some (vC (m 1) c 0) := ofCall_g hc (w := 0) (by omega)
theorem laysCall_0 {m : MI} {c : Nat} {v : Int} (hc : c < 40) : fModel_laysCall (c : Int) 0 v m = some (mC m c 0 v) := laysCall_g hc (w := 0) (by omega)
theorem ofCall_1 {m : MI} {c : Nat} (hc : c < 40) : fModel_ofCall (c : Int) 1 m = some (vC (m 1) c 1) := ofCall_g hc (w := 1) (by omega)
theorem laysCall_1 {m : MI} {c : Nat} {v : Int} (hc : c < 40) : fModel_laysCall (c : Int) 1 v m = some (mC m c 1 v) := laysCall_g hc (w := 1) (by omega)
theorem ofCall_2 {m : MI} {c : Nat} (hc : c < 40) : fModel_ofCall (c : Int) 2 m = some (vC (m 1) c 2) := ofCall_g hc (w := 2) (by omega)
theorem laysCall_2 {m : MI} {c : Nat} {v : Int} (hc : c < 40) : fModel_laysCall (c : Int) 2 v m = some (mC m c 2 v) := laysCall_g hc (w := 2) (by omega)
theorem ofCall_3 {m : MI} {c : Nat} (hc : c < 40) : fModel_ofCall (c : Int) 3 m = some (vC (m 1) c 3) := ofCall_g hc (w := 3) (by omega)
theorem laysCall_3 {m : MI} {c : Nat} {v : Int} (hc : c < 40) : fModel_laysCall (c : Int) 3 v m = some (mC m c 3 v) := laysCall_g hc (w := 3) (by omega)
theorem ofCall_4 {m : MI} {c : Nat} (hc : c < 40) : fModel_ofCall (c : Int) 4 m = some (vC (m 1) c 4) := ofCall_g hc (w := 4) (by omega)
theorem laysCall_4 {m : MI} {c : Nat} {v : Int} (hc : c < 40) : fModel_laysCall (c : Int) 4 v m = some (mC m c 4 v) := laysCall_g hc (w := 4) (by omega)
theorem ofCall_5 {m : MI} {c : Nat} (hc : c < 40) : fModel_ofCall (c : Int) 5 m = some (vC (m 1) c 5) := ofCall_g hc (w := 5) (by omega)
theorem laysCall_5 {m : MI} {c : Nat} {v : Int} (hc : c < 40) : fModel_laysCall (c : Int) 5 v m = some (mC m c 5 v) := laysCall_g hc (w := 5) (by omega)
theorem ofCall_6 {m : MI} {c : Nat} (hc : c < 40) : fModel_ofCall (c : Int) 6 m = some (vC (m 1) c 6) := ofCall_g hc (w := 6) (by omega)
theorem laysCall_6 {m : MI} {c : Nat} {v : Int} (hc : c < 40) : fModel_laysCall (c : Int) 6 v m = some (mC m c 6 v) := laysCall_g hc (w := 6) (by omega)
theorem ofCall_7 {m : MI} {c : Nat} (hc : c < 40) : fModel_ofCall (c : Int) 7 m = some (vC (m 1) c 7) := ofCall_g hc (w := 7) (by omega)
theorem laysCall_7 {m : MI} {c : Nat} {v : Int} (hc : c < 40) : fModel_laysCall (c : Int) 7 v m = some (mC m c 7 v) := laysCall_g hc (w := 7) (by omega)
theorem ofCall_8 {m : MI} {c : Nat} (hc : c < 40) : fModel_ofCall (c : Int) 8 m = some (vC (m 1) c 8) := ofCall_g hc (w := 8) (by omega)
theorem laysCall_8 {m : MI} {c : Nat} {v : Int} (hc : c < 40) : fModel_laysCall (c : Int) 8 v m = some (mC m c 8 v) := laysCall_g hc (w := 8) (by omega)
theorem ofCall_9 {m : MI} {c : Nat} (hc : c < 40) : fModel_ofCall (c : Int) 9 m = some (vC (m 1) c 9) := ofCall_g hc (w := 9) (by omega)
theorem laysCall_9 {m : MI} {c : Nat} {v : Int} (hc : c < 40) : fModel_laysCall (c : Int) 9 v m = some (mC m c 9 v) := laysCall_g hc (w := 9) (by omega)
theorem ofCall_10 {m : MI} {c : Nat} (hc : c < 40) : fModel_ofCall (c : Int) 10 m = some (vC (m 1) c 10) := ofCall_g hc (w := 10) (by omega)
theorem laysCall_10 {m : MI} {c : Nat} {v : Int} (hc : c < 40) : fModel_laysCall (c : Int) 10 v m = some (mC m c 10 v) := laysCall_g hc (w := 10) (by omega)
theorem ofCall_11 {m : MI} {c : Nat} (hc : c < 40) : fModel_ofCall (c : Int) 11 m = some (vC (m 1) c 11) := ofCall_g hc (w := 11) (by omega)
theorem laysCall_11 {m : MI} {c : Nat} {v : Int} (hc : c < 40) : fModel_laysCall (c : Int) 11 v m = some (mC m c 11 v) := laysCall_g hc (w := 11) (by omega)
theorem ofCall_12 {m : MI} {c : Nat} (hc : c < 40) : fModel_ofCall (c : Int) 12 m = some (vC (m 1) c 12) := ofCall_g hc (w := 12) (by omega)
theorem laysCall_12 {m : MI} {c : Nat} {v : Int} (hc : c < 40) : fModel_laysCall (c : Int) 12 v m = some (mC m c 12 v) := laysCall_g hc (w := 12) (by omega)
theorem mG_D {m : MI} {p w d : Nat} {v : Int} (h : ¬ d = 1) : mG m p w v d = m d := up_D h
theorem mG_1 (m : MI) (p w : Nat) (v : Int) : mG m p w v 1 = nu (m 1) (270 + 4 * p + w) v := up_nu m 1 _ v
theorem ofGarage_g {m : MI} {c w : Nat} (hc : c < 5) (hw : w < 4) : fModel_ofGarage (c : Int) (w : Int) m = some (vG (m 1) c w) := by
  unfold fModel_ofGarage vG
  rw [tg (by omega) (by omega) (by omega), tn (by omega) (by omega)]
  simp only [hw, if_true]
  rw [show (270 + 4 * (c : Int) + (w : Int)).toNat = 270 + 4 * c + w by omega]
theorem ofGarage_0 {m : MI} {c : Nat} (hc : c < 5) : fModel_ofGarage (c : Int) 0 m = some (vG (m 1) c 0) := ofGarage_g hc (w := 0) (by omega)
theorem ofGarage_1 {m : MI} {c : Nat} (hc : c < 5) : fModel_ofGarage (c : Int) 1 m = some (vG (m 1) c 1) := ofGarage_g hc (w := 1) (by omega)
theorem ofGarage_2 {m : MI} {c : Nat} (hc : c < 5) : fModel_ofGarage (c : Int) 2 m = some (vG (m 1) c 2) := ofGarage_g hc (w := 2) (by omega)
theorem ofGarage_3 {m : MI} {c : Nat} (hc : c < 5) : fModel_ofGarage (c : Int) 3 m = some (vG (m 1) c 3) := ofGarage_g hc (w := 3) (by omega)
theorem mM_D {m : MI} {p w d : Nat} {v : Int} (h : ¬ d = 1) : mM m p w v d = m d := up_D h
theorem mM_1 (m : MI) (p w : Nat) (v : Int) : mM m p w v 1 = nu (m 1) (106 + 4 * p + w) v := up_nu m 1 _ v
theorem ofMember_g {m : MI} {c w : Nat} (hc : c < 20) (hw : w < 4) : fModel_ofMember (c : Int) (w : Int) m = some (vM (m 1) c w) := by
  unfold fModel_ofMember vM
  rw [tg (by omega) (by omega) (by omega), tn (by omega) (by omega)]
  simp only [hw, if_true]
  rw [show (106 + 4 * (c : Int) + (w : Int)).toNat = 106 + 4 * c + w by omega]
theorem addsMember_g {m : MI} {c w : Nat} {v : Int} (hc : c < 20) (hw : w < 4) : fModel_addsMember (c : Int) (w : Int) v m = some (mM m c w (vM (m 1) c w + v)) := by
  unfold fModel_addsMember mM vM
  rw [tg (by omega) (by omega) (by omega), tn (by omega) (by omega), show (106 + 4 * (c : Int) + (w : Int)).toNat = 106 + 4 * c + w by omega]
  simp only [hw, if_true]
  rfl
theorem ofMember_0 {m : MI} {c : Nat} (hc : c < 20) : fModel_ofMember (c : Int) 0 m = some (vM (m 1) c 0) := ofMember_g hc (w := 0) (by omega)
theorem addsMember_0 {m : MI} {c : Nat} {v : Int} (hc : c < 20) : fModel_addsMember (c : Int) 0 v m = some (mM m c 0 (vM (m 1) c 0 + v)) := addsMember_g hc (w := 0) (by omega)
theorem ofMember_1 {m : MI} {c : Nat} (hc : c < 20) : fModel_ofMember (c : Int) 1 m = some (vM (m 1) c 1) := ofMember_g hc (w := 1) (by omega)
theorem addsMember_1 {m : MI} {c : Nat} {v : Int} (hc : c < 20) : fModel_addsMember (c : Int) 1 v m = some (mM m c 1 (vM (m 1) c 1 + v)) := addsMember_g hc (w := 1) (by omega)
theorem ofMember_2 {m : MI} {c : Nat} (hc : c < 20) : fModel_ofMember (c : Int) 2 m = some (vM (m 1) c 2) := ofMember_g hc (w := 2) (by omega)
theorem addsMember_2 {m : MI} {c : Nat} {v : Int} (hc : c < 20) : fModel_addsMember (c : Int) 2 v m = some (mM m c 2 (vM (m 1) c 2 + v)) := addsMember_g hc (w := 2) (by omega)
theorem ofMember_3 {m : MI} {c : Nat} (hc : c < 20) : fModel_ofMember (c : Int) 3 m = some (vM (m 1) c 3) := ofMember_g hc (w := 3) (by omega)
theorem addsMember_3 {m : MI} {c : Nat} {v : Int} (hc : c < 20) : fModel_addsMember (c : Int) 3 v m = some (mM m c 3 (vM (m 1) c 3 + v)) := addsMember_g hc (w := 3) (by omega)
theorem mS_D {m : MI} {i d : Nat} {v : Int} (h : ¬ d = 1) : mS m i v d = m d := up_D h
theorem mS_1 (m : MI) (i : Nat) (v : Int) : mS m i v 1 = nu (m 1) i v := up_nu m 1 _ v
theorem vP_mP {m : MI} {p p' w : Nat} {v : Int} (hw : w < 14) : vP (mP m p w v 1) p' = if p' = p then nu (vP (m 1) p) w v else vP (m 1) p' := by rw [mP_1]; exact vP_P hw
theorem vP_mC {m : MI} {p p' w : Nat} {v : Int} (hp : p < 40) (hp' : p' < 6) (hw : w < 13) : vP (mC m p w v 1) p' = vP (m 1) p' := by rw [mC_1]; exact vP_o (by omega)
theorem vP_mG {m : MI} {p p' w : Nat} {v : Int} (hp : p < 5) (hp' : p' < 6) (hw : w < 4) : vP (mG m p w v 1) p' = vP (m 1) p' := by rw [mG_1]; exact vP_o (by omega)
theorem vP_mM {m : MI} {p p' w : Nat} {v : Int} (hp : p < 20) (hp' : p' < 6) (hw : w < 4) : vP (mM m p w v 1) p' = vP (m 1) p' := by rw [mM_1]; exact vP_o (by omega)
theorem vP_mS {m : MI} {i p : Nat} {v : Int} (hi : i < 16) : vP (mS m i v 1) p = vP (m 1) p := by rw [mS_1]; exact vP_o (by omega)
theorem n_mP {m : MI} {p w i : Nat} {v : Int} (hi : i < 106) : mP m p w v 1 i = m 1 i := by rw [mP_1]; exact nu_n (by omega)
theorem vC_mP {m : MI} {p p' w : Nat} {v : Int} (hp : p < 6) (hp' : p' < 40) (hw : w < 14) : vC (mP m p w v 1) p' = vC (m 1) p' := by rw [mP_1]; exact vC_o (by omega)
theorem vC_mC {m : MI} {p p' w : Nat} {v : Int} (hw : w < 13) : vC (mC m p w v 1) p' = if p' = p then nu (vC (m 1) p) w v else vC (m 1) p' := by rw [mC_1]; exact vC_C hw
theorem vC_mG {m : MI} {p p' w : Nat} {v : Int} (hp : p < 5) (hp' : p' < 40) (hw : w < 4) : vC (mG m p w v 1) p' = vC (m 1) p' := by rw [mG_1]; exact vC_o (by omega)
theorem vC_mM {m : MI} {p p' w : Nat} {v : Int} (hp : p < 20) (hp' : p' < 40) (hw : w < 4) : vC (mM m p w v 1) p' = vC (m 1) p' := by rw [mM_1]; exact vC_o (by omega)
theorem vC_mS {m : MI} {i p : Nat} {v : Int} (hi : i < 16) : vC (mS m i v 1) p = vC (m 1) p := by rw [mS_1]; exact vC_o (by omega)
theorem n_mC {m : MI} {p w i : Nat} {v : Int} (hi : i < 106) : mC m p w v 1 i = m 1 i := by rw [mC_1]; exact nu_n (by omega)
theorem vG_mP {m : MI} {p p' w : Nat} {v : Int} (hp : p < 6) (hp' : p' < 5) (hw : w < 14) : vG (mP m p w v 1) p' = vG (m 1) p' := by rw [mP_1]; exact vG_o (by omega)
theorem vG_mC {m : MI} {p p' w : Nat} {v : Int} (hp : p < 40) (hp' : p' < 5) (hw : w < 13) : vG (mC m p w v 1) p' = vG (m 1) p' := by rw [mC_1]; exact vG_o (by omega)
theorem vG_mG {m : MI} {p p' w : Nat} {v : Int} (hw : w < 4) : vG (mG m p w v 1) p' = if p' = p then nu (vG (m 1) p) w v else vG (m 1) p' := by rw [mG_1]; exact vG_G hw
theorem vG_mM {m : MI} {p p' w : Nat} {v : Int} (hp : p < 20) (hp' : p' < 5) (hw : w < 4) : vG (mM m p w v 1) p' = vG (m 1) p' := by rw [mM_1]; exact vG_o (by omega)
theorem vG_mS {m : MI} {i p : Nat} {v : Int} (hi : i < 16) : vG (mS m i v 1) p = vG (m 1) p := by rw [mS_1]; exact vG_o (by omega)
theorem n_mG {m : MI} {p w i : Nat} {v : Int} (hi : i < 106) : mG m p w v 1 i = m 1 i := by rw [mG_1]; exact nu_n (by omega)
theorem vM_mP {m : MI} {p p' w : Nat} {v : Int} (hp : p < 6) (hp' : p' < 20) (hw : w < 14) : vM (mP m p w v 1) p' = vM (m 1) p' := by rw [mP_1]; exact vM_o (by omega)
theorem vM_mC {m : MI} {p p' w : Nat} {v : Int} (hp : p < 40) (hp' : p' < 20) (hw : w < 13) : vM (mC m p w v 1) p' = vM (m 1) p' := by rw [mC_1]; exact vM_o (by omega)
theorem vM_mG {m : MI} {p p' w : Nat} {v : Int} (hp : p < 5) (hp' : p' < 20) (hw : w < 4) : vM (mG m p w v 1) p' = vM (m 1) p' := by rw [mG_1]; exact vM_o (by omega)
theorem vM_mM {m : MI} {p p' w : Nat} {v : Int} (hw : w < 4) : vM (mM m p w v 1) p' = if p' = p then nu (vM (m 1) p) w v else vM (m 1) p' := by rw [mM_1]; exact vM_M hw
theorem vM_mS {m : MI} {i p : Nat} {v : Int} (hi : i < 16) : vM (mS m i v 1) p = vM (m 1) p := by rw [mS_1]; exact vM_o (by omega)
theorem n_mM {m : MI} {p w i : Nat} {v : Int} (hi : i < 106) : mM m p w v 1 i = m 1 i := by rw [mM_1]; exact nu_n (by omega)
theorem n_mS {m : MI} {i j : Nat} {v : Int} (h : ¬ j = i) : mS m i v 1 j = m 1 j := by rw [mS_1]; exact nu_n h
theorem s_mS (m : MI) (i : Nat) (v : Int) : mS m i v 1 i = v := by rw [mS_1]; exact nu_s _ _ _
/-- a loop that adds up -/
theorem it_sum {f : Int × Int → Option ((Int × Int) ⊕ Int)} {n : Nat} {g : Nat → Int} (hn : n ≤ 1000) (hs : ∀ (i : Nat) (a : Int), i < n → f (a, (i : Int)) = some (.inl (a + g i, (i : Int) + 1))) (he : ∀ a, f (a, (n : Int)) = some (.inr a)) : sl_it f sl_fu (0, 0) = some (sumN n g) := by
  obtain ⟨y, hy, hq⟩ := it_inv (f := f) (I := fun t => ∃ i : Nat, t.2 = (i : Int) ∧ i ≤ n ∧ t.1 = sumN i g) (fun y => y = sumN n g) (fun t => (1000 - t.2).toNat) (fun t ⟨i, h1, h2, h3⟩ => by
    obtain ⟨a, z⟩ := t
    dsimp only at h1 h3 ⊢
    subst h1
    by_cases q : i = n
    · subst q
      right
      exact ⟨a, he a, h3⟩
    · left
      exact ⟨_, hs i a (by omega), ⟨i + 1, by push_cast; rfl, by omega, by dsimp only; rw [h3]; rfl⟩, by dsimp only; omega⟩) sl_fu (0, 0) ⟨0, rfl, by omega, rfl⟩ (by show (1000 - (0 : Int)).toNat < 5000; omega)
  rw [hy, hq]
/-- a loop that looks for the first -/
theorem it_find {f : Int → Option (Int ⊕ (Unit ⊕ Int))} {n : Nat} {P : Nat → Prop} (hn : n ≤ 1000) (hs : ∀ i : Nat, i < n → (P i ∧ f (i : Int) = some (.inr (.inr (i : Int)))) ∨ (¬ P i ∧ f (i : Int) = some (.inl ((i : Int) + 1)))) (he : f (n : Int) = some (.inr (.inl ()))) :
    (sl_it f sl_fu 0 = some (.inl ()) ∧ ∀ i, i < n → ¬ P i) ∨ ∃ k, k < n ∧ sl_it f sl_fu 0 = some (.inr (k : Int)) ∧ P k ∧ ∀ i, i < k → ¬ P i := by
  obtain ⟨y, hy, hq⟩ := it_inv (f := f) (I := fun t => ∃ i : Nat, t = (i : Int) ∧ i ≤ n ∧ ∀ j, j < i → ¬ P j) (fun y => (y = .inl () ∧ ∀ i, i < n → ¬ P i) ∨ ∃ k : Nat, k < n ∧ y = .inr (k : Int) ∧ P k ∧ ∀ i, i < k → ¬ P i) (fun t => (1000 - t).toNat) (fun t ⟨i, h1, h2, h3⟩ => by
    subst h1
    by_cases q : i = n
    · subst q
      right
      exact ⟨_, he, Or.inl ⟨rfl, h3⟩⟩
    · rcases hs i (by omega) with ⟨p1, p2⟩ | ⟨p1, p2⟩
      · right
        exact ⟨_, p2, Or.inr ⟨i, by omega, rfl, p1, h3⟩⟩
      · left
        refine ⟨_, p2, ⟨i + 1, by push_cast; rfl, by omega, fun j hj => ?_⟩, by omega⟩
        by_cases z : j = i
        · rw [z]; exact p1
        · exact h3 j (by omega)) sl_fu 0 ⟨0, rfl, by omega, fun j hj => absurd hj (by omega)⟩ (by show (1000 - (0 : Int)).toNat < 5000; omega)
  rcases hq with ⟨e, h⟩ | ⟨k, h1, e, h2, h3⟩
  · exact Or.inl ⟨by rw [hy, e], h⟩
  · exact Or.inr ⟨k, h1, by rw [hy, e], h2, h3⟩
