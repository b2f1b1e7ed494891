/-! ===== the law's own walk ===== -/
abbrev xLaw (G : GT) : XT := (G, RL, code, 4, some .boolean, false, 8, 195)
abbrev lvL (i : Nat) : List (Option AV) := [some (.inr 0), some (.inr 3), some (.inr 435), some (.inl (i : Int))]
abbrev memL (d m mB : MI) : MI := sm_gl 3 432 d (sm_gl 435 10 m mB)
theorem gl_com (d m mB : MI) : sm_gl 3 432 d (sm_gl 435 10 m mB) = sm_gl 435 10 m (sm_gl 3 432 d mB) := by
  funext a j
  unfold sm_gl
  by_cases z : 3 ≤ a ∧ a < 3 + 432
  · rw [if_pos z, if_neg (by omega), if_pos z]
  · rw [if_neg z]
    by_cases y : 435 ≤ a ∧ a < 435 + 10
    · rw [if_pos y, if_pos y]
    · rw [if_neg y, if_neg y, if_neg z]
theorem gL_e {E : ET} {a b : Nat} {ro : Nat → Nat} (h : gL E b) (hq : ¬ b = a + 184) : gL (eD E a ro) b := by
  obtain ⟨h1, h2, h3, h4, h5, h6, h7, h8, h9, h10, h11, h12⟩ := h
  exact ⟨h1, h2, h3, h4.e hq, h5.e hq, h6.e hq, h7.e hq, h8.e hq, h9.e hq, h10.e hq, h11.e hq, h12.e hq⟩
theorem law_arg {G : GT} {E2 : ET} {ro : Nat → Nat} {d m mB : MI} {i k L pc : Nat} {st : List AV} {r : RT} (hs : E2.sh 0 = (20, L)) (hz : E2.sz = 445) (hik : i + k < L) (hL : L ≤ 2048) (d1 : decode code pc = .ok (.aload_n 0, 1)) (d2 : decode code (pc + 1) = .ok (.iload_n 3, 1)) (d3 : decode code (pc + 1 + 1) = .ok (.iconst (k : Int), 1)) (d4 : decode code (pc + 1 + 1 + 1) = .ok (.iadd, 1)) (d5 : decode code (pc + 1 + 1 + 1 + 1) = .ok (.iaload, 1))
    (kk : sM (xLaw G) (pc + 1 + 1 + 1 + 1 + 1) (lvL i) (.inl (mB 0 (i + k)) :: st) (eD E2 3 ro) (memL d m mB) r) : sM (xLaw G) pc (lvL i) st (eD E2 3 ro) (memL d m mB) r := by
  have w : sm_w ((i : Int) + (k : Int)) = (i : Int) + (k : Int) := tw (by omega) (by omega)
  have e : memL d m mB 0 (sm_w ((i : Int) + (k : Int))).toNat = mB 0 (i + k) := by
    rw [w, show ((i : Int) + (k : Int)).toNat = i + k by omega]
    show sm_gl 3 432 d (sm_gl 435 10 m mB) 0 (i + k) = _
    rw [gl_o (by omega), gl_o (by omega)]
  refine sm_aload_n d1 rfl ?_
  refine sm_iload_n d2 rfl ?_
  refine sm_iconst d3 ?_
  refine sm_iadd d4 ?_
  refine sm_iaload (n := L) hs (by show 0 < E2.sz; omega) (by rw [w]; omega) (by rw [w]; omega) d5 ?_
  rw [e]
  exact kk
def bz (z : Int) : Int := if sm_w z = 0 then 0 else 1
theorem bz_01 (z : Int) : bz z = 0 ∨ bz z = 1 := by
  unfold bz
  split
  · exact Or.inl rfl
  · exact Or.inr rfl
theorem law_bool {X : XT} {lv : List (Option AV)} {st : List AV} {E : ET} {mi : MI} {r : RT} {pc : Nat} {z : Int} (d1 : decode X.cc pc = .ok (.ifCond .eq 7, 3)) (d2 : decode X.cc (pc + 3) = .ok (.iconst 1, 1)) (d3 : decode X.cc (pc + 3 + 1) = .ok (.goto 4, 3)) (d4 : decode X.cc (pc + 7) = .ok (.iconst 0, 1))
    (kk : sM X (pc + 7 + 1) lv (.inl (bz z) :: st) E mi r) : sM X pc lv (.inl z :: st) E mi r := by
  refine sm_if_eq (pc + 7) d1 (by omega) (fun c => ?_) (fun c => ?_)
  · refine sm_iconst d4 ?_
    have : bz z = 0 := if_pos c
    rw [this] at kk
    exact kk
  · refine sm_iconst d2 ?_
    refine sm_goto (pc + 7 + 1) d3 (by omega) ?_
    have : bz z = 1 := if_neg c
    rw [this] at kk
    exact kk
theorem i2c_b (x : Int) : 0 ≤ sm_i2c x ∧ sm_i2c x ≤ 65535 := by
  unfold sm_i2c
  have h : ((sm_i x).toUInt32 % 65536).toNat < 65536 := by
    rw [UInt32.toNat_mod]
    exact Nat.mod_lt _ (by decide)
  generalize (sm_i x).toUInt32 % 65536 = u at h
  have e : u.toInt32.toInt = (u.toNat : Int) := by
    show u.toBitVec.toInt = _
    rw [BitVec.toInt_eq_toNat_bmod]
    show ((u.toNat : Nat) : Int).bmod (2 ^ 32 : Nat) = _
    have e : ((2 ^ 32 : Nat) : Int) = 4294967296 := rfl
    apply Int.bmod_eq_of_le <;> omega
  rw [e]
  omega
