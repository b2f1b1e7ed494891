/-! ===== a part of the text is read ===== -/
def TR (L : Nat) (s m : MI) (n : Nat) : Prop := s 0 1 = (L : Int) ∧ m 0 7 = (L : Int) ∧ L ≤ 60 ∧ (∀ k, k < L → s 1 k = m 5 k ∧ 0 ≤ m 5 k ∧ m 5 k ≤ 65535) ∧ s 0 3 = (n : Int) ∧ ∀ k, k < n → s 2 k = m 9 k ∧ 0 ≤ m 9 k ∧ m 9 k ≤ 99
theorem sign_m {m : MI} {L k : Nat} (h7 : m 0 7 = (L : Int)) (hL : L ≤ 60) (hk : k ≤ 1000) : fModel_signAt (k : Int) m = some (if k < L then m 5 k else -5) := by
  unfold fModel_signAt
  rw [h7, tw (x := (L : Int)) (by omega) (by omega), tw (x := (k : Int)) (by omega) (by omega)]
  by_cases a : k < L
  · rw [if_neg (show ¬ (L : Int) ≤ (k : Int) by omega), if_pos (show (0 : Int) ≤ (k : Int) ∧ (k : Int) < 60 by omega), if_pos a, show ((k : Int)).toNat = k by omega]
  · rw [if_pos (show (L : Int) ≤ (k : Int) by omega), if_neg a]
theorem sign_c {s : MI} {L k : Nat} (h1 : s 0 1 = (L : Int)) (hL : L ≤ 60) (hk : k ≤ 1000) : fText_signAt (k : Int) s = some (if k < L then s 1 k else -1) := by
  unfold fText_signAt
  rw [h1, tw (x := (L : Int)) (by omega) (by omega), tw (x := (k : Int)) (by omega) (by omega), if_neg (show ¬ (k : Int) < 0 by omega)]
  by_cases a : k < L
  · rw [if_neg (show ¬ (L : Int) ≤ (k : Int) by omega), if_neg (show ¬ (60 : Int) ≤ (k : Int) by omega), if_pos (show (0 : Int) ≤ (k : Int) ∧ (k : Int) < 60 by omega), if_pos a, show ((k : Int)).toNat = k by omega]
  · rw [if_pos (show (L : Int) ≤ (k : Int) by omega), if_neg a]
theorem digit_c {x : Int} (hx : i32 x) : fText_isDigit x = some (if 48 ≤ x ∧ x ≤ 57 then 1 else 0) := by
  unfold fText_isDigit
  rw [tw hx.1 hx.2]
  by_cases a : x < 48
  · rw [if_pos a, if_neg (by omega)]
  · by_cases b : 57 < x
    · rw [if_neg a, if_pos b, if_neg (by omega)]
    · rw [if_neg a, if_neg b, if_pos (by omega)]
theorem add1_c {s : MI} {L q n : Nat} (h1 : s 0 1 = (L : Int)) (hL : L ≤ 60) (hq : q < L) (h3 : s 0 3 = (n : Int)) (n30 : n < 30) : fText_addNumber (q : Int) 1 s = some (sm_up (sm_up s 2 n (s 1 q - 48)) 0 3 ((n : Int) + 1)) := by
  have e : sl_it (fun (t : Int × Int) => fText_addNumber_l5 (q : Int) 1 t.1 t.2 s) sl_fu (0, 0) = some (s 1 q - 48) := by
    refine (it_go (s' := (s 1 q - 48, (1 : Int))) 4999 ?_).trans (it_end 4998 ?_)
    · dsimp only
      unfold fText_addNumber_l5
      rw [w1, w0, if_neg (show ¬ (1 : Int) ≤ 0 by omega), Int.add_zero, sign_c h1 hL (by omega), Option.bind_some, if_pos hq]
      congr 3
      omega
    · dsimp only
      unfold fText_addNumber_l5
      rw [w1, if_pos (show (1 : Int) ≤ 1 by omega)]
  unfold fText_addNumber
  rw [e, Option.bind_some, h3, tw (x := (n : Int)) (by omega) (by omega), if_neg (show ¬ (30 : Int) ≤ (n : Int) by omega), if_pos (show (0 : Int) ≤ (n : Int) ∧ (n : Int) < 30 by omega), show ((n : Int)).toNat = n by omega, Option.bind_some, up_d (by omega : ¬ 0 = 2), h3, Option.bind_some]
theorem add2_c {s : MI} {L q n : Nat} (h1 : s 0 1 = (L : Int)) (hL : L ≤ 60) (hq : q + 1 < L) (h3 : s 0 3 = (n : Int)) (n30 : n < 30) : fText_addNumber (q : Int) 2 s = some (sm_up (sm_up s 2 n (10 * (s 1 q - 48) + s 1 (q + 1) - 48)) 0 3 ((n : Int) + 1)) := by
  have w2 : sm_w 2 = 2 := tw (by omega) (by omega)
  have e : sl_it (fun (t : Int × Int) => fText_addNumber_l5 (q : Int) 2 t.1 t.2 s) sl_fu (0, 0) = some (10 * (s 1 q - 48) + s 1 (q + 1) - 48) := by
    refine (it_go (s' := (s 1 q - 48, (1 : Int))) 4999 ?_).trans ((it_go (s' := (10 * (s 1 q - 48) + s 1 (q + 1) - 48, (2 : Int))) 4998 ?_).trans (it_end 4997 ?_))
    · dsimp only
      unfold fText_addNumber_l5
      rw [w2, w0, if_neg (show ¬ (2 : Int) ≤ 0 by omega), Int.add_zero, sign_c h1 hL (by omega), Option.bind_some, if_pos (by omega)]
      congr 3
      omega
    · dsimp only
      unfold fText_addNumber_l5
      rw [w2, w1, if_neg (show ¬ (2 : Int) ≤ 1 by omega), show (q : Int) + 1 = ((q + 1 : Nat) : Int) by omega, sign_c h1 hL (by omega), Option.bind_some, if_pos hq]
      congr 3
      omega
    · dsimp only
      unfold fText_addNumber_l5
      rw [w2, if_pos (show (2 : Int) ≤ 2 by omega)]
  unfold fText_addNumber
  rw [e, Option.bind_some, h3, tw (x := (n : Int)) (by omega) (by omega), if_neg (show ¬ (30 : Int) ≤ (n : Int) by omega), if_pos (show (0 : Int) ≤ (n : Int) ∧ (n : Int) < 30 by omega), show ((n : Int)).toNat = n by omega, Option.bind_some, up_d (by omega : ¬ 0 = 2), h3, Option.bind_some]
/-- the row of numbers grows alike -/
theorem TR_add {L n p : Nat} {s m : MI} {v : Int} (T : TR L s m n) (hv : 0 ≤ v ∧ v ≤ 99) : TR L (sm_up (sm_up s 2 n v) 0 3 ((n : Int) + 1)) (sm_up (sm_up m 0 14 (p : Int)) 9 n v) (n + 1) := by
  obtain ⟨t1, t2, t3, t4, t5, t6⟩ := T
  refine ⟨by rw [up_j (by omega), up_d (by omega)]; exact t1, by rw [up_d (by omega), up_j (by omega)]; exact t2, t3, fun k hk => ?_, by rw [up_s]; push_cast; rfl, fun k hk => ?_⟩
  · rw [up_d (by omega), up_d (by omega), up_d (by omega), up_d (by omega)]
    exact t4 k hk
  · rw [up_d (by omega), up_k, up_k, up_d (by omega)]
    by_cases z : k = n
    · rw [if_pos z, if_pos z]
      exact ⟨rfl, hv⟩
    · rw [if_neg z, if_neg z]
      exact t6 k (by omega)
theorem part_eq {L n p part : Nat} {s m : MI} {M : Int} (T : TR L s m n) (h14 : m 0 14 = (p : Int)) (p60 : p ≤ 60) (hn : 2 * n ≤ p) (h3 : part < 3) (hM : sl_mark part = M) (hM0 : 0 ≤ M ∧ M ≤ 65535) :
    (∃ (q : Nat) (m' : MI), q ≤ 61 ∧ fText_read_l15 (p : Int) (part : Int) s = some (.inr (.inr ((q : Int), s))) ∧ fModel_reads M (n : Int) m = some (0, m') ∧ m' 0 14 = (q : Int) ∧ (∀ a, ¬ a = 0 → m' a = m a) ∧ ∀ j, ¬ j = 14 → m' 0 j = m 0 j) ∨
    (∃ (q : Nat) (s' m' : MI), (p + 2 ≤ q ∧ q ≤ L) ∧ fText_read_l15 (p : Int) (part : Int) s = some (.inl ((q : Int), (part : Int) + 1, s')) ∧ fModel_reads M (n : Int) m = some (1, m') ∧ TR L s' m' (n + 1) ∧ m' 0 14 = (q : Int) ∧ (∀ a, ¬ a = 0 → ¬ a = 9 → m' a = m a) ∧ ∀ j, ¬ j = 14 → m' 0 j = m 0 j) := by
  have T0 := T
  obtain ⟨t1, t2, t3, t4, t5, t6⟩ := T
  have wp : sm_w (part : Int) = part := tw (by omega) (by omega)
  have e1 : ∀ k, k < L → s 1 k = m 5 k := fun k hk => (t4 k hk).1
  have eC : fText_read_l15 (p : Int) (part : Int) s = if (if p < L then m 5 p else -1) = M then Option.bind (fText_digitsAt ((p : Int) + 1) s) (fun p39 => (if sm_w p39 = 0 then some (.inr (.inr (((p : Int) + 1), s))) else Option.bind (fText_addNumber ((p : Int) + 1) p39 s) (fun p42 => some (.inl ((((p : Int) + 1) + p39), ((part : Int) + 1), p42))))) else some (.inr (.inr ((p : Int), s))) := by
    have hb : i32 (if p < L then s 1 p else -1) := by
      unfold i32
      split
      · have := t4 p (by assumption)
        omega
      · omega
    unfold fText_read_l15
    rw [wp, if_neg (show ¬ (3 : Int) ≤ (part : Int) by omega), sign_c t1 t3 (by omega), Option.bind_some, if_pos (show (0 : Int) ≤ (part : Int) ∧ (part : Int) < 3 by omega), show ((part : Int)).toNat = part by omega, hM, tw (x := M) (by omega) (by omega), tw hb.1 hb.2]
    by_cases a : p < L
    · rw [if_pos a, if_pos a, e1 p a]
    · rw [if_neg a, if_neg a]
  have hb5 : i32 (if p < L then m 5 p else -5) := by
    unfold i32
    split
    · have := t4 p (by assumption)
      omega
    · omega
  rw [eC]
  unfold fModel_reads
  rw [h14, sign_m t2 t3 (by omega), Option.bind_some, tw hb5.1 hb5.2, tw (x := M) (by omega) (by omega)]
  by_cases a : p < L ∧ m 5 p = M
  · rw [if_pos a.1, if_pos a.1, if_pos a.2, if_pos a.2, Option.bind_some]
    have s14 : sm_up m 0 14 ((p : Int) + 1) 0 14 = ((p + 1 : Nat) : Int) := by rw [up_s]; push_cast; rfl
    have s7 : sm_up m 0 14 ((p : Int) + 1) 0 7 = (L : Int) := by rw [up_j (by omega)]; exact t2
    have s5 : ∀ k, sm_up m 0 14 ((p : Int) + 1) 5 k = m 5 k := fun k => up_d (by omega)
    have hb6 : i32 (if p + 1 < L then m 5 (p + 1) else -5) := by
      unfold i32
      split
      · have := t4 (p + 1) (by assumption)
        omega
      · omega
    have hb7 : i32 (if p + 1 < L then s 1 (p + 1) else -1) := by
      unfold i32
      split
      · have := t4 (p + 1) (by assumption)
        omega
      · omega
    have ep : (p : Int) + 1 = ((p + 1 : Nat) : Int) := by omega
    rw [s14, sign_m s7 t3 (by omega), Option.bind_some, s5, in_eq hb6 (by unfold i32; omega) (by unfold i32; omega), Option.bind_some]
    unfold fText_digitsAt
    rw [ep, sign_c t1 t3 (by omega), Option.bind_some, digit_c hb7, Option.bind_some]
    by_cases b : p + 1 < L ∧ 48 ≤ m 5 (p + 1) ∧ m 5 (p + 1) ≤ 57
    · have x1 := e1 (p + 1) b.1
      have hb8 : i32 (if p + 1 + 1 < L then m 5 (p + 1 + 1) else -5) := by
        unfold i32
        split
        · have := t4 (p + 1 + 1) (by assumption)
          omega
        · omega
      have hb9 : i32 (if p + 1 + 1 < L then s 1 (p + 1 + 1) else -1) := by
        unfold i32
        split
        · have := t4 (p + 1 + 1) (by assumption)
          omega
        · omega
      have ep2 : ((p + 1 : Nat) : Int) + 1 = ((p + 1 + 1 : Nat) : Int) := by omega
      have n30 : n < 30 := by omega
      rw [if_pos b.1, if_pos b.1, x1, if_pos b.2, w1, if_neg n10, if_neg n10, Option.bind_some, Option.bind_some, Option.bind_some, tw (x := m 5 (p + 1)) (by omega) (by omega), tw (x := m 5 (p + 1) - 48) (by omega) (by omega), ep2, sign_c t1 t3 (by omega), Option.bind_some, digit_c hb9, Option.bind_some]
      have u14 : ∀ w : Int, sm_up (sm_up m 0 14 ((p + 1 : Nat) : Int)) 0 14 w = sm_up m 0 14 w := fun w => by
        funext i j
        by_cases z : i = 0 ∧ j = 14
        · rw [z.1, z.2, up_s, up_s]
        · unfold sm_up
          rw [if_neg z, if_neg z, if_neg z]
      have jj : ∀ (v w : Int), fModel_reads_j115 (n : Int) v (sm_up m 0 14 w) = some (1, sm_up (sm_up m 0 14 w) 9 n v) := fun v w => by
        unfold fModel_reads_j115
        rw [tw (x := (n : Int)) (by omega) (by omega), if_pos (show (0 : Int) ≤ (n : Int) ∧ (n : Int) < 60 by omega), show ((n : Int)).toNat = n by omega, Option.bind_some]
      have fin : ∀ (q : Nat) (v : Int), 0 ≤ v ∧ v ≤ 99 → p + 2 ≤ q ∧ q ≤ L → TR L (sm_up (sm_up s 2 n v) 0 3 ((n : Int) + 1)) (sm_up (sm_up m 0 14 (q : Int)) 9 n v) (n + 1) ∧ sm_up (sm_up m 0 14 (q : Int)) 9 n v 0 14 = (q : Int) ∧ (∀ a, ¬ a = 0 → ¬ a = 9 → sm_up (sm_up m 0 14 (q : Int)) 9 n v a = m a) ∧ ∀ j, ¬ j = 14 → sm_up (sm_up m 0 14 (q : Int)) 9 n v 0 j = m 0 j := fun q v hv _ =>
        ⟨TR_add T0 hv, by rw [up_d (by omega), up_s], fun a a0 a9 => by rw [up_D a9, up_D a0], fun j hj => by rw [up_d (by omega), up_j hj]⟩
      right
      by_cases c : m 5 (p + 1) = 48
      · rw [if_pos c, if_pos (show m 5 (p + 1) - 48 ≤ 0 by omega), Option.bind_some, w1, if_neg n10, add1_c t1 t3 b.1 t5 n30, Option.bind_some, x1, u14, jj, ep2]
        obtain ⟨f1, f2, f3, f4⟩ := fin (p + 1 + 1) (m 5 (p + 1) - 48) (by omega) (by omega)
        exact ⟨p + 1 + 1, _, _, by omega, rfl, rfl, f1, f2, f3, f4⟩
      · have s14' : sm_up m 0 14 ((p + 1 + 1 : Nat) : Int) 0 14 = ((p + 1 + 1 : Nat) : Int) := up_s _ _ _ _
        have s7' : sm_up m 0 14 ((p + 1 + 1 : Nat) : Int) 0 7 = (L : Int) := by rw [up_j (by omega)]; exact t2
        have s5' : ∀ k, sm_up m 0 14 ((p + 1 + 1 : Nat) : Int) 5 k = m 5 k := fun k => up_d (by omega)
        rw [if_neg c, if_neg (show ¬ m 5 (p + 1) - 48 ≤ 0 by omega), u14, s14', sign_m s7' t3 (by omega), Option.bind_some, s5', in_eq hb8 (by unfold i32; omega) (by unfold i32; omega), Option.bind_some]
        by_cases e : p + 1 + 1 < L ∧ 48 ≤ m 5 (p + 1 + 1) ∧ m 5 (p + 1 + 1) ≤ 57
        · have x2 := e1 (p + 1 + 1) e.1
          have u14' : ∀ w : Int, sm_up (sm_up m 0 14 ((p + 1 + 1 : Nat) : Int)) 0 14 w = sm_up m 0 14 w := fun w => by
            funext i j
            by_cases z : i = 0 ∧ j = 14
            · rw [z.1, z.2, up_s, up_s]
            · unfold sm_up
              rw [if_neg z, if_neg z, if_neg z]
          rw [if_pos e.1, if_pos e.1, x2, if_pos e.2, w1, if_neg n10, if_neg n10, Option.bind_some, tw (x := 2) (by omega) (by omega), if_neg (show ¬ (2 : Int) = 0 by omega), add2_c t1 t3 e.1 t5 n30, Option.bind_some, x1, x2, Option.bind_some, Option.bind_some, u14', show ((p + 1 + 1 : Nat) : Int) + 1 = ((p + 3 : Nat) : Int) by omega, show ((p + 1 : Nat) : Int) + 2 = ((p + 3 : Nat) : Int) by omega, jj]
          obtain ⟨f1, f2, f3, f4⟩ := fin (p + 3) (10 * (m 5 (p + 1) - 48) + m 5 (p + 1 + 1) - 48) (by omega) (by omega)
          exact ⟨p + 3, _, _, by omega, rfl, rfl, f1, f2, f3, f4⟩
        · have z1 : (if 48 ≤ (if p + 1 + 1 < L then m 5 (p + 1 + 1) else -5) ∧ (if p + 1 + 1 < L then m 5 (p + 1 + 1) else -5) ≤ 57 then (1 : Int) else 0) = 0 := by
            by_cases g : p + 1 + 1 < L
            · rw [if_pos g, if_neg (fun h => e ⟨g, h⟩)]
            · rw [if_neg g, if_neg (by omega)]
          have z2 : (if 48 ≤ (if p + 1 + 1 < L then s 1 (p + 1 + 1) else -1) ∧ (if p + 1 + 1 < L then s 1 (p + 1 + 1) else -1) ≤ 57 then (1 : Int) else 0) = 0 := by
            by_cases g : p + 1 + 1 < L
            · rw [if_pos g, e1 _ g, if_neg (fun h => e ⟨g, h⟩)]
            · rw [if_neg g, if_neg (by omega)]
          rw [z1, z2, w0, if_pos rfl, if_pos rfl, Option.bind_some, w1, if_neg n10, add1_c t1 t3 b.1 t5 n30, Option.bind_some, x1, jj, ep2]
          obtain ⟨f1, f2, f3, f4⟩ := fin (p + 1 + 1) (m 5 (p + 1) - 48) (by omega) (by omega)
          exact ⟨p + 1 + 1, _, _, by omega, rfl, rfl, f1, f2, f3, f4⟩
    · have z1 : (if 48 ≤ (if p + 1 < L then m 5 (p + 1) else -5) ∧ (if p + 1 < L then m 5 (p + 1) else -5) ≤ 57 then (1 : Int) else 0) = 0 := by
        by_cases g : p + 1 < L
        · rw [if_pos g, if_neg (fun h => b ⟨g, h⟩)]
        · rw [if_neg g, if_neg (by omega)]
      have z2 : (if 48 ≤ (if p + 1 < L then s 1 (p + 1) else -1) ∧ (if p + 1 < L then s 1 (p + 1) else -1) ≤ 57 then (1 : Int) else 0) = 0 := by
        by_cases g : p + 1 < L
        · rw [if_pos g, e1 _ g, if_neg (fun h => b ⟨g, h⟩)]
        · rw [if_neg g, if_neg (by omega)]
      rw [z1, z2, w0, if_pos rfl, if_pos rfl, Option.bind_some, w0, if_pos rfl]
      left
      exact ⟨p + 1, _, by omega, rfl, rfl, up_s _ _ _ _, fun a ha => up_D ha, fun j hj => up_j hj⟩
  · left
    have z1 : ¬ (if p < L then m 5 p else -1) = M := by
      by_cases g : p < L
      · rw [if_pos g]
        exact fun h => a ⟨g, h⟩
      · rw [if_neg g]
        omega
    have z2 : ¬ (if p < L then m 5 p else -5) = M := by
      by_cases g : p < L
      · rw [if_pos g]
        exact fun h => a ⟨g, h⟩
      · rw [if_neg g]
        omega
    rw [if_neg z1, if_neg z2]
    exact ⟨p, m, by omega, rfl, rfl, h14, fun _ _ => rfl, fun _ _ => rfl⟩
