/-! ===== rows of the walk: an instruction each ===== -/
section SMR
variable {X : XT} {pc : Nat} {lv : List (Option AV)} {st : List AV} {E : ET} {mi : MI} {r : RT}
theorem sm_const {n v : Int} {k : Nat} {ins : Instr} (hd : decode X.cc pc = .ok (ins, k)) (hi : (ins = .iconst n ∧ k = 1 ∧ Int32.ofInt n = sm_i v) ∨ (ins = .bipush n ∧ k = 2 ∧ (Int8.ofInt n).toInt32 = sm_i v) ∨ (ins = .sipush n ∧ k = 3 ∧ (Int16.ofInt n).toInt32 = sm_i v))
    (kk : sM X (pc + k) lv (.inl v :: st) E mi r) : sM X pc lv st E mi r := by
  refine ⟨kk.1, fun p l e R s m args below meth c H locs cells slots ls Q h1 h2 h3 h4 h5 h6 h7 h8 => ?_⟩
  have w := kk.2 p l e R s m args below meth c H locs cells slots ls Q h1 h2 h3 h4 h5 h6 h7 h8
  rcases hi with ⟨rfl, rfl, e⟩ | ⟨rfl, rfl, e⟩ | ⟨rfl, rfl, e⟩
  · exact lv_iconst h1.1 h1.2.1 hd e w
  · exact lv_bipush h1.1 h1.2.1 hd e w
  · exact lv_sipush h1.1 h1.2.1 hd e w
theorem sm_iconst {n : Int} (hd : decode X.cc pc = .ok (.iconst n, 1)) (kk : sM X (pc + 1) lv (.inl n :: st) E mi r) : sM X pc lv st E mi r := sm_const hd (Or.inl ⟨rfl, rfl, rfl⟩) kk
theorem sm_bipush {n : Int} (hd : decode X.cc pc = .ok (.bipush n, 2)) (hn : (Int8.ofInt n).toInt32 = Int32.ofInt n) (kk : sM X (pc + 2) lv (.inl n :: st) E mi r) : sM X pc lv st E mi r := sm_const hd (Or.inr (Or.inl ⟨rfl, rfl, hn⟩)) kk
theorem sm_sipush {n : Int} (hd : decode X.cc pc = .ok (.sipush n, 3)) (hn : (Int16.ofInt n).toInt32 = Int32.ofInt n) (kk : sM X (pc + 3) lv (.inl n :: st) E mi r) : sM X pc lv st E mi r := sm_const hd (Or.inr (Or.inr ⟨rfl, rfl, hn⟩)) kk
theorem sm_ldc {idx : Nat} {v : Int} {own : String} (ho : X.own = own) (hw : Cond.constant own idx (Int32.ofInt v) ∈ sm_tb) (hd : decode X.cc pc = .ok (.ldc idx, 2)) (kk : sM X (pc + 2) lv (.inl v :: st) E mi r) : sM X pc lv st E mi r := by
  subst ho
  refine ⟨kk.1, fun p l e R s m args below meth c H locs cells slots ls Q h1 h2 h3 h4 h5 h6 h7 h8 => ?_⟩
  exact lv_ldc h1.1 h1.2.1 h1.2.2.2.1 (h1.2.2.2.2.1 _ hw) hd (kk.2 p l e R s m args below meth c H locs cells slots ls Q h1 h2 h3 h4 h5 h6 h7 h8)
theorem sm_iload_n {k : Fin 4} {z : Int} (hd : decode X.cc pc = .ok (.iload_n k, 1)) (hl : lv[(k : Nat)]? = some (some (.inl z))) (kk : sM X (pc + 1) lv (.inl z :: st) E mi r) : sM X pc lv st E mi r := by
  refine ⟨kk.1, fun p l e R s m args below meth c H locs cells slots ls Q h1 h2 h3 h4 h5 h6 h7 h8 => ?_⟩
  exact lv_iload_n h1.1 h1.2.1 hd rfl (h5.at hl) (kk.2 p l e R s m args below meth c H locs cells slots ls Q h1 h2 h3 h4 h5 h6 h7 h8)
theorem sm_iload {k : Nat} {z : Int} (hd : decode X.cc pc = .ok (.iload k, 2)) (hl : lv[k]? = some (some (.inl z))) (kk : sM X (pc + 2) lv (.inl z :: st) E mi r) : sM X pc lv st E mi r := by
  refine ⟨kk.1, fun p l e R s m args below meth c H locs cells slots ls Q h1 h2 h3 h4 h5 h6 h7 h8 => ?_⟩
  exact lv_iload h1.1 h1.2.1 hd (h5.at hl) (kk.2 p l e R s m args below meth c H locs cells slots ls Q h1 h2 h3 h4 h5 h6 h7 h8)
theorem sm_aload_n {k : Fin 4} {a : Nat} (hd : decode X.cc pc = .ok (.aload_n k, 1)) (hl : lv[(k : Nat)]? = some (some (.inr a))) (kk : sM X (pc + 1) lv (.inr a :: st) E mi r) : sM X pc lv st E mi r := by
  refine ⟨kk.1, fun p l e R s m args below meth c H locs cells slots ls Q h1 h2 h3 h4 h5 h6 h7 h8 => ?_⟩
  exact lv_aload_n h1.1 h1.2.1 hd rfl (h5.at hl) (kk.2 p l e R s m args below meth c H locs cells slots ls Q h1 h2 h3 h4 h5 h6 h7 h8)
theorem sm_aload {k : Nat} {a : Nat} (hd : decode X.cc pc = .ok (.aload k, 2)) (hl : lv[k]? = some (some (.inr a))) (kk : sM X (pc + 2) lv (.inr a :: st) E mi r) : sM X pc lv st E mi r := by
  refine ⟨kk.1, fun p l e R s m args below meth c H locs cells slots ls Q h1 h2 h3 h4 h5 h6 h7 h8 => ?_⟩
  exact lv_aload h1.1 h1.2.1 hd (h5.at hl) (kk.2 p l e R s m args below meth c H locs cells slots ls Q h1 h2 h3 h4 h5 h6 h7 h8)
theorem sm_istore_n {k : Fin 4} {z : Int} (hd : decode X.cc pc = .ok (.istore_n k, 1)) (hn : (k : Nat) < X.nL) (kk : sM X (pc + 1) (lv.set k (some (.inl z))) st E mi r) : sM X pc lv (.inl z :: st) E mi r := by
  refine ⟨kk.1, fun p l e R s m args below meth c H locs cells slots ls Q h1 h2 h3 h4 h5 h6 h7 h8 => ?_⟩
  exact lv_istore_n h1.1 h1.2.1 hd rfl h5.has hn rfl (fun ls' h' => kk.2 p l e R s m args below meth c H locs cells slots ls' Q h1 h2 h3 h4 (sm_L.store h') h6 h7 h8)
theorem sm_istore {k : Nat} {z : Int} (hd : decode X.cc pc = .ok (.istore k, 2)) (hn : k < X.nL) (kk : sM X (pc + 2) (lv.set k (some (.inl z))) st E mi r) : sM X pc lv (.inl z :: st) E mi r := by
  refine ⟨kk.1, fun p l e R s m args below meth c H locs cells slots ls Q h1 h2 h3 h4 h5 h6 h7 h8 => ?_⟩
  exact lv_istore h1.1 h1.2.1 hd h5.has hn rfl (fun ls' h' => kk.2 p l e R s m args below meth c H locs cells slots ls' Q h1 h2 h3 h4 (sm_L.store h') h6 h7 h8)
theorem sm_astore_n {k : Fin 4} {a : Nat} (hd : decode X.cc pc = .ok (.astore_n k, 1)) (hn : (k : Nat) < X.nL) (kk : sM X (pc + 1) (lv.set k (some (.inr a))) st E mi r) : sM X pc lv (.inr a :: st) E mi r := by
  refine ⟨kk.1, fun p l e R s m args below meth c H locs cells slots ls Q h1 h2 h3 h4 h5 h6 h7 h8 => ?_⟩
  exact lv_astore_n h1.1 h1.2.1 hd rfl h5.has hn rfl (fun ls' h' => kk.2 p l e R s m args below meth c H locs cells slots ls' Q h1 h2 h3 h4 (sm_L.store h') h6 h7 h8)
theorem sm_astore {k : Nat} {a : Nat} (hd : decode X.cc pc = .ok (.astore k, 2)) (hn : k < X.nL) (kk : sM X (pc + 2) (lv.set k (some (.inr a))) st E mi r) : sM X pc lv (.inr a :: st) E mi r := by
  refine ⟨kk.1, fun p l e R s m args below meth c H locs cells slots ls Q h1 h2 h3 h4 h5 h6 h7 h8 => ?_⟩
  exact lv_astore h1.1 h1.2.1 hd h5.has hn rfl (fun ls' h' => kk.2 p l e R s m args below meth c H locs cells slots ls' Q h1 h2 h3 h4 (sm_L.store h') h6 h7 h8)
theorem sm_iinc {k : Nat} {n z : Int} (hd : decode X.cc pc = .ok (.iinc k n, 3)) (hn : k < X.nL) (hl : lv[k]? = some (some (.inl z))) (kk : sM X (pc + 3) (lv.set k (some (.inl (z + n)))) st E mi r) : sM X pc lv st E mi r := by
  refine ⟨kk.1, fun p l e R s m args below meth c H locs cells slots ls Q h1 h2 h3 h4 h5 h6 h7 h8 => ?_⟩
  obtain ⟨i, hi⟩ := List.getElem?_of_mem (sm_prs_in (G := X.G) hl)
  exact lv_iinc (k := i) (v := sm_i (z + n)) h1.1 h1.2.1 hd h5.has hi (sm_i_add z n) hn rfl (fun ls' h' => kk.2 p l e R s m args below meth c H locs cells slots ls' Q h1 h2 h3 h4 (sm_L.store (v := .inl (z + n)) h') h6 h7 h8)
theorem sm_iadd {x y : Int} (hd : decode X.cc pc = .ok (.iadd, 1)) (kk : sM X (pc + 1) lv (.inl (x + y) :: st) E mi r) : sM X pc lv (.inl y :: .inl x :: st) E mi r := by
  refine ⟨kk.1, fun p l e R s m args below meth c H locs cells slots ls Q h1 h2 h3 h4 h5 h6 h7 h8 => ?_⟩
  have w := kk.2 p l e R s m args below meth c H locs cells slots ls Q h1 h2 h3 h4 h5 h6 h7 h8
  simp only [List.map_cons, sm_v, ← sm_i_add] at w ⊢
  exact lv_iadd h1.1 h1.2.1 hd w
theorem sm_isub {x y : Int} (hd : decode X.cc pc = .ok (.isub, 1)) (kk : sM X (pc + 1) lv (.inl (x - y) :: st) E mi r) : sM X pc lv (.inl y :: .inl x :: st) E mi r := by
  refine ⟨kk.1, fun p l e R s m args below meth c H locs cells slots ls Q h1 h2 h3 h4 h5 h6 h7 h8 => ?_⟩
  have w := kk.2 p l e R s m args below meth c H locs cells slots ls Q h1 h2 h3 h4 h5 h6 h7 h8
  simp only [List.map_cons, sm_v, ← sm_i_sub] at w ⊢
  exact lv_isub h1.1 h1.2.1 hd w
theorem sm_imul {x y : Int} (hd : decode X.cc pc = .ok (.imul, 1)) (kk : sM X (pc + 1) lv (.inl (x * y) :: st) E mi r) : sM X pc lv (.inl y :: .inl x :: st) E mi r := by
  refine ⟨kk.1, fun p l e R s m args below meth c H locs cells slots ls Q h1 h2 h3 h4 h5 h6 h7 h8 => ?_⟩
  have w := kk.2 p l e R s m args below meth c H locs cells slots ls Q h1 h2 h3 h4 h5 h6 h7 h8
  simp only [List.map_cons, sm_v, ← sm_i_mul] at w ⊢
  exact lv_imul h1.1 h1.2.1 hd w
def sm_and (x y : Int) : Int := (sm_i x &&& sm_i y).toInt
def sm_i2c (x : Int) : Int := ((sm_i x).toUInt32 % 65536).toInt32.toInt
/-- division by a number that isn't 0 -/
def sm_div (x y : Int) : Int := (sm_i x / sm_i y).toInt
def sm_rem (x y : Int) : Int := (sm_i x - sm_i x / sm_i y * sm_i y).toInt
theorem sm_iand {x y : Int} (hd : decode X.cc pc = .ok (.iand, 1)) (kk : sM X (pc + 1) lv (.inl (sm_and x y) :: st) E mi r) : sM X pc lv (.inl y :: .inl x :: st) E mi r := by
  refine ⟨kk.1, fun p l e R s m args below meth c H locs cells slots ls Q h1 h2 h3 h4 h5 h6 h7 h8 => ?_⟩
  have w := kk.2 p l e R s m args below meth c H locs cells slots ls Q h1 h2 h3 h4 h5 h6 h7 h8
  simp only [List.map_cons, sm_v, sm_and, sm_i_of] at w ⊢
  exact lv_iand h1.1 h1.2.1 hd w
theorem sm_i2c_row {x : Int} (hd : decode X.cc pc = .ok (.i2c, 1)) (kk : sM X (pc + 1) lv (.inl (sm_i2c x) :: st) E mi r) : sM X pc lv (.inl x :: st) E mi r := by
  refine ⟨kk.1, fun p l e R s m args below meth c H locs cells slots ls Q h1 h2 h3 h4 h5 h6 h7 h8 => ?_⟩
  have w := kk.2 p l e R s m args below meth c H locs cells slots ls Q h1 h2 h3 h4 h5 h6 h7 h8
  simp only [List.map_cons, sm_v, sm_i2c, sm_i_of] at w ⊢
  exact lv_i2c h1.1 h1.2.1 hd rfl w
theorem sm_idiv {x y : Int} (hd : decode X.cc pc = .ok (.idiv, 1)) (hy : ¬ sm_w y = 0) (kk : sM X (pc + 1) lv (.inl (sm_div x y) :: st) E mi r) : sM X pc lv (.inl y :: .inl x :: st) E mi r := by
  refine ⟨kk.1, fun p l e R s m args below meth c H locs cells slots ls Q h1 h2 h3 h4 h5 h6 h7 h8 => ?_⟩
  have w := kk.2 p l e R s m args below meth c H locs cells slots ls Q h1 h2 h3 h4 h5 h6 h7 h8
  simp only [List.map_cons, sm_v, sm_div, sm_i_of] at w ⊢
  exact lv_idiv h1.1 h1.2.1 hd (by rw [← sm_i_0, sm_i_eq, sm_w_0]; exact hy) w
theorem sm_irem {x y : Int} (hd : decode X.cc pc = .ok (.irem, 1)) (hy : ¬ sm_w y = 0) (kk : sM X (pc + 1) lv (.inl (sm_rem x y) :: st) E mi r) : sM X pc lv (.inl y :: .inl x :: st) E mi r := by
  refine ⟨kk.1, fun p l e R s m args below meth c H locs cells slots ls Q h1 h2 h3 h4 h5 h6 h7 h8 => ?_⟩
  have w := kk.2 p l e R s m args below meth c H locs cells slots ls Q h1 h2 h3 h4 h5 h6 h7 h8
  simp only [List.map_cons, sm_v, sm_rem, sm_i_of] at w ⊢
  exact t_irem h1.1 h1.2.1 hd (by rw [← sm_i_0, sm_i_eq, sm_w_0]; exact hy) rfl w
theorem sm_dup {v : AV} (hd : decode X.cc pc = .ok (.dup, 1)) (kk : sM X (pc + 1) lv (v :: v :: st) E mi r) : sM X pc lv (v :: st) E mi r := by
  refine ⟨kk.1, fun p l e R s m args below meth c H locs cells slots ls Q h1 h2 h3 h4 h5 h6 h7 h8 => ?_⟩
  exact lv_dup h1.1 h1.2.1 hd (sm_v_cat _ _) (kk.2 p l e R s m args below meth c H locs cells slots ls Q h1 h2 h3 h4 h5 h6 h7 h8)
theorem sm_pop {v : AV} (hd : decode X.cc pc = .ok (.pop, 1)) (kk : sM X (pc + 1) lv st E mi r) : sM X pc lv (v :: st) E mi r := by
  refine ⟨kk.1, fun p l e R s m args below meth c H locs cells slots ls Q h1 h2 h3 h4 h5 h6 h7 h8 => ?_⟩
  exact lv_pop h1.1 h1.2.1 hd (sm_v_cat _ _) (kk.2 p l e R s m args below meth c H locs cells slots ls Q h1 h2 h3 h4 h5 h6 h7 h8)
theorem sm_dup2 {v u : AV} (hd : decode X.cc pc = .ok (.dup2, 1)) (kk : sM X (pc + 1) lv (v :: u :: v :: u :: st) E mi r) : sM X pc lv (v :: u :: st) E mi r := by
  refine ⟨kk.1, fun p l e R s m args below meth c H locs cells slots ls Q h1 h2 h3 h4 h5 h6 h7 h8 => ?_⟩
  exact lv_dup2_11 h1.1 h1.2.1 hd (sm_v_cat _ _) (sm_v_cat _ _) (kk.2 p l e R s m args below meth c H locs cells slots ls Q h1 h2 h3 h4 h5 h6 h7 h8)
theorem sm_goto {off : Int} (tgt : Nat) (hd : decode X.cc pc = .ok (.goto off, 3)) (ht : (pc : Int) + off = (tgt : Int)) (kk : sM X tgt lv st E mi r) : sM X pc lv st E mi r := by
  refine ⟨kk.1, fun p l e R s m args below meth c H locs cells slots ls Q h1 h2 h3 h4 h5 h6 h7 h8 => ?_⟩
  exact lv_goto h1.1 h1.2.1 hd ht (kk.2 p l e R s m args below meth c H locs cells slots ls Q h1 h2 h3 h4 h5 h6 h7 h8)
theorem sm_if_eq {off : Int} (tgt : Nat) {x : Int} (hd : decode X.cc pc = .ok (.ifCond .eq off, 3)) (ht : (pc : Int) + off = (tgt : Int))
    (kt : sm_w x = 0 → sM X tgt lv st E mi r) (kf : ¬ sm_w x = 0 → sM X (pc + 3) lv st E mi r) : sM X pc lv (.inl x :: st) E mi r := by
  refine ⟨?_, fun p l e R s m args below meth c H locs cells slots ls Q h1 h2 h3 h4 h5 h6 h7 h8 => ?_⟩
  · by_cases q : sm_w x = 0
    · exact (kt q).1
    · exact (kf q).1
  · refine lv_if_eq h1.1 h1.2.1 hd ht (fun q => ?_) (fun q => ?_)
    · rw [← sm_i_0, sm_i_eq, sm_w_0] at q
      exact (kt q).2 p l e R s m args below meth c H locs cells slots ls Q h1 h2 h3 h4 h5 h6 h7 h8
    · rw [← sm_i_0, sm_i_eq, sm_w_0] at q
      exact (kf q).2 p l e R s m args below meth c H locs cells slots ls Q h1 h2 h3 h4 h5 h6 h7 h8
theorem sm_icmp_eq {off : Int} (tgt : Nat) {x y : Int} (hd : decode X.cc pc = .ok (.if_icmp .eq off, 3)) (ht : (pc : Int) + off = (tgt : Int))
    (kt : sm_w x = sm_w y → sM X tgt lv st E mi r) (kf : ¬ sm_w x = sm_w y → sM X (pc + 3) lv st E mi r) : sM X pc lv (.inl y :: .inl x :: st) E mi r := by
  refine ⟨?_, fun p l e R s m args below meth c H locs cells slots ls Q h1 h2 h3 h4 h5 h6 h7 h8 => ?_⟩
  · by_cases q : sm_w x = sm_w y
    · exact (kt q).1
    · exact (kf q).1
  · refine lv_icmp_eq h1.1 h1.2.1 hd ht (fun q => ?_) (fun q => ?_)
    · rw [sm_i_eq] at q
      exact (kt q).2 p l e R s m args below meth c H locs cells slots ls Q h1 h2 h3 h4 h5 h6 h7 h8
    · rw [sm_i_eq] at q
      exact (kf q).2 p l e R s m args below meth c H locs cells slots ls Q h1 h2 h3 h4 h5 h6 h7 h8
theorem sm_if_ne {off : Int} (tgt : Nat) {x : Int} (hd : decode X.cc pc = .ok (.ifCond .ne off, 3)) (ht : (pc : Int) + off = (tgt : Int))
    (kt : ¬ sm_w x = 0 → sM X tgt lv st E mi r) (kf : sm_w x = 0 → sM X (pc + 3) lv st E mi r) : sM X pc lv (.inl x :: st) E mi r := by
  refine ⟨?_, fun p l e R s m args below meth c H locs cells slots ls Q h1 h2 h3 h4 h5 h6 h7 h8 => ?_⟩
  · by_cases q : sm_w x = 0
    · exact (kf q).1
    · exact (kt q).1
  · refine lv_if_ne h1.1 h1.2.1 hd ht (fun q => ?_) (fun q => ?_)
    · rw [← sm_i_0, sm_i_eq, sm_w_0] at q
      exact (kt q).2 p l e R s m args below meth c H locs cells slots ls Q h1 h2 h3 h4 h5 h6 h7 h8
    · rw [← sm_i_0, sm_i_eq, sm_w_0] at q
      exact (kf q).2 p l e R s m args below meth c H locs cells slots ls Q h1 h2 h3 h4 h5 h6 h7 h8
theorem sm_icmp_ne {off : Int} (tgt : Nat) {x y : Int} (hd : decode X.cc pc = .ok (.if_icmp .ne off, 3)) (ht : (pc : Int) + off = (tgt : Int))
    (kt : ¬ sm_w x = sm_w y → sM X tgt lv st E mi r) (kf : sm_w x = sm_w y → sM X (pc + 3) lv st E mi r) : sM X pc lv (.inl y :: .inl x :: st) E mi r := by
  refine ⟨?_, fun p l e R s m args below meth c H locs cells slots ls Q h1 h2 h3 h4 h5 h6 h7 h8 => ?_⟩
  · by_cases q : sm_w x = sm_w y
    · exact (kf q).1
    · exact (kt q).1
  · refine lv_icmp_ne h1.1 h1.2.1 hd ht (fun q => ?_) (fun q => ?_)
    · rw [sm_i_eq] at q
      exact (kt q).2 p l e R s m args below meth c H locs cells slots ls Q h1 h2 h3 h4 h5 h6 h7 h8
    · rw [sm_i_eq] at q
      exact (kf q).2 p l e R s m args below meth c H locs cells slots ls Q h1 h2 h3 h4 h5 h6 h7 h8
theorem sm_if_lt {off : Int} (tgt : Nat) {x : Int} (hd : decode X.cc pc = .ok (.ifCond .lt off, 3)) (ht : (pc : Int) + off = (tgt : Int))
    (kt : sm_w x < 0 → sM X tgt lv st E mi r) (kf : ¬ sm_w x < 0 → sM X (pc + 3) lv st E mi r) : sM X pc lv (.inl x :: st) E mi r := by
  refine ⟨?_, fun p l e R s m args below meth c H locs cells slots ls Q h1 h2 h3 h4 h5 h6 h7 h8 => ?_⟩
  · by_cases q : sm_w x < 0
    · exact (kt q).1
    · exact (kf q).1
  · refine lv_if_lt h1.1 h1.2.1 hd ht (fun q => ?_) (fun q => ?_)
    · rw [← sm_i_0, sm_i_lt, sm_w_0] at q
      exact (kt q).2 p l e R s m args below meth c H locs cells slots ls Q h1 h2 h3 h4 h5 h6 h7 h8
    · rw [← sm_i_0, sm_i_lt, sm_w_0] at q
      exact (kf q).2 p l e R s m args below meth c H locs cells slots ls Q h1 h2 h3 h4 h5 h6 h7 h8
theorem sm_icmp_lt {off : Int} (tgt : Nat) {x y : Int} (hd : decode X.cc pc = .ok (.if_icmp .lt off, 3)) (ht : (pc : Int) + off = (tgt : Int))
    (kt : sm_w x < sm_w y → sM X tgt lv st E mi r) (kf : ¬ sm_w x < sm_w y → sM X (pc + 3) lv st E mi r) : sM X pc lv (.inl y :: .inl x :: st) E mi r := by
  refine ⟨?_, fun p l e R s m args below meth c H locs cells slots ls Q h1 h2 h3 h4 h5 h6 h7 h8 => ?_⟩
  · by_cases q : sm_w x < sm_w y
    · exact (kt q).1
    · exact (kf q).1
  · refine lv_icmp_lt h1.1 h1.2.1 hd ht (fun q => ?_) (fun q => ?_)
    · rw [sm_i_lt] at q
      exact (kt q).2 p l e R s m args below meth c H locs cells slots ls Q h1 h2 h3 h4 h5 h6 h7 h8
    · rw [sm_i_lt] at q
      exact (kf q).2 p l e R s m args below meth c H locs cells slots ls Q h1 h2 h3 h4 h5 h6 h7 h8
theorem sm_if_ge {off : Int} (tgt : Nat) {x : Int} (hd : decode X.cc pc = .ok (.ifCond .ge off, 3)) (ht : (pc : Int) + off = (tgt : Int))
    (kt : 0 ≤ sm_w x → sM X tgt lv st E mi r) (kf : ¬ 0 ≤ sm_w x → sM X (pc + 3) lv st E mi r) : sM X pc lv (.inl x :: st) E mi r := by
  refine ⟨?_, fun p l e R s m args below meth c H locs cells slots ls Q h1 h2 h3 h4 h5 h6 h7 h8 => ?_⟩
  · by_cases q : 0 ≤ sm_w x
    · exact (kt q).1
    · exact (kf q).1
  · refine lv_if_ge h1.1 h1.2.1 hd ht (fun q => ?_) (fun q => ?_)
    · rw [← sm_i_0, sm_i_le, sm_w_0] at q
      exact (kt q).2 p l e R s m args below meth c H locs cells slots ls Q h1 h2 h3 h4 h5 h6 h7 h8
    · rw [← sm_i_0, sm_i_le, sm_w_0] at q
      exact (kf q).2 p l e R s m args below meth c H locs cells slots ls Q h1 h2 h3 h4 h5 h6 h7 h8
theorem sm_icmp_ge {off : Int} (tgt : Nat) {x y : Int} (hd : decode X.cc pc = .ok (.if_icmp .ge off, 3)) (ht : (pc : Int) + off = (tgt : Int))
    (kt : sm_w y ≤ sm_w x → sM X tgt lv st E mi r) (kf : ¬ sm_w y ≤ sm_w x → sM X (pc + 3) lv st E mi r) : sM X pc lv (.inl y :: .inl x :: st) E mi r := by
  refine ⟨?_, fun p l e R s m args below meth c H locs cells slots ls Q h1 h2 h3 h4 h5 h6 h7 h8 => ?_⟩
  · by_cases q : sm_w y ≤ sm_w x
    · exact (kt q).1
    · exact (kf q).1
  · refine lv_icmp_ge h1.1 h1.2.1 hd ht (fun q => ?_) (fun q => ?_)
    · rw [sm_i_le] at q
      exact (kt q).2 p l e R s m args below meth c H locs cells slots ls Q h1 h2 h3 h4 h5 h6 h7 h8
    · rw [sm_i_le] at q
      exact (kf q).2 p l e R s m args below meth c H locs cells slots ls Q h1 h2 h3 h4 h5 h6 h7 h8
theorem sm_if_gt {off : Int} (tgt : Nat) {x : Int} (hd : decode X.cc pc = .ok (.ifCond .gt off, 3)) (ht : (pc : Int) + off = (tgt : Int))
    (kt : 0 < sm_w x → sM X tgt lv st E mi r) (kf : ¬ 0 < sm_w x → sM X (pc + 3) lv st E mi r) : sM X pc lv (.inl x :: st) E mi r := by
  refine ⟨?_, fun p l e R s m args below meth c H locs cells slots ls Q h1 h2 h3 h4 h5 h6 h7 h8 => ?_⟩
  · by_cases q : 0 < sm_w x
    · exact (kt q).1
    · exact (kf q).1
  · refine lv_if_gt h1.1 h1.2.1 hd ht (fun q => ?_) (fun q => ?_)
    · rw [← sm_i_0, sm_i_lt, sm_w_0] at q
      exact (kt q).2 p l e R s m args below meth c H locs cells slots ls Q h1 h2 h3 h4 h5 h6 h7 h8
    · rw [← sm_i_0, sm_i_lt, sm_w_0] at q
      exact (kf q).2 p l e R s m args below meth c H locs cells slots ls Q h1 h2 h3 h4 h5 h6 h7 h8
theorem sm_icmp_gt {off : Int} (tgt : Nat) {x y : Int} (hd : decode X.cc pc = .ok (.if_icmp .gt off, 3)) (ht : (pc : Int) + off = (tgt : Int))
    (kt : sm_w y < sm_w x → sM X tgt lv st E mi r) (kf : ¬ sm_w y < sm_w x → sM X (pc + 3) lv st E mi r) : sM X pc lv (.inl y :: .inl x :: st) E mi r := by
  refine ⟨?_, fun p l e R s m args below meth c H locs cells slots ls Q h1 h2 h3 h4 h5 h6 h7 h8 => ?_⟩
  · by_cases q : sm_w y < sm_w x
    · exact (kt q).1
    · exact (kf q).1
  · refine lv_icmp_gt h1.1 h1.2.1 hd ht (fun q => ?_) (fun q => ?_)
    · rw [sm_i_lt] at q
      exact (kt q).2 p l e R s m args below meth c H locs cells slots ls Q h1 h2 h3 h4 h5 h6 h7 h8
    · rw [sm_i_lt] at q
      exact (kf q).2 p l e R s m args below meth c H locs cells slots ls Q h1 h2 h3 h4 h5 h6 h7 h8
theorem sm_if_le {off : Int} (tgt : Nat) {x : Int} (hd : decode X.cc pc = .ok (.ifCond .le off, 3)) (ht : (pc : Int) + off = (tgt : Int))
    (kt : sm_w x ≤ 0 → sM X tgt lv st E mi r) (kf : ¬ sm_w x ≤ 0 → sM X (pc + 3) lv st E mi r) : sM X pc lv (.inl x :: st) E mi r := by
  refine ⟨?_, fun p l e R s m args below meth c H locs cells slots ls Q h1 h2 h3 h4 h5 h6 h7 h8 => ?_⟩
  · by_cases q : sm_w x ≤ 0
    · exact (kt q).1
    · exact (kf q).1
  · refine lv_if_le h1.1 h1.2.1 hd ht (fun q => ?_) (fun q => ?_)
    · rw [← sm_i_0, sm_i_le, sm_w_0] at q
      exact (kt q).2 p l e R s m args below meth c H locs cells slots ls Q h1 h2 h3 h4 h5 h6 h7 h8
    · rw [← sm_i_0, sm_i_le, sm_w_0] at q
      exact (kf q).2 p l e R s m args below meth c H locs cells slots ls Q h1 h2 h3 h4 h5 h6 h7 h8
theorem sm_icmp_le {off : Int} (tgt : Nat) {x y : Int} (hd : decode X.cc pc = .ok (.if_icmp .le off, 3)) (ht : (pc : Int) + off = (tgt : Int))
    (kt : sm_w x ≤ sm_w y → sM X tgt lv st E mi r) (kf : ¬ sm_w x ≤ sm_w y → sM X (pc + 3) lv st E mi r) : sM X pc lv (.inl y :: .inl x :: st) E mi r := by
  refine ⟨?_, fun p l e R s m args below meth c H locs cells slots ls Q h1 h2 h3 h4 h5 h6 h7 h8 => ?_⟩
  · by_cases q : sm_w x ≤ sm_w y
    · exact (kt q).1
    · exact (kf q).1
  · refine lv_icmp_le h1.1 h1.2.1 hd ht (fun q => ?_) (fun q => ?_)
    · rw [sm_i_le] at q
      exact (kt q).2 p l e R s m args below meth c H locs cells slots ls Q h1 h2 h3 h4 h5 h6 h7 h8
    · rw [sm_i_le] at q
      exact (kf q).2 p l e R s m args below meth c H locs cells slots ls Q h1 h2 h3 h4 h5 h6 h7 h8
theorem sm_table {dflt lo hi : Int} {offs : Array Int} {len : Nat} {x : Int} (hd : decode X.cc pc = .ok (.tableswitch dflt lo hi offs, len)) (tgt : Nat)
    (ht : (sm_w x < lo ∨ hi < sm_w x) ∧ (pc : Int) + dflt = (tgt : Int) ∨ (lo ≤ sm_w x ∧ sm_w x ≤ hi) ∧ ∃ off, offs[(sm_w x - lo).toNat]? = some off ∧ (pc : Int) + off = (tgt : Int))
    (kk : sM X tgt lv st E mi r) : sM X pc lv (.inl x :: st) E mi r := by
  refine ⟨kk.1, fun p l e R s m args below meth c H locs cells slots ls Q h1 h2 h3 h4 h5 h6 h7 h8 => ?_⟩
  have w := kk.2 p l e R s m args below meth c H locs cells slots ls Q h1 h2 h3 h4 h5 h6 h7 h8
  rcases ht with ⟨h, e⟩ | ⟨⟨ha, hb⟩, off, ho, e⟩
  · exact lv_tableOut h1.1 h1.2.1 hd h e w
  · exact lv_tableIn h1.1 h1.2.1 hd (Int.not_lt.mpr ha) (Int.not_lt.mpr hb) ho e w
theorem sm_lookup {dflt : Int} {ps : Array (Int × Int)} {len : Nat} {x : Int} (hd : decode X.cc pc = .ok (.lookupswitch dflt ps, len)) (tgt : Nat) (hp : (ps.toList.zip (ps.toList.drop 1)).all (fun (a, next) => a.1 < next.1) = true)
    (ht : (pc : Int) + Op.lookupswitch.offset ps.toList dflt (sm_w x) = (tgt : Int)) (kk : sM X tgt lv st E mi r) : sM X pc lv (.inl x :: st) E mi r := by
  refine ⟨kk.1, fun p l e R s m args below meth c H locs cells slots ls Q h1 h2 h3 h4 h5 h6 h7 h8 => ?_⟩
  exact lv_lookup h1.1 h1.2.1 hd hp rfl ht (kk.2 p l e R s m args below meth c H locs cells slots ls Q h1 h2 h3 h4 h5 h6 h7 h8)
theorem sm_ireturn {z : Int} (hd : decode X.cc pc = .ok (.ireturn, 1)) (hf : X.ret = some .int ∨ X.ret = some .boolean ∧ (z = 0 ∨ z = 1)) : sM X pc lv [.inl z] E mi (some (.inl z), E, mi) := by
  refine ⟨⟨Nat.le_refl _, Nat.le_refl _⟩, fun p l e R s m args below meth c H locs cells slots ls Q h1 h2 h3 h4 h5 h6 h7 h8 => ?_⟩
  exact h8 H locs cells slots ls pc h3 h4 (by omega) (by omega) (Or.inr ⟨.inl z, rfl, hd, z, rfl, hf⟩)
theorem sm_return (hr : X.ret = none) (hd : decode X.cc pc = .ok (.return_, 1)) : sM X pc lv [] E mi (none, E, mi) := by
  refine ⟨⟨Nat.le_refl _, Nat.le_refl _⟩, fun p l e R s m args below meth c H locs cells slots ls Q h1 h2 h3 h4 h5 h6 h7 h8 => ?_⟩
  exact h8 H locs cells slots ls pc h3 h4 (by omega) (by omega) (Or.inl ⟨rfl, hr, hd⟩)
end SMR
