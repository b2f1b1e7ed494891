/-! ===== the claim's own start ===== -/
theorem st_eq {t : Term} {args : Array Value} {s : State} {z : Int32} (h : (Cond.eq t (.int z)).before args s = true) : t.eval args s none [] s = some (.int z) := by
  cases hv : t.eval args s none [] s with
  | none => simp [Cond.before, Cond.holds, Cond.value, hv] at h
  | some w =>
    have hz : (Term.int z).eval args s none [] s = some (.int z) := rfl
    simp only [Cond.before, Cond.holds, Cond.value, hv, hz] at h
    cases w <;> simp_all
theorem st_len {t : Term} {args : Array Value} {s : State} {a : Addr} {cell : Cell} (ht : t.eval args s none [] s = some (.ref a)) (hat : s.arrayAt? a = some cell) (h : (Term.length t).eval args s none [] s = some (.int 3)) : cell.slots.size = 3 := by
  simp only [Term.eval, Option.bind_eq_bind, ht, hat, Option.bind_some] at h
  by_cases hlt : cell.slots.size < 2147483648
  · rw [if_pos hlt] at h
    have e : Int32.ofNat cell.slots.size = Int32.ofNat 3 := by
      injection h with h
      injection h with h
    have u := congrArg Int32.toInt e
    rw [Int32.toInt_ofNat_of_lt (by omega), Int32.toInt_ofNat_of_lt (by decide)] at u
    omega
  · rw [if_neg hlt] at h
    cases h
theorem st_at {t : Term} {args : Array Value} {s : State} {a : Addr} {cell : Cell} {i z : Int32} (ht : t.eval args s none [] s = some (.ref a)) (hat : s.arrayAt? a = some cell) (h : (Cond.eq (.elem t (.int i)) (.int z)).before args s = true) : cell.slots[i.toNatClampNeg]? = some (.int z) := by
  obtain ⟨a', j, cell', q1, q2, q3, -, q5⟩ := Term.elem_spec (st_eq h)
  cases ht.symm.trans q1
  cases hat.symm.trans q3
  have q2' : some (Value.int i) = some (Value.int j) := q2
  cases q2'
  exact q5
/-- an array of three, told by the words of the start -/
theorem st_three {t : Term} {args : Array Value} {s : State} {ty : FieldType} {z0 z1 z2 : Int32} (h1 : (Cond.arrayOf t ty).before args s = true) (h2 : (Cond.eq (.length t) (.int 3)).before args s = true)
    (g0 : (Cond.eq (.elem t (.int 0)) (.int z0)).before args s = true) (g1 : (Cond.eq (.elem t (.int 1)) (.int z1)).before args s = true) (g2 : (Cond.eq (.elem t (.int 2)) (.int z2)).before args s = true) :
    ∃ (a : Addr) (cell : Cell), t.eval args s none [] s = some (.ref a) ∧ s.heap[a]? = some cell ∧ s.isArrayOf cell ty ∧ cell.vm ≠ .unknown ∧ cell.slots.size = 3 ∧ cell.slots[0]? = some (.int z0) ∧ cell.slots[1]? = some (.int z1) ∧ cell.slots[2]? = some (.int z2) := by
  obtain ⟨a, cell, ht, hat, -⟩ := Term.length_spec (st_eq h2)
  have hc := (State.arrayAt?_spec hat).1
  have ho := Cond.arrayOf_spec h1 ht hc
  exact ⟨a, cell, ht, hc, ho.1, ho.2, st_len ht hat (st_eq h2), st_at ht hat g0, st_at ht hat g1, st_at ht hat g2⟩
def st_cA (c10 c11 c12 c20 c21 c22 c23 c24 c25 : ClassId) : Nat → ClassId := fun k => if k = 10 then c10 else if k = 11 then c11 else if k = 12 then c12 else if k = 20 then c20 else if k = 21 then c21 else if k = 22 then c22 else if k = 23 then c23 else if k = 24 then c24 else c25
theorem st_obj {s : State} {args : Array Value} {C : String} (h : (Cond.arrayOver (.object C)).before args s = true) : ∃ c : ClassId, ArrOfT s c (.object C) ∧ va_RA s c (.object C) := by
  obtain ⟨comp, c, k, h1, -, h3, h4, h5⟩ := Cond.arrayOver_spec h
  exact ⟨c, fun n z => ⟨fun q e => (by cases e), k, h3, comp, h4⟩, ⟨k, comp, h3, h4, h1, h5⟩⟩
theorem st_inst : ∀ k, k < 8 → Cond.instantiable (sm_cC k) (sm_cN k) ∈ sm_tb := by
  intro k hk
  match k, hk with
  | 0, _ => exact ln_RX7_34.2.1
  | 1, _ => exact ln_RX9_26.2.1
  | 2, _ => exact ln_RX7_28.2.1
  | 3, _ => exact ln_RX7_22.2.1
  | 4, _ => exact ln_RX7_9.2.1
  | 5, _ => exact ln_RX9_7.2.1
  | 6, _ => exact ln_RL_7.2.1
  | 7, _ => exact ln_RL_10.2.1
  | k + 8, h => omega
theorem st_prim {s : State} {args : Array Value} {ty : FieldType} (hra : ∀ c, va_RA s c ty = (s.vm.findClass ("[" ++ ty.toString) = some c)) (h : (Cond.arrayClass ty).before args s = true) : ∃ c : ClassId, ArrOfT s c ty ∧ va_RA s c ty := by
  obtain ⟨c, k, comp, h1, h2, h3⟩ := Cond.arrayClass_spec h
  exact ⟨c, fun n z => ⟨fun q e => (by cases e), k, h2, comp, h3⟩, by rw [hra]; exact h1⟩
theorem st_onT : ∀ w : Cond, sm_ne w = true → w.onTables = true := by
  intro w h
  cases w <;> first | rfl | exact absurd h Bool.false_ne_true
theorem whole_start {p : Program} {e : Env} {s : State} {m : MethodId} {below : List Frame} {meth : Method} {c : Code} (l : Launch) (hflags : l.flags = flags0) {b L : Nat} {xs : Nat → Int32} (hL : L ≤ 2048) (C0 : lw_At p s m meth c b L xs) : W p l e room_1 s m #[Value.ref b] below meth c s.heap [] 0 0 (lw_Z below #[Value.ref b] s) (entryFrame m ([Value.ref b] : List Value).toArray 4) := by
  obtain ⟨hx, hb, hr, hml, hown, hts, ⟨scr, x1, x2, x3, x4, x5⟩, hbl, hlocks, hgv⟩ := C0
  have hs := flat_of_before _ hgv
  have tts : ∀ w ∈ sm_tb, w.before #[Value.ref b] s = true := fun w h => hts w (List.mem_filter.mp h).1
  obtain ⟨a1, co, e1, u1, v1, w1, z1, y10, y11, y12⟩ := st_three (t := .static "PatrolDesk$Books" "REPAIR_COSTS" "[I") (ty := .int) (z0 := 20) (z1 := 10) (z2 := 0) (hs _ (by decide +kernel)) (hs _ (by decide +kernel)) (hs _ (by decide +kernel)) (hs _ (by decide +kernel)) (hs _ (by decide +kernel))
  obtain ⟨a2, cm, e2, u2, v2, w2, z2, y20, y21, y22⟩ := st_three (t := .static "PatrolDesk$CallText" "MARKS" "[C") (ty := .char) (z0 := 109) (z1 := 64) (z2 := 33) (hs _ (by decide +kernel)) (hs _ (by decide +kernel)) (hs _ (by decide +kernel)) (hs _ (by decide +kernel)) (hs _ (by decide +kernel))
  obtain ⟨c20, p20, q20⟩ := st_prim (ty := .int) (fun _ => rfl) (tts _ ac_int)
  obtain ⟨c21, p21, q21⟩ := st_prim (ty := .char) (fun _ => rfl) (tts _ ac_char)
  have o22 : (Cond.arrayOver (.object RX4)).before #[Value.ref b] s = true := hts _ (List.mem_of_getElem? (i := 95) (by decide +kernel))
  have o23 : (Cond.arrayOver (.object RX3)).before #[Value.ref b] s = true := hts _ (List.mem_of_getElem? (i := 97) (by decide +kernel))
  have o24 : (Cond.arrayOver (.object RX1)).before #[Value.ref b] s = true := hts _ (List.mem_of_getElem? (i := 99) (by decide +kernel))
  have o25 : (Cond.arrayOver (.object RX7)).before #[Value.ref b] s = true := hts _ (List.mem_of_getElem? (i := 347) (by decide +kernel))
  obtain ⟨c22, p22, q22⟩ := st_obj o22
  obtain ⟨c23, p23, q23⟩ := st_obj o23
  obtain ⟨c24, p24, q24⟩ := st_obj o24
  obtain ⟨c25, p25, q25⟩ := st_obj o25
  have hKn : ∀ k, ∃ q : ClassId × (Nat → Nat), k < 8 → u_Kn s (sm_cC k) (sm_cT k) (sm_cN k) q.1 q.2 := by
    intro k
    by_cases hk : k < 8
    · obtain ⟨c, i, h⟩ := u_known (ws := sm_tb) tts (sm_inU k hk) (tts _ (st_inst k hk))
      exact ⟨(c, i), fun _ => h⟩
    · exact ⟨(0, fun _ => 0), fun h => absurd h hk⟩
  obtain ⟨f, hf⟩ := Classical.axiomOfChoice hKn
  let G : GT := ((fun k => (f k).1, fun k => (f k).2), st_cA scr.cls co.cls cm.cls c20 c21 c22 c23 c24 c25, (fun k => if k = 0 then b else if k = 1 then a1 else a2), s.heap.size)
  let E0 : ET := (3, 0, (fun k => if k = 0 then (20, L) else if k = 1 then (20, 3) else (21, 3)), fun _ _ => none)
  let mi0 : MI := fun k => if k = 0 then fun j => (xs j).toInt else if k = 1 then sl_cost else sl_mark
  have hK : va_K G.D vwCl (sm_tys G) s := by
    refine ⟨fun c q hq => ?_, fun k q hk => ?_⟩
    · have hc : c < 8 := (List.getElem?_eq_some_iff.mp hq).1
      rw [sm_cl c hc] at hq
      cases hq
      exact hf c hc
    · match k, hk with
      | 0, hk => cases hk; exact ⟨p20, q20⟩
      | 1, hk => cases hk; exact ⟨p21, q21⟩
      | 2, hk => cases hk; exact ⟨p22, q22⟩
      | 3, hk => cases hk; exact ⟨p23, q23⟩
      | 4, hk => cases hk; exact ⟨p24, q24⟩
      | 5, hk => cases hk; exact ⟨p25, q25⟩
      | k + 6, hk => cases hk
  have hoA : sm_oA G s := by
    intro k hk
    obtain ⟨-, k0, m0, comp0, n0⟩ := x2
    obtain ⟨-, k1, m1, comp1, n1⟩ := v1
    obtain ⟨-, k2, m2, comp2, n2⟩ := v2
    match k, hk with
    | 0, _ => exact ⟨k0, comp0, m0, n0⟩
    | 1, _ => exact ⟨k1, comp1, m1, n1⟩
    | 2, _ => exact ⟨k2, comp2, m2, n2⟩
    | k + 3, h => omega
  have nA : ∀ a : Nat, a < s.heap.size → ¬ sm_fr G a := fun a h1 h2 => by
    have h2' : s.heap.size ≤ a := h2
    omega
  have hS : sm_S G s := ⟨hK, fun w hw hn => va_Nw.of (st_onT w hn) (hts w hw), ⟨va_AO.of o22, va_AO.of o23, va_AO.of o24, va_AO.of o25, hoA⟩,
    va_Zref (hts _ (List.mem_of_getElem? (i := 759) (by decide +kernel))) (hts _ (List.mem_of_getElem? (i := 60) (by decide +kernel))) e1 nA,
    va_Zref (hts _ (List.mem_of_getElem? (i := 696) (by decide +kernel))) (hts _ (List.mem_of_getElem? (i := 54) (by decide +kernel))) e2 nA, Nat.le_refl _, fun k hk => by
      match k, hk with
      | 0, _ => exact hbl
      | 1, _ => exact (Array.getElem?_eq_some_iff.mp u1).1
      | 2, _ => exact (Array.getElem?_eq_some_iff.mp u2).1
      | k + 3, h => omega⟩
  have hH : sm_H G E0 mi0 s.heap := by
    refine ⟨rfl, Nat.le_refl 3, fun k h1 h2 => ?_, fun k hk => ?_⟩
    · have h2' : k < 3 := h2
      omega
    · match k, hk with
      | 0, _ => exact ⟨rfl, scr, x1, rfl, x2.1, x3, x4, fun j hj => by
          rw [x5 j hj]
          show some (Value.int (xs j)) = some (Value.int (sm_i (xs j).toInt))
          rw [sm_i_of]⟩
      | 1, _ => exact ⟨rfl, co, u1, rfl, v1.1, w1, z1, fun j hj => by
          match j, hj with
          | 0, _ => exact y10
          | 1, _ => exact y11
          | 2, _ => exact y12
          | j + 3, h => exact absurd h (by show ¬ j + 3 < 3; omega)⟩
      | 2, _ => exact ⟨rfl, cm, u2, rfl, v2.1, w2, z2, fun j hj => by
          match j, hj with
          | 0, _ => exact y20
          | 1, _ => exact y21
          | 2, _ => exact y22
          | j + 3, h => exact absurd h (by show ¬ j + 3 < 3; omega)⟩
      | k + 3, h => omega
  obtain ⟨E', mi', hz, hu, hM⟩ := law_start (G := G) (E0 := E0) (mi0 := mi0) (L := L) rfl rfl rfl rfl rfl (fun _ _ => rfl) (fun _ _ => rfl) (fun j => by
    have t1 := (xs j).le_toInt
    have t2 := (xs j).toInt_lt
    have t3 : mi0 0 j = (xs j).toInt := rfl
    rw [t3]
    exact ⟨by omega, by omega⟩) hL
  have hl0 := lv_entry [Value.ref b] (n := 4) (show 1 ≤ 4 by decide)
  rw [lg_entry_eq]
  refine hM.2 p l e _ s m _ below meth c s.heap [] 0 0 _ _ ⟨hx, hb, hml, hown, tts, fun q => (by cases q), show 8 ≤ 10 by decide, show 195 ≤ 390 by decide⟩ hS hH va_S.rf ⟨hl0.1, hl0.2.1, fun k v hk => ?_⟩ (by rw [hz]; exact show 0 + (445 - 3) ≤ 600000 by decide) (by rw [hu]; exact show 0 + (13007 - 0) ≤ 7302250 by decide) ?_
  · match k, hk with
    | 0, hk => cases hk; rfl
    | 1, hk => cases hk
    | 2, hk => cases hk
    | 3, hk => cases hk
    | k + 4, hk => cases hk
  · intro H locs cells slots ls pc g1 g2 g3 g4 g5
    refine W.widen g3 g4 ?_
    rcases g5 with ⟨e, -, -⟩ | ⟨v, e, d, -⟩
    · cases e
    · cases e
      exact va_forget (fun q hq => g2.2.2 q hq) (lw_ret hx hb hr hlocks d)
