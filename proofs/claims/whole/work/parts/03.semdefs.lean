/-! ===== the words of the walk: values, memory, and what a frame's road to its end is (sM), and a method's (cN) ===== -/
abbrev AV : Type := Int ⊕ Nat
abbrev MI : Type := Nat → Nat → Int
abbrev MR : Type := Nat → Nat → Option Nat
abbrev ET : Type := Nat × Nat × (Nat → Nat × Nat) × MR
abbrev GT : Type := va_G × (Nat → ClassId) × (Nat → Nat) × Nat
abbrev XT : Type := GT × String × ByteArray × Nat × Option FieldType × Bool × Nat × Nat
abbrev RT : Type := Option AV × ET × MI
def sm_i (x : Int) : Int32 := Int32.ofInt x
/-- the int that a word of 32 bits is -/
def sm_w (x : Int) : Int := (Int32.ofInt x).toInt
theorem sm_i_add (x y : Int) : sm_i x + sm_i y = sm_i (x + y) := (Int32.ofInt_add x y).symm
theorem sm_i_sub (x y : Int) : sm_i x - sm_i y = sm_i (x - y) := (Int32.ofInt_sub x y).symm
theorem sm_i_mul (x y : Int) : sm_i x * sm_i y = sm_i (x * y) := (Int32.ofInt_mul x y).symm
theorem sm_i_toInt (x : Int) : (sm_i x).toInt = sm_w x := rfl
theorem sm_i_w (x : Int) : sm_i (sm_w x) = sm_i x := by
  unfold sm_i sm_w
  exact Int32.ofInt_toInt _
theorem sm_i_of (v : Int32) : sm_i v.toInt = v := Int32.ofInt_toInt v
theorem sm_w_eq {x : Int} (h1 : -2147483648 ≤ x) (h2 : x < 2147483648) : sm_w x = x := by
  unfold sm_w
  rw [Int32.toInt_ofInt]
  have e : (Int32.size : Int) = 4294967296 := rfl
  apply Int.bmod_eq_of_le <;> rw [e] <;> omega
theorem sm_w_ge (x : Int) : -2147483648 ≤ sm_w x := by
  have h := Int32.le_toInt (Int32.ofInt x)
  unfold sm_w
  omega
theorem sm_w_lt (x : Int) : sm_w x < 2147483648 := by
  have h := Int32.toInt_lt (Int32.ofInt x)
  unfold sm_w
  omega
theorem sm_w_w (x : Int) : sm_w (sm_w x) = sm_w x := sm_w_eq (sm_w_ge x) (sm_w_lt x)
theorem sm_i_lt (x y : Int) : sm_i x < sm_i y ↔ sm_w x < sm_w y := Int32.lt_iff_toInt_lt
theorem sm_i_le (x y : Int) : sm_i x ≤ sm_i y ↔ sm_w x ≤ sm_w y := Int32.le_iff_toInt_le
theorem sm_i_eq (x y : Int) : sm_i x = sm_i y ↔ sm_w x = sm_w y := Int32.toInt_inj.symm
theorem sm_i_0 : sm_i 0 = 0 := rfl
theorem sm_w_0 : sm_w 0 = 0 := sm_w_eq (by omega) (by omega)
theorem sm_clamp (x : Int) : (sm_i x).toNatClampNeg = (sm_w x).toNat := rfl
theorem sm_in {x : Int} {n : Nat} (h0 : 0 ≤ sm_w x) (h1 : sm_w x < n) : vp_in (sm_i x) n := by
  intro q
  rcases q with q | q
  · rw [← sm_i_0, sm_i_lt, sm_w_0] at q
    omega
  · rw [sm_clamp] at q
    omega
-- parts of a frame's ground
abbrev GT.D (G : GT) : va_G := G.1
abbrev GT.cA (G : GT) : Nat → ClassId := G.2.1
abbrev GT.old (G : GT) : Nat → Nat := G.2.2.1
abbrev GT.base (G : GT) : Nat := G.2.2.2
abbrev XT.G (X : XT) : GT := X.1
abbrev XT.own (X : XT) : String := X.2.1
abbrev XT.cc (X : XT) : ByteArray := X.2.2.1
abbrev XT.nL (X : XT) : Nat := X.2.2.2.1
abbrev XT.ret (X : XT) : Option FieldType := X.2.2.2.2.1
abbrev XT.ini (X : XT) : Bool := X.2.2.2.2.2.1
abbrev XT.fr (X : XT) : Nat := X.2.2.2.2.2.2.1
abbrev XT.lo (X : XT) : Nat := X.2.2.2.2.2.2.2
abbrev ET.sz (E : ET) : Nat := E.1
abbrev ET.us (E : ET) : Nat := E.2.1
abbrev ET.sh (E : ET) : Nat → Nat × Nat := E.2.2.1
abbrev ET.mr (E : ET) : MR := E.2.2.2
def sm_adr (G : GT) (k : Nat) : Nat := if k < 3 then G.old k else G.base + (k - 3)
def sm_fr (G : GT) : Nat → Prop := fun q => G.base ≤ q
def sm_v (G : GT) : AV → Value
  | .inl z => .int (sm_i z)
  | .inr a => .ref (sm_adr G a)
theorem sm_v_cat (G : GT) (v : AV) : (sm_v G v).category = 1 := by cases v <;> rfl
theorem sm_cats (G : GT) (st : List AV) : ((st.map (sm_v G)).map fun v => v.category).sum = st.length := by
  induction st with
  | nil => rfl
  | cons a t ih =>
    simp only [List.map_cons, List.sum_cons, List.length_cons, sm_v_cat]
    simp only [List.map_map] at ih ⊢
    omega
-- classes by number
def sm_cC : Nat → String := fun k => match k with
  | 0 => RX1
  | 1 => RX2
  | 2 => RX3
  | 3 => RX4
  | 4 => RX5
  | 5 => RX7
  | 6 => RX9
  | _ => RX10
def sm_cT : Nat → u_T := fun k => match k with
  | 0 => TX1
  | 1 => TX2
  | 2 => TX3
  | 3 => TX4
  | 4 => TX5
  | 5 => TX7
  | 6 => TX9
  | _ => TX10
def sm_cN : Nat → Nat := fun k => match k with
  | 0 => 11
  | 1 => 4
  | 2 => 5
  | 3 => 14
  | 4 => 3
  | 5 => 13
  | 6 => 7
  | _ => 15
def sm_ty : Nat → Nat → FieldType := fun k => match k with
  | 0 => tyX1
  | 1 => tyX2
  | 2 => tyX3
  | 3 => tyX4
  | 4 => tyX5
  | 5 => tyX7
  | 6 => tyX9
  | _ => tyX10
/-- the classes of arrays: 20 int, 21 char, 22 .. of objects -/
def sm_aT : Nat → FieldType := fun k => match k with
  | 20 => .int
  | 21 => .char
  | 22 => .object RX4
  | 23 => .object RX3
  | 24 => .object RX1
  | _ => .object RX7
theorem sm_cl : ∀ k, k < 8 → vwCl[k]? = some (sm_cC k, sm_cT k, sm_cN k) := by
  intro k hk
  match k, hk with
  | 0, _ => rfl
  | 1, _ => rfl
  | 2, _ => rfl
  | 3, _ => rfl
  | 4, _ => rfl
  | 5, _ => rfl
  | 6, _ => rfl
  | 7, _ => rfl
  | k + 8, h => omega
theorem sm_tyok : ∀ k, k < 8 → ∀ j, j < sm_cN k → parseFieldDescriptor (sm_cT k j).2.2.1 = some (sm_ty k j) := by
  intro k hk
  match k, hk with
  | 0, _ => exact tyX1_ok
  | 1, _ => exact tyX2_ok
  | 2, _ => exact tyX3_ok
  | 3, _ => exact tyX4_ok
  | 4, _ => exact tyX5_ok
  | 5, _ => exact tyX7_ok
  | 6, _ => exact tyX9_ok
  | 7, _ => exact tyX10_ok
  | k + 8, h => omega
theorem sm_nmok : ∀ k, k < 8 → ∀ a, a < sm_cN k → ∀ b, b < sm_cN k → a ≠ b → (sm_cT k a).2.1 ≠ (sm_cT k b).2.1 := by
  intro k hk
  match k, hk with
  | 0, _ => exact nmX1
  | 1, _ => exact nmX2
  | 2, _ => exact nmX3
  | 3, _ => exact nmX4
  | 4, _ => exact nmX5
  | 5, _ => exact nmX7
  | 6, _ => exact nmX9
  | 7, _ => exact nmX10
  | k + 8, h => omega
theorem sm_dcl : ∀ k, k < 8 → ∀ j, (sm_cT k j).1 = sm_cC k := by
  intro k hk j
  match k, hk with
  | 0, _ => simp only [sm_cT, sm_cC, TX1, RX1]; split <;> rfl
  | 1, _ => simp only [sm_cT, sm_cC, TX2, RX2]; split <;> rfl
  | 2, _ => simp only [sm_cT, sm_cC, TX3, RX3]; split <;> rfl
  | 3, _ => simp only [sm_cT, sm_cC, TX4, RX4]; split <;> rfl
  | 4, _ => simp only [sm_cT, sm_cC, TX5, RX5]; split <;> rfl
  | 5, _ => simp only [sm_cT, sm_cC, TX7, RX7]; split <;> rfl
  | 6, _ => simp only [sm_cT, sm_cC, TX9, RX9]; split <;> rfl
  | 7, _ => simp only [sm_cT, sm_cC, TX10, RX10]; split <;> rfl
  | k + 8, h => omega
-- the words of the tables that hold at every method's start (ws), and those of the nest
def sm_tb : List Cond := lw_tbl.filter goodWord
def sm_ne : Cond → Bool
  | .fieldLinkNest _ _ _ _ _ _ => true
  | .methodLinkNest _ _ _ _ => true
  | _ => false
theorem sm_gd {w : Cond} (i : Nat) (h : lw_tbl[i]? = some w) (hg : goodWord w = true) : w ∈ sm_tb := List.mem_filter.mpr ⟨List.mem_of_getElem? h, hg⟩
theorem sm_tb_good : ∀ w ∈ sm_tb, (w.onTables && w.keeps) = true ∨ ∃ ty, w = .arrayClass ty := fun _ h => good_of_word (List.mem_filter.mp h).2
theorem sm_inU : ∀ k, k < 8 → ∀ w ∈ u_ws (sm_cC k) (sm_cT k) (sm_cN k), w ∈ sm_tb := by
  have gl : ∀ (C : String) (T : u_T) (N : Nat) (w : Cond), w ∈ u_ws C T N → goodWord w = true := by
    intro C T N w hw
    obtain ⟨j, -, rfl⟩ := List.mem_map.mp hw
    unfold u_lay
    split <;> rfl
  have go : ∀ (C : String) (T : u_T) (N : Nat), (∀ w ∈ u_ws C T N, w ∈ lw_tbl) → ∀ w ∈ u_ws C T N, w ∈ sm_tb := fun C T N h w hw => List.mem_filter.mpr ⟨h w hw, gl C T N w hw⟩
  intro k hk
  match k, hk with
  | 0, _ => exact go _ _ _ inX1
  | 1, _ => exact go _ _ _ inX2
  | 2, _ => exact go _ _ _ inX3
  | 3, _ => exact go _ _ _ inX4
  | 4, _ => exact go _ _ _ inX5
  | 5, _ => exact go _ _ _ inX7
  | 6, _ => exact go _ _ _ inX9
  | 7, _ => exact go _ _ _ inX10
  | k + 8, h => omega
-- a cell of the memory as the machine has it
def sm_f (G : GT) (mr : MR) (mi : MI) (kd a j : Nat) : Value := if (sm_ty kd j).isReference = true then va_rf ((mr a j).map (sm_adr G)) else .int (sm_i (mi a j))
def sm_cell (G : GT) (E : ET) (mi : MI) (a : Nat) : va_E :=
  if (E.sh a).1 < 8 then .inr ((E.sh a).1, (List.range (sm_cN (E.sh a).1)).map (sm_f G E.mr mi (E.sh a).1 a))
  else if (E.sh a).1 < 22 then .inl (G.cA (E.sh a).1, (E.sh a).2, .inl (fun j => sm_i (mi a j)))
  else .inl (G.cA (E.sh a).1, (E.sh a).2, .inr (.inr (.inr (.inr (fun j => (E.mr a j).map (sm_adr G))))))
/-- one of the three arrays that were there before: the script, the costs, the marks -/
def sm_old (G : GT) (E : ET) (mi : MI) (k : Nat) (H : Heap) : Prop := (E.sh k).1 = (if k = 2 then 21 else 20) ∧ ∃ scr : Cell, H[G.old k]? = some scr ∧ scr.cls = G.cA (10 + k) ∧ (∀ q, scr.vm ≠ .statics q) ∧ scr.vm ≠ .unknown ∧ scr.slots.size = (E.sh k).2 ∧ ∀ j, j < (E.sh k).2 → scr.slots[j]? = some (.int (sm_i (mi k j)))
def sm_H (G : GT) (E : ET) (mi : MI) (H : Heap) : Prop := H.size = G.base + (E.sz - 3) ∧ 3 ≤ E.sz ∧ (∀ k, 3 ≤ k → k < E.sz → va_at G.D vwCl (sm_adr G k, sm_cell G E mi k) H) ∧ ∀ k, k < 3 → sm_old G E mi k H
theorem sm_H.at {G : GT} {E : ET} {mi : MI} {H : Heap} {a : Nat} (h : sm_H G E mi H) (h3 : 3 ≤ a) (ha : a < E.sz) : va_at G.D vwCl (sm_adr G a, sm_cell G E mi a) H := h.2.2.1 a h3 ha
theorem sm_H.three {G : GT} {E : ET} {mi : MI} {H : Heap} {a : Nat} (h : sm_H G E mi H) (hk : (E.sh a).1 < 20 ∨ 22 ≤ (E.sh a).1) : 3 ≤ a := by
  refine Classical.byContradiction (fun q => ?_)
  have := (h.2.2.2 a (by omega)).1
  split at this <;> omega
/-- the classes of those arrays -/
def sm_oA (G : GT) (s : State) : Prop := ∀ k, k < 3 → ∃ (kA : Class) (comp : ClassId), s.vm.classes[G.cA (10 + k)]? = some kA ∧ kA.kind = .array comp (if k = 2 then .char else .int)
theorem sm_oA.moved {G : GT} {u U : State} (hvm : u.vm.Alike U.vm) (h : sm_oA G u) : sm_oA G U := fun k hk => by
  obtain ⟨kA, comp, h1, h2⟩ := h k hk
  obtain ⟨k', hk', he⟩ := hvm.2.2 _ _ h1
  exact ⟨k', comp, hk', by rw [he]; exact h2⟩
def sm_tys (G : GT) : List (ClassId × FieldType) := [(G.cA 20, .int), (G.cA 21, .char), (G.cA 22, .object RX4), (G.cA 23, .object RX3), (G.cA 24, .object RX1), (G.cA 25, .object RX7)]
def sm_S (G : GT) (s : State) : Prop :=
  va_K G.D vwCl (sm_tys G) s ∧ (∀ w ∈ lw_tbl, sm_ne w = true → va_Nw w s) ∧ (va_AO RX4 s ∧ va_AO RX3 s ∧ va_AO RX1 s ∧ va_AO RX7 s ∧ sm_oA G s) ∧
  va_Z "PatrolDesk$Books" "REPAIR_COSTS" "[I" (.ref (G.old 1)) (sm_fr G) s s.heap ∧ va_Z "PatrolDesk$CallText" "MARKS" "[C" (.ref (G.old 2)) (sm_fr G) s s.heap ∧
  G.base ≤ s.heap.size ∧ ∀ k, k < 3 → G.old k < G.base
def sm_env (X : XT) (p : Program) (s : State) (m : MethodId) (args : Array Value) (meth : Method) (c : Code) (R : Room) : Prop :=
  p.tables.exec = Jvm.exec ∧ c.code = X.cc ∧ c.maxLocals = X.nL ∧ s.vm.findClass X.own = some m.cls ∧ (∀ w ∈ sm_tb, w.before args s = true) ∧ (X.ini = true → meth.name = "<init>") ∧ X.fr ≤ R.frames ∧ X.lo ≤ R.locals
def sm_L (G : GT) (ls : Array Slot) (n : Nat) (lv : List (Option AV)) : Prop := ls.size = n ∧ lv_wf ls ∧ ∀ (k : Nat) (v : AV), lv[k]? = some (some v) → ls[k]? = some (.val (sm_v G v))
def sm_fit (ret : Option FieldType) (v : AV) : Prop := ∃ z, v = .inl z ∧ (ret = some .int ∨ ret = some .boolean ∧ (z = 0 ∨ z = 1))
def sm_end (X : XT) (r : RT) (p : Program) (l : Launch) (e : Env) (R : Room) (s : State) (m : MethodId) (args : Array Value) (below : List Frame) (meth : Method) (c : Code) (Q : State → Prop) : Prop :=
  ∀ (H : Heap) (locs : List Loc) (cells slots : Nat) (ls : Array Slot) (pc : Nat), sm_H X.G r.2.1 r.2.2 H → va_S (sm_fr X.G) s.heap H locs → cells ≤ R.cells → slots ≤ R.slots →
    ((r.1 = none ∧ X.ret = none ∧ decode X.cc pc = .ok (.return_, 1)) ∨ ∃ v, r.1 = some v ∧ decode X.cc pc = .ok (.ireturn, 1) ∧ sm_fit X.ret v) →
    W p l e R s m args below meth c H locs cells slots Q (F0 m pc ls (r.1.toList.map (sm_v X.G)))
/-- from pc, with these locals, this stack and this memory, the method ends with r -/
def sM (X : XT) (pc : Nat) (lv : List (Option AV)) (st : List AV) (E : ET) (mi : MI) (r : RT) : Prop :=
  (E.sz ≤ r.2.1.sz ∧ E.us ≤ r.2.1.us) ∧
  ∀ (p : Program) (l : Launch) (e : Env) (R : Room) (s : State) (m : MethodId) (args : Array Value) (below : List Frame) (meth : Method) (c : Code) (H : Heap) (locs : List Loc) (cells slots : Nat) (ls : Array Slot) (Q : State → Prop),
    sm_env X p s m args meth c R → sm_S X.G s → sm_H X.G E mi H → va_S (sm_fr X.G) s.heap H locs → sm_L X.G ls X.nL lv →
    cells + (r.2.1.sz - E.sz) ≤ R.cells → slots + (r.2.1.us - E.us) ≤ R.slots →
    sm_end X r p l e R s m args below meth c Q →
    W p l e R s m args below meth c H locs cells slots Q (F0 m pc ls (st.map (sm_v X.G)))
def sm_P (G : GT) (avs : List AV) (E : ET) (mi : MI) : Array Value → State → Prop := fun v U => v = (avs.map (sm_v G)).toArray ∧ sm_S G U ∧ sm_H G E mi U.heap
def sm_Q (G : GT) (r : RT) : Array Value → State → Outcome → State → Prop := fun _ st o t => o = .returned (r.1.map (sm_v G)) ∧ sm_H G r.2.1 r.2.2 t.heap ∧ va_F (sm_fr G) st t
/-- a method's contract: at these arguments and this memory it answers r -/
def cN (G : GT) (y : MethodName) (bytes : ByteArray) (mL : Nat) (ret : Option FieldType) (fr lo : Nat) (avs : List AV) (E : ET) (mi : MI) (r : RT) : Prop :=
  (E.sz ≤ r.2.1.sz ∧ E.us ≤ r.2.1.us) ∧ ∀ l : Launch, Met l y (Cond.code y bytes mL ret :: sm_tb) ({ frames := fr, cells := r.2.1.sz - E.sz, slots := r.2.1.us - E.us, locals := lo }) (sm_P G avs E mi) (sm_Q G r) (r.2.1.sz - E.sz) (r.2.1.us - E.us) (sm_fr G)
-- locals
theorem sm_L.at {G : GT} {ls : Array Slot} {n : Nat} {lv : List (Option AV)} (h : sm_L G ls n lv) {k : Nat} {v : AV} (hk : lv[k]? = some (some v)) : ls[k]? = some (.val (sm_v G v)) := h.2.2 k v hk
def sm_prs (G : GT) (lv : List (Option AV)) : List (Nat × Value) := (List.range lv.length).filterMap (fun k => match lv[k]? with
  | some (some v) => some (k, sm_v G v)
  | _ => none)
theorem sm_prs_in {G : GT} {lv : List (Option AV)} {k : Nat} {v : AV} (h : lv[k]? = some (some v)) : (k, sm_v G v) ∈ sm_prs G lv :=
  List.mem_filterMap.mpr ⟨k, List.mem_range.mpr (List.getElem?_eq_some_iff.mp h).1, by rw [h]⟩
theorem sm_prs_of {G : GT} {lv : List (Option AV)} {q : Nat × Value} (h : q ∈ sm_prs G lv) : ∃ v, lv[q.1]? = some (some v) ∧ q.2 = sm_v G v := by
  obtain ⟨k, -, hk⟩ := List.mem_filterMap.mp h
  split at hk
  · rename_i v hv
    cases hk
    exact ⟨v, hv, rfl⟩
  · cases hk
theorem sm_L.has {G : GT} {ls : Array Slot} {n : Nat} {lv : List (Option AV)} (h : sm_L G ls n lv) : lv_has ls n (sm_prs G lv) := by
  refine ⟨h.1, h.2.1, fun q hq => ?_⟩
  obtain ⟨v, h1, h2⟩ := sm_prs_of hq
  rw [h2]
  exact h.2.2 _ _ h1
theorem sm_L.store {G : GT} {ls : Array Slot} {n i : Nat} {lv : List (Option AV)} {v : AV} (h : lv_has ls n ((i, sm_v G v) :: (sm_prs G lv).filter (fun q => !(q.1 == i) && !(q.1 + 1 == i && q.2.category == 2)))) : sm_L G ls n (lv.set i (some v)) := by
  refine ⟨h.1, h.2.1, fun k u hk => ?_⟩
  rw [List.getElem?_set] at hk
  split at hk
  · rename_i e
    subst e
    split at hk
    · cases hk
      exact h.2.2 _ List.mem_cons_self
    · cases hk
  · rename_i e
    refine h.2.2 (k, sm_v G u) (List.mem_cons_of_mem _ (List.mem_filter.mpr ⟨sm_prs_in hk, ?_⟩))
    have e2 : ¬ k = i := fun q => e q.symm
    simp [e2, sm_v_cat]
/-- fewer locals -/
def sm_le : List (Option AV) → List (Option AV) → Prop
  | [], _ => True
  | none :: a, _ :: b => sm_le a b
  | none :: a, [] => sm_le a []
  | some v :: a, w :: b => w = some v ∧ sm_le a b
  | some _ :: _, [] => False
theorem sm_le_at : ∀ (a b : List (Option AV)), sm_le a b → ∀ (k : Nat) (v : AV), a[k]? = some (some v) → b[k]? = some (some v)
  | [], _, _, k, v, h => by simp at h
  | none :: a, _ :: b, h, 0, v, hk => by simp at hk
  | none :: a, _ :: b, h, k + 1, v, hk => by simpa using sm_le_at a b h k v (by simpa using hk)
  | none :: a, [], h, 0, v, hk => by simp at hk
  | none :: a, [], h, k + 1, v, hk => by
    have := sm_le_at a [] h k v (by simpa using hk)
    simp at this
  | some u :: a, w :: b, h, 0, v, hk => by
    simp at hk
    subst hk
    simpa using h.1
  | some u :: a, w :: b, h, k + 1, v, hk => by simpa using sm_le_at a b h.2 k v (by simpa using hk)
  | some _ :: _, [], h, _, _, _ => h.elim
theorem sm_less {X : XT} {pc : Nat} {lv lv' : List (Option AV)} {st : List AV} {E : ET} {mi : MI} {r : RT} (h : sm_le lv' lv) (k : sM X pc lv' st E mi r) : sM X pc lv st E mi r :=
  ⟨k.1, fun p l e R s m args below meth c H locs cells slots ls Q h1 h2 h3 h4 h5 h6 h7 h8 => k.2 p l e R s m args below meth c H locs cells slots ls Q h1 h2 h3 h4 ⟨h5.1, h5.2.1, fun i v hi => h5.2.2 i v (sm_le_at _ _ h i v hi)⟩ h6 h7 h8⟩
