/-! ===== rows of the walk: what is made, statics, library calls ===== -/
def sm_al (E : ET) (kd n w : Nat) : ET := (E.1 + 1, E.2.1 + w, (fun k => if k = E.1 then (kd, n) else E.2.2.1 k), (fun k => if k = E.1 then (fun _ => none) else E.2.2.2 k))
def sm_z (mi : MI) (a : Nat) : MI := fun k => if k = a then (fun _ => 0) else mi k
theorem sm_H.push {G : GT} {E : ET} {mi : MI} {H H' : Heap} {kd n w : Nat} (h : sm_H G E mi H) (ha : va_at G.D vwCl (H.size, sm_cell G (sm_al E kd n w) (sm_z mi E.sz) E.sz) H') (hs : H'.size = H.size + 1)
    (oq : ∀ q, q < H.size → H'[q]? = H[q]?) : sm_H G (sm_al E kd n w) (sm_z mi E.sz) H' := by
  have hsz := h.1
  have h3 := h.2.1
  refine ⟨by rw [hs, hsz]; show _ = G.base + (E.1 + 1 - 3); have : 3 ≤ E.1 := h3; show G.base + (E.1 - 3) + 1 = _; omega, by show 3 ≤ E.1 + 1; have : 3 ≤ E.1 := h3; omega, fun k hk3 hk => ?_, fun k hk => ?_⟩
  rotate_left
  · have c1 : (sm_al E kd n w).sh k = E.sh k := by
      show (if k = E.1 then _ else _) = _
      rw [if_neg (by have : 3 ≤ E.1 := h3; omega)]
    have c3 : sm_z mi E.sz k = mi k := by
      unfold sm_z
      rw [if_neg (by omega)]
    obtain ⟨g0, scr, g1, g2, g3, g4, g5, g6⟩ := h.2.2.2 k hk
    have hq : H'[G.old k]? = H[G.old k]? := oq _ (Array.getElem?_eq_some_iff.mp g1).1
    exact ⟨by rw [c1]; exact g0, scr, by rw [hq]; exact g1, g2, g3, g4, by rw [c1]; exact g5, fun j hj => by rw [c3]; exact g6 j (by rw [← c1]; exact hj)⟩
  by_cases e : k = E.sz
  · subst e
    have : sm_adr G E.sz = H.size := by
      unfold sm_adr
      rw [if_neg (by omega : ¬ E.sz < 3), hsz]
    rw [this]
    exact ha
  · have hk' : k < E.sz := by
      have : k < E.1 + 1 := hk
      have e' : ¬ k = E.1 := e
      show k < E.1
      omega
    have hat := h.at hk3 hk'
    rw [sm_cell_congr (E := E) (mi := mi) (by show (if k = E.1 then _ else _) = _; rw [if_neg e]) (by show (if k = E.1 then _ else _) = _; rw [if_neg e]) (by show (if k = E.1 then _ else _) = _; rw [if_neg e])]
    exact hat.kept (oq _ hat.lt)
theorem sm_tyK : ∀ k, k < 8 → ∀ j, sm_ty k j = .int ∨ sm_ty k j = .boolean ∨ (sm_ty k j).isReference = true := by
  intro k hk j
  match k, hk with
  | 0, _ => simp only [sm_ty, tyX1]; split <;> first | exact Or.inl rfl | exact Or.inr (Or.inl rfl) | exact Or.inr (Or.inr rfl)
  | 1, _ => simp only [sm_ty, tyX2]; split <;> first | exact Or.inl rfl | exact Or.inr (Or.inl rfl) | exact Or.inr (Or.inr rfl)
  | 2, _ => simp only [sm_ty, tyX3]; split <;> first | exact Or.inl rfl | exact Or.inr (Or.inl rfl) | exact Or.inr (Or.inr rfl)
  | 3, _ => simp only [sm_ty, tyX4]; split <;> first | exact Or.inl rfl | exact Or.inr (Or.inl rfl) | exact Or.inr (Or.inr rfl)
  | 4, _ => simp only [sm_ty, tyX5]; split <;> first | exact Or.inl rfl | exact Or.inr (Or.inl rfl) | exact Or.inr (Or.inr rfl)
  | 5, _ => simp only [sm_ty, tyX7]; split <;> first | exact Or.inl rfl | exact Or.inr (Or.inl rfl) | exact Or.inr (Or.inr rfl)
  | 6, _ => simp only [sm_ty, tyX9]; split <;> first | exact Or.inl rfl | exact Or.inr (Or.inl rfl) | exact Or.inr (Or.inr rfl)
  | 7, _ => simp only [sm_ty, tyX10]; split <;> first | exact Or.inl rfl | exact Or.inr (Or.inl rfl) | exact Or.inr (Or.inr rfl)
  | k + 8, h => omega
section SMN
variable {X : XT} {pc : Nat} {lv : List (Option AV)} {st : List AV} {E : ET} {mi : MI} {r : RT}
theorem sm_frS {G : GT} {s : State} (h : sm_S G s) : ∀ q, s.heap.size ≤ q → sm_fr G q := fun q hq => by
  have := h.2.2.2.2.2.1
  show G.base ≤ q
  omega
theorem sm_new {idx kd : Nat} (h8 : kd < 8) (hw : Cond.classLink X.own idx (sm_cC kd) ∈ sm_tb ∧ Cond.instantiable (sm_cC kd) (sm_cN kd) ∈ sm_tb ∧ Cond.initialized (sm_cC kd) ∈ sm_tb) (hd : decode X.cc pc = .ok (.new idx, 3))
    (kk : sM X (pc + 3) lv (.inr E.sz :: st) (sm_al E kd 0 (sm_cN kd)) (sm_z mi E.sz) r) : sM X pc lv st E mi r := by
  have m1 : E.1 + 1 ≤ r.2.1.1 := kk.1.1
  have m2 : E.2.1 + sm_cN kd ≤ r.2.1.2.1 := kk.1.2
  refine ⟨⟨by show E.1 ≤ _; exact Nat.le_of_succ_le m1, by show E.2.1 ≤ _; exact Nat.le_trans (Nat.le_add_right _ _) m2⟩, fun p l e R s m args below meth c H locs cells slots ls Q h1 h2 h3 h4 h5 h6 h7 h8' => ?_⟩
  have h6a : cells + (r.2.1.1 - E.1) ≤ R.cells := h6
  have h7a : slots + (r.2.1.2.1 - E.2.1) ≤ R.slots := h7
  have hts := h1.2.2.2.2.1
  have hc := sm_cl kd h8
  have hKn := h2.1.1 kd _ hc
  refine W.newcK h1.1 h1.2.1 h1.2.2.2.1 (hts _ hw.1) (hts _ hw.2.1) (hts _ hw.2.2) rfl hd (by omega) (by omega) hKn.2.1 rfl fun H1 kC hkC e1 z1 o1 => ?_
  have hadr : sm_adr X.G E.sz = H.size := by
    unfold sm_adr
    rw [if_neg (by have := h3.2.1; omega : ¬ E.sz < 3), h3.1]
  have hH : sm_H X.G (sm_al E kd 0 (sm_cN kd)) (sm_z mi E.sz) H1 := by
    refine h3.push ?_ z1 o1
    rw [sm_cell_o (E := sm_al E kd 0 (sm_cN kd)) (kd := kd) (by show (if E.1 = E.1 then (kd, 0) else E.2.2.1 E.1).1 = _; rw [if_pos rfl]) h8]
    refine ⟨_, hc, (u_born (sm_ty kd) hts (sm_inU kd h8) hKn hkC e1 (sm_tyok kd h8)).to (fun j hj => ?_)⟩
    rw [sm_V hj]
    unfold sm_f sm_al sm_z
    rcases sm_tyK kd h8 j with hty | hty | hty
    · simp [hty, FieldType.isReference, defaultValue, sm_i_0, ET.sz]
    · simp [hty, FieldType.isReference, defaultValue, sm_i_0, ET.sz]
    · rw [hty]
      revert hty
      cases sm_ty kd j <;> simp [FieldType.isReference, defaultValue, va_rf, ET.mr, ET.sz]
  have w := kk.2 p l e R s m args below meth c H1 locs (cells + 1) (slots + sm_cN kd) ls Q h1 h2 hH ⟨Nat.le_trans h4.1 (by omega), fun x g1 g2 => (o1 x (Nat.lt_of_lt_of_le g1 h4.1)).trans (h4.2.1 x g1 g2), h4.2.2⟩ h5
    (by show cells + 1 + (r.2.1.1 - (E.1 + 1)) ≤ _; omega) (by show slots + sm_cN kd + (r.2.1.2.1 - (E.2.1 + sm_cN kd)) ≤ _; omega) h8'
  simp only [List.map_cons, sm_v, hadr] at w
  exact w
theorem sm_newarray {at' : ArrayType} {n : Nat} {kd : Nat} (hat : at' = .int ∧ kd = 20 ∨ at' = .char ∧ kd = 21) (hw : Cond.arrayClass (newarray.typeOf at') ∈ sm_tb) (hn : n < 65536) (hd : decode X.cc pc = .ok (.newarray at', 2))
    (kk : sM X (pc + 2) lv (.inr E.sz :: st) (sm_al E kd n n) (sm_z mi E.sz) r) : sM X pc lv (.inl (n : Int) :: st) E mi r := by
  have m1 : E.1 + 1 ≤ r.2.1.1 := kk.1.1
  have m2 : E.2.1 + n ≤ r.2.1.2.1 := kk.1.2
  refine ⟨⟨by show E.1 ≤ _; exact Nat.le_of_succ_le m1, by show E.2.1 ≤ _; exact Nat.le_trans (Nat.le_add_right _ _) m2⟩, fun p l e R s m args below meth c H locs cells slots ls Q h1 h2 h3 h4 h5 h6 h7 h8' => ?_⟩
  have h6a : cells + (r.2.1.1 - E.1) ≤ R.cells := h6
  have h7a : slots + (r.2.1.2.1 - E.2.1) ≤ R.slots := h7
  have hts := h1.2.2.2.2.1
  have hwn : sm_w (n : Int) = n := sm_w_eq (by omega) (by omega)
  have hcb : componentBytes (newarray.typeOf at') ≤ 8 := by rcases hat with ⟨rfl, rfl⟩ | ⟨rfl, rfl⟩ <;> decide
  have hbytes : n * componentBytes (newarray.typeOf at') ≤ 536870912 := Nat.le_trans (Nat.mul_le_mul (Nat.le_of_lt hn) hcb) (by decide)
  refine va_newaK (n := sm_i n) (N := n) h1.1 h1.2.1 (hts _ hw) rfl hd rfl (by rw [← sm_i_0, sm_i_lt, sm_w_0, hwn]; omega) (by rw [sm_clamp, hwn]; rfl) hbytes (by omega) (by omega) rfl fun H1 cA e1 z1 o1 hAr hNm => ?_
  have hadr : sm_adr X.G E.sz = H.size := by
    unfold sm_adr
    rw [if_neg (by have := h3.2.1; omega : ¬ E.sz < 3), h3.1]
  have hcA : cA = X.G.cA kd := by
    rcases hat with ⟨rfl, rfl⟩ | ⟨rfl, rfl⟩
    · exact Option.some.inj (hNm.symm.trans (h2.1.2 0 _ rfl).2)
    · exact Option.some.inj (hNm.symm.trans (h2.1.2 1 _ rfl).2)
  have h2021 : kd = 20 ∨ kd = 21 := by rcases hat with ⟨-, h⟩ | ⟨-, h⟩ <;> omega
  have hH : sm_H X.G (sm_al E kd n n) (sm_z mi E.sz) H1 := by
    refine h3.push ?_ z1 o1
    rw [sm_cell_i (E := sm_al E kd n n) (kd := kd) (n := n) (by show (if E.1 = E.1 then _ else _) = _; rw [if_pos rfl]) h2021]
    show H1[H.size]? = some (vp_cell _ _)
    rw [e1, vp_cell_i, hcA]
    have : defaultValue (newarray.typeOf at') = .int 0 := by rcases hat with ⟨rfl, -⟩ | ⟨rfl, -⟩ <;> rfl
    rw [this]
    unfold sm_z
    simp [sm_i_0]
  have w := kk.2 p l e R s m args below meth c H1 locs (cells + 1) (slots + n) ls Q h1 h2 hH ⟨Nat.le_trans h4.1 (by omega), fun x g1 g2 => (o1 x (Nat.lt_of_lt_of_le g1 h4.1)).trans (h4.2.1 x g1 g2), h4.2.2⟩ h5
    (by show cells + 1 + (r.2.1.1 - (E.1 + 1)) ≤ _; omega) (by show slots + n + (r.2.1.2.1 - (E.2.1 + n)) ≤ _; omega) h8'
  simp only [List.map_cons, sm_v, hadr] at w
  exact w
theorem sm_anewarray {n idx kd : Nat} (h22 : kd = 22 ∨ kd = 23 ∨ kd = 24 ∨ kd = 25) (hw : Cond.classLink X.own idx (sm_cC (sm_aK kd)) ∈ sm_tb) (hn : n < 65536) (hd : decode X.cc pc = .ok (.anewarray idx, 3))
    (kk : sM X (pc + 3) lv (.inr E.sz :: st) (sm_al E kd n n) (sm_z mi E.sz) r) : sM X pc lv (.inl (n : Int) :: st) E mi r := by
  have m1 : E.1 + 1 ≤ r.2.1.1 := kk.1.1
  have m2 : E.2.1 + n ≤ r.2.1.2.1 := kk.1.2
  refine ⟨⟨by show E.1 ≤ _; exact Nat.le_of_succ_le m1, by show E.2.1 ≤ _; exact Nat.le_trans (Nat.le_add_right _ _) m2⟩, fun p l e R s m args below meth c H locs cells slots ls Q h1 h2 h3 h4 h5 h6 h7 h8' => ?_⟩
  have h6a : cells + (r.2.1.1 - E.1) ≤ R.cells := h6
  have h7a : slots + (r.2.1.2.1 - E.2.1) ≤ R.slots := h7
  have hts := h1.2.2.2.2.1
  have hwn : sm_w (n : Int) = n := sm_w_eq (by omega) (by omega)
  have hcl : (sm_i n).toNatClampNeg = n := by rw [sm_clamp, hwn]; rfl
  have hAO : va_AO (sm_cC (sm_aK kd)) s := by
    rcases h22 with rfl | rfl | rfl | rfl
    · exact h2.2.2.1.1
    · exact h2.2.2.1.2.1
    · exact h2.2.2.1.2.2.1
    · exact h2.2.2.1.2.2.2.1
  refine W.anew (n := sm_i n) h1.1 h1.2.1 h1.2.2.2.1 (hts _ hw) (va_AO.use hAO) rfl hd rfl (by rw [← sm_i_0, sm_i_lt, sm_w_0, hwn]; omega) (by rw [hcl]; omega) (by omega) (by rw [hcl]; omega) fun cA kA comp f1 f2 f3 f4 => ?_
  have hadr : sm_adr X.G E.sz = H.size := by
    unfold sm_adr
    rw [if_neg (by have := h3.2.1; omega : ¬ E.sz < 3), h3.1]
  have hcA : cA = X.G.cA kd := by
    rcases h22 with rfl | rfl | rfl | rfl
    · obtain ⟨-, -, -, -, -, g⟩ := (h2.1.2 2 _ rfl).2
      exact Option.some.inj (f1.symm.trans g)
    · obtain ⟨-, -, -, -, -, g⟩ := (h2.1.2 3 _ rfl).2
      exact Option.some.inj (f1.symm.trans g)
    · obtain ⟨-, -, -, -, -, g⟩ := (h2.1.2 4 _ rfl).2
      exact Option.some.inj (f1.symm.trans g)
    · obtain ⟨-, -, -, -, -, g⟩ := (h2.1.2 5 _ rfl).2
      exact Option.some.inj (f1.symm.trans g)
  generalize hH1 : H.push ({ cls := cA, slots := Array.replicate (sm_i n).toNatClampNeg .null, vm := .none } : Cell) = H1
  have z1 : H1.size = H.size + 1 := by rw [← hH1, Array.size_push]
  have e1 : H1[H.size]? = some (arrV cA n (fun _ => .null)) := by rw [← hH1, Array.getElem?_push_size, ← arrV_new, hcl]
  have o1 : ∀ q : Nat, q < H.size → H1[q]? = H[q]? := fun q hq => by rw [← hH1, Array.getElem?_push, if_neg (Nat.ne_of_lt hq)]
  have hH : sm_H X.G (sm_al E kd n n) (sm_z mi E.sz) H1 := by
    refine h3.push ?_ z1 o1
    rw [sm_cell_q (E := sm_al E kd n n) (kd := kd) (n := n) (by show (if E.1 = E.1 then _ else _) = _; rw [if_pos rfl]) (by omega)]
    show H1[H.size]? = some (vp_cell _ _)
    rw [e1, vp_cell_q, hcA]
    unfold sm_al
    simp [va_rf, ET.mr, ET.sz]
  have w := kk.2 p l e R s m args below meth c H1 locs (cells + 1) (slots + n) ls Q h1 h2 hH ⟨Nat.le_trans h4.1 (by omega), fun x g1 g2 => (o1 x (Nat.lt_of_lt_of_le g1 h4.1)).trans (h4.2.1 x g1 g2), h4.2.2⟩ h5
    (by show cells + 1 + (r.2.1.1 - (E.1 + 1)) ≤ _; omega) (by show slots + n + (r.2.1.2.1 - (E.2.1 + n)) ≤ _; omega) h8'
  simp only [List.map_cons, sm_v, hadr] at w
  rw [hcl]
  exact w
theorem sm_static {idx k : Nat} {own : String} (ho : X.own = own) (hs : own = "PatrolDesk$Books" ∧ Cond.fieldLink own idx "PatrolDesk$Books" "REPAIR_COSTS" "[I" ∈ sm_tb ∧ k = 1 ∨ own = "PatrolDesk$CallText" ∧ Cond.fieldLink own idx "PatrolDesk$CallText" "MARKS" "[C" ∈ sm_tb ∧ k = 2)
    (hd : decode X.cc pc = .ok (.getstatic idx, 3)) (kk : sM X (pc + 3) lv (.inr k :: st) E mi r) : sM X pc lv st E mi r := by
  subst ho
  refine ⟨kk.1, fun p l e R s m args below meth c H locs cells slots ls Q h1 h2 h3 h4 h5 h6 h7 h8 => ?_⟩
  have w := kk.2 p l e R s m args below meth c H locs cells slots ls Q h1 h2 h3 h4 h5 h6 h7 h8
  rcases hs with ⟨-, hw, rfl⟩ | ⟨-, hw, rfl⟩
  · exact va_gets h1.1 h1.2.1 h2.2.2.2.1 h4 h1.2.2.2.1 (h1.2.2.2.2.1 _ hw) (fun _ h => h) hd w
  · exact va_gets h1.1 h1.2.1 h2.2.2.2.2.1 h4 h1.2.2.2.1 (h1.2.2.2.2.1 _ hw) (fun _ h => h) hd w
theorem sm_objInit {idx a : Nat} (hw : Cond.methodLink X.own idx Lib.objectInit ∈ sm_tb ∧ Cond.instanceMethod Lib.objectInit ∈ sm_tb ∧ Cond.code Lib.objectInit ⟨#[0xb1]⟩ 1 none ∈ sm_tb) (hr : 1 ≤ X.fr ∧ st.length + 12 ≤ X.lo)
    (hd : decode X.cc pc = .ok (.invokespecial idx, 3)) (kk : sM X (pc + 3) lv st E mi r) : sM X pc lv (.inr a :: st) E mi r := by
  refine ⟨kk.1, fun p l e R s m args below meth c H locs cells slots ls Q h1 h2 h3 h4 h5 h6 h7 h8 => ?_⟩
  have hts := h1.2.2.2.2.1
  have r1 := h1.2.2.2.2.2.2.1
  have r2 := h1.2.2.2.2.2.2.2
  refine W.objInit h1.1 h1.2.1 h1.2.2.2.1 (hts _ hw.1) (hts _ hw.2.1) (hts _ hw.2.2) rfl (by rw [h1.2.2.1]; exact h5.1) rfl hd (by omega) (by rw [sm_cats]; show 2 * 0 + _ + 12 ≤ _; omega) ?_
  exact kk.2 p l e R s m args below meth c H locs cells slots ls Q h1 h2 h3 h4 h5 h6 h7 h8
def sm_max (x y : Int) : Int := if sm_w x < sm_w y then y else x
def sm_min (x y : Int) : Int := if sm_w y < sm_w x then y else x
def sm_abs (x : Int) : Int := if 0 ≤ sm_w x then x else 0 - x
theorem sm_mmax {idx : Nat} {x y : Int} (hw : Cond.methodLink X.own idx Lib.Math.max.name ∈ sm_tb ∧ Cond.static Lib.Math.max.name ∈ sm_tb ∧ Cond.initialized "java/lang/Math" ∈ sm_tb ∧ Cond.code Lib.Math.max.name Lib.Math.max.code 2 (some .int) ∈ sm_tb) (hr : 1 ≤ X.fr ∧ st.length + 13 ≤ X.lo)
    (hd : decode X.cc pc = .ok (.invokestatic idx, 3)) (kk : sM X (pc + 3) lv (.inl (sm_max x y) :: st) E mi r) : sM X pc lv (.inl y :: .inl x :: st) E mi r := by
  refine ⟨kk.1, fun p l e R s m args below meth c H locs cells slots ls Q h1 h2 h3 h4 h5 h6 h7 h8 => ?_⟩
  have hts := h1.2.2.2.2.1
  have r1 := h1.2.2.2.2.2.2.1
  have r2 := h1.2.2.2.2.2.2.2
  have w := kk.2 p l e R s m args below meth c H locs cells slots ls Q h1 h2 h3 h4 h5 h6 h7 h8
  refine va_mmax h1.1 h1.2.1 (by rw [h1.2.2.1]; exact h5.1.symm) h1.2.2.2.1 (hts _ hw.1) (hts _ hw.2.1) (hts _ hw.2.2.1) (hts _ hw.2.2.2) (by omega) (by rw [sm_cats]; omega) (by omega) (by omega) hd ?_
  have e9 : (if sm_i x < sm_i y then sm_i y else sm_i x) = sm_i (sm_max x y) := by
    unfold sm_max
    by_cases q : sm_w x < sm_w y
    · rw [if_pos q, if_pos ((sm_i_lt x y).mpr q)]
    · rw [if_neg q, if_neg (fun z => q ((sm_i_lt x y).mp z))]
  rw [e9]
  exact w
theorem sm_mmin {idx : Nat} {x y : Int} (hw : Cond.methodLink X.own idx Lib.Math.min.name ∈ sm_tb ∧ Cond.static Lib.Math.min.name ∈ sm_tb ∧ Cond.initialized "java/lang/Math" ∈ sm_tb ∧ Cond.code Lib.Math.min.name Lib.Math.min.code 2 (some .int) ∈ sm_tb) (hr : 1 ≤ X.fr ∧ st.length + 13 ≤ X.lo)
    (hd : decode X.cc pc = .ok (.invokestatic idx, 3)) (kk : sM X (pc + 3) lv (.inl (sm_min x y) :: st) E mi r) : sM X pc lv (.inl y :: .inl x :: st) E mi r := by
  refine ⟨kk.1, fun p l e R s m args below meth c H locs cells slots ls Q h1 h2 h3 h4 h5 h6 h7 h8 => ?_⟩
  have hts := h1.2.2.2.2.1
  have r1 := h1.2.2.2.2.2.2.1
  have r2 := h1.2.2.2.2.2.2.2
  have w := kk.2 p l e R s m args below meth c H locs cells slots ls Q h1 h2 h3 h4 h5 h6 h7 h8
  refine va_mmin h1.1 h1.2.1 (by rw [h1.2.2.1]; exact h5.1.symm) h1.2.2.2.1 (hts _ hw.1) (hts _ hw.2.1) (hts _ hw.2.2.1) (hts _ hw.2.2.2) (by omega) (by rw [sm_cats]; omega) (by omega) (by omega) hd ?_
  have e9 : (if sm_i y < sm_i x then sm_i y else sm_i x) = sm_i (sm_min x y) := by
    unfold sm_min
    by_cases q : sm_w y < sm_w x
    · rw [if_pos q, if_pos ((sm_i_lt y x).mpr q)]
    · rw [if_neg q, if_neg (fun z => q ((sm_i_lt y x).mp z))]
  rw [e9]
  exact w
theorem sm_mabs {idx : Nat} {x : Int} (hw : Cond.methodLink X.own idx Lib.Math.abs.name ∈ sm_tb ∧ Cond.static Lib.Math.abs.name ∈ sm_tb ∧ Cond.initialized "java/lang/Math" ∈ sm_tb ∧ Cond.code Lib.Math.abs.name Lib.Math.abs.code 1 (some .int) ∈ sm_tb) (hr : 1 ≤ X.fr ∧ st.length + 13 ≤ X.lo)
    (hd : decode X.cc pc = .ok (.invokestatic idx, 3)) (kk : sM X (pc + 3) lv (.inl (sm_abs x) :: st) E mi r) : sM X pc lv (.inl x :: st) E mi r := by
  refine ⟨kk.1, fun p l e R s m args below meth c H locs cells slots ls Q h1 h2 h3 h4 h5 h6 h7 h8 => ?_⟩
  have hts := h1.2.2.2.2.1
  have r1 := h1.2.2.2.2.2.2.1
  have r2 := h1.2.2.2.2.2.2.2
  have w := kk.2 p l e R s m args below meth c H locs cells slots ls Q h1 h2 h3 h4 h5 h6 h7 h8
  refine va_mabs h1.1 h1.2.1 (by rw [h1.2.2.1]; exact h5.1.symm) h1.2.2.2.1 (hts _ hw.1) (hts _ hw.2.1) (hts _ hw.2.2.1) (hts _ hw.2.2.2) (by omega) (by rw [sm_cats]; omega) (by omega) (by omega) hd ?_
  have e9 : (if 0 ≤ sm_i x then sm_i x else 0 - sm_i x) = sm_i (sm_abs x) := by
    unfold sm_abs
    by_cases q : 0 ≤ sm_w x
    · rw [if_pos q, if_pos (by rw [← sm_i_0, sm_i_le, sm_w_0]; exact q)]
    · rw [if_neg q, if_neg (fun z => q (by rw [← sm_i_0, sm_i_le, sm_w_0] at z; exact z))]
      rw [← sm_i_0, sm_i_sub]
  rw [e9]
  exact w
def sm_cp (mi : MI) (a b sp dp n : Nat) : MI := fun c k => if c = b ∧ dp ≤ k ∧ k < dp + n then mi a (sp + (k - dp)) else mi c k
theorem sm_cp_ne {mi : MI} {a b sp dp n c : Nat} (h : ¬ c = b) : sm_cp mi a b sp dp n c = mi c := by
  funext k
  simp [sm_cp, h]
theorem sm_copy {idx a b na nb : Nat} {sp dp n : Int} (hw : Cond.methodLink X.own idx arraycopyName ∈ sm_tb ∧ Cond.native arraycopyName ∈ sm_tb ∧ Cond.static arraycopyName ∈ sm_tb ∧ Cond.initialized "java/lang/System" ∈ sm_tb) (hr : 1 ≤ X.fr ∧ st.length + (nativeFrameWords "java/lang/System" "arraycopy" 5 + 11) ≤ X.lo)
    (ha : E.sh a = (20, na)) (h3a : 3 ≤ a) (hal : a < E.sz) (hb : E.sh b = (20, nb)) (hbl : b < E.sz) (h3b : 3 ≤ b) (g1 : 0 ≤ sm_w sp) (g2 : 0 ≤ sm_w dp) (g3 : 0 ≤ sm_w n) (g4 : sm_w sp + sm_w n ≤ na) (g5 : sm_w dp + sm_w n ≤ nb)
    (hd : decode X.cc pc = .ok (.invokestatic idx, 3)) (kk : sM X (pc + 3) lv st E (sm_cp mi a b (sm_w sp).toNat (sm_w dp).toNat (sm_w n).toNat) r) : sM X pc lv (.inl n :: .inl dp :: .inr b :: .inl sp :: .inr a :: st) E mi r := by
  refine ⟨kk.1, fun p l e R s m args below meth c H locs cells slots ls Q h1 h2 h3 h4 h5 h6 h7 h8 => ?_⟩
  have hts := h1.2.2.2.2.1
  have r1 := h1.2.2.2.2.2.2.1
  have r2 := h1.2.2.2.2.2.2.2
  intro T hT X1
  have hc0 := h3.at h3a hal
  rw [sm_cell_i ha (Or.inl rfl)] at hc0
  have hc0 : H[sm_adr X.G a]? = some (vp_cell (X.G.cA 20) (na, .inl (fun j => sm_i (mi a j)))) := hc0
  have hc1 := h3.at h3b hbl
  rw [sm_cell_i hb (Or.inl rfl)] at hc1
  have hc1 : H[sm_adr X.G b]? = some (vp_cell (X.G.cA 20) (nb, .inl (fun j => sm_i (mi b j)))) := hc1
  obtain ⟨-, k0, hk0, cm0, hkk0⟩ := (h2.1.2 0 _ rfl).1 na (fun j => .int (sm_i (mi a j)))
  obtain ⟨-, k1, hk1, cm1, hkk1⟩ := (h2.1.2 0 _ rfl).1 nb (fun j => .int (sm_i (mi b j)))
  have ng : ∀ z : Int, 0 ≤ sm_w z → ¬ sm_i z < 0 := by
    intro z hz q
    rw [← sm_i_0, sm_i_lt, sm_w_0] at q
    omega
  obtain ⟨vm', X', step⟩ := X1.arraycopy h1.1 h1.2.2.2.1 (hts _ hw.1) (hts _ hw.2.1) (hts _ hw.2.2.1) (hts _ hw.2.2.2) (src := sm_adr X.G a) (dst := sm_adr X.G b) (cs := vp_cell (X.G.cA 20) (na, .inl (fun j => sm_i (mi a j)))) (cd := vp_cell (X.G.cA 20) (nb, .inl (fun j => sm_i (mi b j)))) (srcPos := sm_i sp) (destPos := sm_i dp) (n := sm_i n) (by rw [hT]; exact hc0) (by rw [hT]; exact hc1)
    (fun _ h => by cases h) (fun _ h => by cases h) (fun h => by cases h) (fun h => by cases h) hk0 hk1 hkk0 hkk1 (by rfl) (ng _ g1) (ng _ g2) (ng _ g3)
    (by rw [sm_i_toInt, sm_i_toInt]; show ¬ _ > ((arrV _ _ _).slots.size : Int); rw [arrV_size]; omega)
    (by rw [sm_i_toInt, sm_i_toInt]; show ¬ _ > ((arrV _ _ _).slots.size : Int); rw [arrV_size]; omega)
    (fun vm₁ _ i hi => by
      have e : (vp_cell (X.G.cA 20) (na, .inl (fun j => sm_i (mi a j)))).slots.getD ((sm_i sp).toNatClampNeg + i) .null = .int (sm_i (mi a ((sm_i sp).toNatClampNeg + i))) := by
        show (arrV _ _ _).slots.getD _ _ = _
        rw [sm_clamp] at hi
        rw [Array.getD_eq_getD_getElem?, arrV_read _ _ (by rw [sm_clamp]; omega)]
        rfl
      refine ⟨?_, ?_⟩
      · rw [e]
        rfl
      · rw [e]
        exact trivial)
    (g := F0 m pc ls ((.inl n :: .inl dp :: .inr b :: .inl sp :: .inr a :: st : List AV).map (sm_v X.G))) rfl (by rw [h1.2.2.1]; exact h5.1) (rest := st.map (sm_v X.G)) rfl (by rw [h1.2.1]; exact hd) (by omega) (by rw [sm_cats]; show 2 * 0 + _ + _ ≤ _; omega)
  have e1 : copied (vp_cell (X.G.cA 20) (na, .inl (fun j => sm_i (mi a j)))) (vp_cell (X.G.cA 20) (nb, .inl (fun j => sm_i (mi b j)))) (sm_i sp) (sm_i dp) (sm_i n) = vp_cell (X.G.cA 20) (nb, .inl (va_cpy (fun j => sm_i (mi a j)) (fun j => sm_i (mi b j)) (sm_i sp).toNatClampNeg (sm_i dp).toNatClampNeg (sm_i n).toNatClampNeg)) := va_copied (fun z => .int z) (X.G.cA 20) (X.G.cA 20) (fun j => sm_i (mi a j)) (fun j => sm_i (mi b j)) (by rw [sm_clamp, sm_clamp]; omega)
  rw [e1] at X' step
  have hl : sm_adr X.G b < H.size := (Array.getElem?_eq_some_iff.mp hc1).1
  generalize hY : vp_cell (X.G.cA 20) (nb, .inl (va_cpy (fun j => sm_i (mi a j)) (fun j => sm_i (mi b j)) (sm_i sp).toNatClampNeg (sm_i dp).toNatClampNeg (sm_i n).toNatClampNeg)) = Y at X' step
  have hheap : ((T.setVm vm').setCell (sm_adr X.G b) Y).heap = H.setIfInBounds (sm_adr X.G b) Y := by rw [← hT]; rfl
  have oq : ∀ q : Nat, q ≠ sm_adr X.G b → (H.setIfInBounds (sm_adr X.G b) Y)[q]? = H[q]? := fun q hq => by simp [Array.getElem?_setIfInBounds, Ne.symm hq]
  have hH : sm_H X.G E (sm_cp mi a b (sm_w sp).toNat (sm_w dp).toNat (sm_w n).toNat) (H.setIfInBounds (sm_adr X.G b) Y) := by
    refine h3.put rfl h2.2.2.2.2.2.2 h3b ?_ (by simp) oq (fun k hk' => ⟨rfl, rfl, sm_cp_ne hk'⟩)
    rw [sm_cell_i hb (Or.inl rfl)]
    show (H.setIfInBounds (sm_adr X.G b) Y)[sm_adr X.G b]? = some (vp_cell _ _)
    rw [show (H.setIfInBounds (sm_adr X.G b) Y)[sm_adr X.G b]? = some Y by simp [Array.getElem?_setIfInBounds, hl], ← hY, vp_cell_i, vp_cell_i]
    congr 2
    funext q
    unfold va_cpy sm_cp
    rw [sm_clamp, sm_clamp, sm_clamp]
    by_cases hq : (sm_w dp).toNat ≤ q ∧ q < (sm_w dp).toNat + (sm_w n).toNat
    · rw [if_pos hq, if_pos ⟨rfl, hq.1, hq.2⟩]
    · rw [if_neg hq, if_neg (fun z => hq z.2)]
  obtain ⟨t, a1, b1⟩ := kk.2 p l e R s m args below meth c _ _ cells slots ls Q h1 h2 hH ⟨by simp; exact h4.1, fun q q1 q2 => by
      rw [oq q (fun e => q2 (by rw [e]; exact sm_adr_fr h3b))]
      exact h4.2.1 q q1 q2, fun q hq => by
      rcases List.mem_append.mp hq with h | h
      · exact h4.2.2 q h
      · obtain ⟨z, -, hz⟩ := List.mem_map.mp h
        rw [← hz]
        exact sm_adr_fr h3b⟩ h5 h6 h7 h8 _ hheap X'
  exact ⟨t, step t a1, b1⟩
end SMN
