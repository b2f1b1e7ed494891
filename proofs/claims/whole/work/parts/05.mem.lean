/-! ===== rows of the walk: the memory ===== -/
def sm_up (mi : MI) (a j : Nat) (z : Int) : MI := fun b k => if b = a ∧ k = j then z else mi b k
def sm_upr (mr : MR) (a j : Nat) (z : Option Nat) : MR := fun b k => if b = a ∧ k = j then z else mr b k
theorem sm_up_ne {mi : MI} {a j b : Nat} {z : Int} (h : ¬ b = a) : sm_up mi a j z b = mi b := by
  funext k
  simp [sm_up, h]
theorem sm_upr_ne {mr : MR} {a j b : Nat} {z : Option Nat} (h : ¬ b = a) : sm_upr mr a j z b = mr b := by
  funext k
  simp [sm_upr, h]
theorem sm_cell_congr {G : GT} {E E' : ET} {mi mi' : MI} {k : Nat} (h1 : E'.sh k = E.sh k) (h2 : E'.mr k = E.mr k) (h3 : mi' k = mi k) : sm_cell G E' mi' k = sm_cell G E mi k := by
  unfold sm_cell sm_f
  simp only [h1, h2, h3]
theorem sm_adr_ne {G : GT} (ho : ∀ k, k < 3 → G.old k < G.base) {a k : Nat} (ha : 3 ≤ a) (h : ¬ k = a) : sm_adr G k ≠ sm_adr G a := by
  unfold sm_adr
  rw [if_neg (by omega : ¬ a < 3)]
  split
  · rename_i h3
    have := ho k h3
    omega
  · omega
theorem sm_adr_fr {G : GT} {a : Nat} (ha : 3 ≤ a) : sm_fr G (sm_adr G a) := by
  unfold sm_adr sm_fr
  rw [if_neg (by omega : ¬ a < 3)]
  exact Nat.le_add_right _ _
theorem sm_H.put {G : GT} {E E' : ET} {mi mi' : MI} {H H' : Heap} {a : Nat} (h : sm_H G E mi H) (hsz : E'.sz = E.sz) (ho : ∀ k, k < 3 → G.old k < G.base) (h3 : 3 ≤ a) (ha : va_at G.D vwCl (sm_adr G a, sm_cell G E' mi' a) H') (hs : H'.size = H.size)
    (oq : ∀ q, q ≠ sm_adr G a → H'[q]? = H[q]?) (hc : ∀ k, ¬ k = a → E'.sh k = E.sh k ∧ E'.mr k = E.mr k ∧ mi' k = mi k) : sm_H G E' mi' H' := by
  refine ⟨by rw [hs, hsz]; exact h.1, by rw [hsz]; exact h.2.1, fun k hk3 hk => ?_, fun k hk => ?_⟩
  · by_cases e : k = a
    · subst e
      exact ha
    · obtain ⟨c1, c2, c3⟩ := hc k e
      rw [sm_cell_congr c1 c2 c3]
      exact (h.at hk3 (by rw [← hsz]; exact hk)).kept (oq _ (sm_adr_ne ho h3 e))
  · obtain ⟨c1, c2, c3⟩ := hc k (by omega)
    have hq : H'[G.old k]? = H[G.old k]? := by
      have := oq _ (sm_adr_ne (k := k) ho h3 (by omega))
      unfold sm_adr at this
      rw [if_pos hk] at this
      exact this
    obtain ⟨g0, scr, g1, g2, g3, g4, g5, g6⟩ := h.2.2.2 k hk
    exact ⟨by rw [c1]; exact g0, scr, by rw [hq]; exact g1, g2, g3, g4, by rw [c1]; exact g5, fun j hj => by rw [c3]; exact g6 j (by rw [← c1]; exact hj)⟩
theorem sm_V {N : Nat} {f : Nat → Value} {k : Nat} (h : k < N) : vp_V ((List.range N).map f) k = f k := by
  unfold vp_V
  rw [List.getD_eq_getElem?_getD, List.getElem?_map, List.getElem?_range h]
  rfl
theorem sm_cell_o {G : GT} {E : ET} {mi : MI} {a kd : Nat} (hk : (E.sh a).1 = kd) (h8 : kd < 8) : sm_cell G E mi a = .inr (kd, (List.range (sm_cN kd)).map (sm_f G E.mr mi kd a)) := by
  unfold sm_cell
  rw [hk, if_pos h8]
theorem sm_cell_i {G : GT} {E : ET} {mi : MI} {a kd n : Nat} (hk : E.sh a = (kd, n)) (h8 : kd = 20 ∨ kd = 21) : sm_cell G E mi a = .inl (G.cA kd, n, .inl (fun j => sm_i (mi a j))) := by
  unfold sm_cell
  rw [hk, if_neg (by dsimp only; omega), if_pos (by dsimp only; omega)]
theorem sm_cell_q {G : GT} {E : ET} {mi : MI} {a kd n : Nat} (hk : E.sh a = (kd, n)) (h8 : 22 ≤ kd) : sm_cell G E mi a = .inl (G.cA kd, n, .inr (.inr (.inr (.inr (fun j => (E.mr a j).map (sm_adr G)))))) := by
  unfold sm_cell
  rw [hk, if_neg (by dsimp only; omega), if_neg (by dsimp only; omega)]
def sm_lkF (own : String) (idx kd j : Nat) : Prop := Cond.fieldLink own idx (sm_cC kd) (sm_cT kd j).2.1 (sm_cT kd j).2.2.1 ∈ sm_tb ∨ ∃ host, Cond.fieldLinkNest own idx (sm_cC kd) (sm_cT kd j).2.1 (sm_cT kd j).2.2.1 host ∈ lw_tbl
section SMM
variable {X : XT} {pc : Nat} {lv : List (Option AV)} {st : List AV} {E : ET} {mi : MI} {r : RT}
theorem sm_getV {a idx kd j : Nat} (lk : sm_lkF X.own idx kd j) (h8 : kd < 8) (hj : j < sm_cN kd) (hk : (E.sh a).1 = kd) (ha : a < E.sz) (v : AV) (hv : sm_f X.G E.mr mi kd a j = sm_v X.G v) (hd : decode X.cc pc = .ok (.getfield idx, 3))
    (kk : sM X (pc + 3) lv (v :: st) E mi r) : sM X pc lv (.inr a :: st) E mi r := by
  refine ⟨kk.1, fun p l e R s m args below meth c H locs cells slots ls Q h1 h2 h3 h4 h5 h6 h7 h8' => ?_⟩
  have w := kk.2 p l e R s m args below meth c H locs cells slots ls Q h1 h2 h3 h4 h5 h6 h7 h8'
  have hat := h3.at (h3.three (Or.inl (by omega))) ha
  rw [sm_cell_o hk h8] at hat
  have hP : va_P X.G.D vwCl [(sm_adr X.G a, .inr (kd, (List.range (sm_cN kd)).map (sm_f X.G E.mr mi kd a)))] H := by
    intro k q hq
    match k, hq with
    | 0, hq => cases hq; exact hat
    | k + 1, hq => simp at hq
  have hfs : ((List.range (sm_cN kd)).map (sm_f X.G E.mr mi kd a))[j]? = some (sm_v X.G v) := by
    rw [List.getElem?_map, List.getElem?_range hj, ← hv]
    rfl
  have hsame : ∀ x, s.fieldFound? (sm_cT kd j).1 (sm_cT kd j).2.1 (sm_cT kd j).2.2.1 = some x → s.fieldFound? (sm_cC kd) (sm_cT kd j).2.1 (sm_cT kd j).2.2.1 = some x := by
    intro x hx
    rw [sm_dcl kd h8 j] at hx
    exact hx
  rcases lk with lk | ⟨host, lk⟩
  · exact va_get (D := X.G.D) (ci := kd) h1.1 h1.2.1 h1.2.2.2.2.1 (sm_inU kd h8) h1.2.2.2.1 h2.1 hP 0 rfl (sm_cl kd h8) j hj (h1.2.2.2.2.1 _ lk) hsame hfs hd w
  · exact va_getN (D := X.G.D) (ci := kd) h1.1 h1.2.1 h1.2.2.2.2.1 (sm_inU kd h8) h1.2.2.2.1 h2.1 hP 0 rfl (sm_cl kd h8) j hj (va_Nw.use rfl (h2.2.1 _ lk rfl)) hsame hfs hd w
theorem sm_getI {a idx kd j : Nat} (lk : sm_lkF X.own idx kd j) (h8 : kd < 8 ∧ j < sm_cN kd ∧ (sm_ty kd j).isReference = false) (hk : (E.sh a).1 = kd) (ha : a < E.sz) (hd : decode X.cc pc = .ok (.getfield idx, 3))
    (kk : sM X (pc + 3) lv (.inl (mi a j) :: st) E mi r) : sM X pc lv (.inr a :: st) E mi r :=
  sm_getV lk h8.1 h8.2.1 hk ha (.inl (mi a j)) (by unfold sm_f; rw [h8.2.2]; rfl) hd kk
theorem sm_getR {a idx kd j b : Nat} (lk : sm_lkF X.own idx kd j) (h8 : kd < 8 ∧ j < sm_cN kd ∧ (sm_ty kd j).isReference = true) (hk : (E.sh a).1 = kd) (ha : a < E.sz) (hb : E.mr a j = some b) (hd : decode X.cc pc = .ok (.getfield idx, 3))
    (kk : sM X (pc + 3) lv (.inr b :: st) E mi r) : sM X pc lv (.inr a :: st) E mi r :=
  sm_getV lk h8.1 h8.2.1 hk ha (.inr b) (by unfold sm_f; rw [h8.2.2, hb]; rfl) hd kk
theorem sm_putI {a idx kd j : Nat} {z : Int} (lk : sm_lkF X.own idx kd j) (h8 : kd < 8 ∧ j < sm_cN kd ∧ (sm_cT kd j).2.2.2 = false) (hty : sm_ty kd j = .int ∨ sm_ty kd j = .boolean ∧ (z = 0 ∨ z = 1)) (hk : (E.sh a).1 = kd) (h3a : 3 ≤ a) (ha : a < E.sz) (hd : decode X.cc pc = .ok (.putfield idx, 3))
    (kk : sM X (pc + 3) lv st E (sm_up mi a j z) r) : sM X pc lv (.inl z :: .inr a :: st) E mi r := by
  refine ⟨kk.1, fun p l e R s m args below meth c H locs cells slots ls Q h1 h2 h3 h4 h5 h6 h7 h8' => ?_⟩
  have hat := h3.at h3a ha
  rw [sm_cell_o hk h8.1] at hat
  obtain ⟨r', g1, cell, q1, q2, q3, q4⟩ := hat
  have hc := sm_cl kd h8.1
  have hr : r' = (sm_cC kd, sm_cT kd, sm_cN kd) := Option.some.inj (g1.symm.trans hc)
  subst hr
  have hin := sm_inU kd h8.1
  have hts := h1.2.2.2.2.1
  have hap := va_apart (own := X.own) hts hin (sm_ty kd) (sm_tyok kd h8.1) (sm_nmok kd h8.1) h2.1 hc
  obtain ⟨hS, hfc, kC, hkC, hkind⟩ := h2.1.1 kd _ hc
  obtain ⟨cf, kf, fi, f, hi, hsl⟩ := hS j h8.2.1
  have hlay := hts _ (hin _ (u_in_lay h8.2.1))
  unfold u_lay at hlay
  rw [if_neg (by rw [h8.2.2]; decide)] at hlay
  have hst := (u_facts hfc hkC (u_lays hts hin h8.2.1) hi).1
  have hn : narrow (sm_ty kd j) (.int (sm_i z)) = .int (sm_i z) ∧ fits (sm_ty kd j) (.int (sm_i z)) = true ∧ (sm_ty kd j).isReference = false := by
    rcases hty with e | ⟨e, rfl | rfl⟩ <;> rw [e] <;> exact ⟨rfl, rfl, rfl⟩
  have h6' := u_store hfc hkC hkind hlay hi (sm_tyok kd h8.1 j h8.2.1) hn.1 hn.2.1
  have fin : ∀ H' : Heap, H'[sm_adr X.G a]? = some (cell.setSlot f.slot (.int (sm_i z))) → H'.size = H.size → (∀ q, q ≠ sm_adr X.G a → H'[q]? = H[q]?) → W p l e R s m args below meth c H' (locs ++ [⟨sm_adr X.G a, f.slot⟩]) cells slots Q (F0 m (pc + 3) ls (st.map (sm_v X.G))) := by
    intro H' e1 e2 e3
    rw [hsl] at e1
    refine kk.2 p l e R s m args below meth c H' _ cells slots ls Q h1 h2 (h3.put rfl h2.2.2.2.2.2.2 h3a ?_ e2 e3 (fun k hk' => ⟨rfl, rfl, sm_up_ne hk'⟩)) (h4.put e2 e3 (sm_adr_fr h3a)) h5 h6 h7 h8'
    rw [sm_cell_o hk h8.1]
    refine ⟨_, hc, t_OB.to (V := updV (vp_V ((List.range (sm_cN kd)).map (sm_f X.G E.mr mi kd a))) j (.int (sm_i z))) ⟨_, e1, q2, q3, t_set q4 hap h8.2.1 _⟩ (fun k hk' => ?_)⟩
    rw [sm_V hk']
    unfold updV
    split
    · rename_i e
      subst e
      unfold sm_f sm_up
      rw [hn.2.2]
      simp
    · rename_i e
      rw [sm_V hk']
      unfold sm_f sm_up
      simp [e]
  have hl2 : (sm_cT kd j).1 = sm_cC kd := sm_dcl kd h8.1 j
  rw [hl2] at hi
  rcases lk with lk | ⟨host, lk⟩
  · exact W.putK h1.1 h1.2.1 (f := f) ⟨h1.2.2.2.1, hts _ lk, ⟨_, _, _, hi⟩, hst⟩ (by rw [q2]; exact h6') q1 q3 (by rw [hsl]; exact k2_hasslot (q4 j h8.2.1)) rfl rfl hd fin
  · exact va_WputK h1.1 h1.2.1 (f := f) h1.2.2.2.1 (va_Nw.use rfl (h2.2.1 _ lk rfl)) hi hst (by rw [q2]; exact h6') q1 q3 (by rw [hsl]; exact k2_hasslot (q4 j h8.2.1)) rfl rfl hd fin
/-- a final field of references, in a constructor -/
theorem sm_putR {a b idx kd j : Nat} (lk : Cond.fieldLink X.own idx (sm_cC kd) (sm_cT kd j).2.1 (sm_cT kd j).2.2.1 ∈ sm_tb) (h8 : kd < 8 ∧ j < sm_cN kd ∧ (sm_cT kd j).2.2.2 = true ∧ (sm_ty kd j).isReference = true) (hini : X.ini = true) (hown : sm_cC kd = X.own) (hk : (E.sh a).1 = kd) (h3a : 3 ≤ a) (ha : a < E.sz) (hd : decode X.cc pc = .ok (.putfield idx, 3))
    (kk : sM X (pc + 3) lv st (E.1, E.2.1, E.2.2.1, sm_upr E.mr a j (some b)) mi r) : sM X pc lv (.inr b :: .inr a :: st) E mi r := by
  refine ⟨kk.1, fun p l e R s m args below meth c H locs cells slots ls Q h1 h2 h3 h4 h5 h6 h7 h8' => ?_⟩
  have hat := h3.at h3a ha
  rw [sm_cell_o hk h8.1] at hat
  obtain ⟨r', g1, cell, q1, q2, q3, q4⟩ := hat
  have hc := sm_cl kd h8.1
  have hr : r' = (sm_cC kd, sm_cT kd, sm_cN kd) := Option.some.inj (g1.symm.trans hc)
  subst hr
  have hin := sm_inU kd h8.1
  have hts := h1.2.2.2.2.1
  have hap := va_apart (own := X.own) hts hin (sm_ty kd) (sm_tyok kd h8.1) (sm_nmok kd h8.1) h2.1 hc
  obtain ⟨hS, hfc, kC, hkC, hkind⟩ := h2.1.1 kd _ hc
  obtain ⟨cf, kf, fi, f, hi, hsl⟩ := hS j h8.2.1
  have hlay := hts _ (hin _ (u_in_lay h8.2.1))
  unfold u_lay at hlay
  rw [if_pos h8.2.2.1] at hlay
  have hst := (u_facts hfc hkC (u_lays hts hin h8.2.1) hi).1
  have hl2 : (sm_cT kd j).1 = sm_cC kd := sm_dcl kd h8.1 j
  have hcf : m.cls = cf := by
    obtain ⟨_, _, c', _, _, _, -, -, hf', -, -, -, hown2, -⟩ := Cond.laysFinal_spec hlay
    have e1 : c' = cf := by have := hi.symm.trans hf'; simp at this; exact this.1.symm
    rw [hl2, hown] at hown2
    rw [← e1]; exact Option.some.inj (h1.2.2.2.1.symm.trans hown2)
  have hn : narrow (sm_ty kd j) (.ref (sm_adr X.G b)) = .ref (sm_adr X.G b) ∧ fits (sm_ty kd j) (.ref (sm_adr X.G b)) = true := by
    have := h8.2.2.2
    revert this
    cases sm_ty kd j <;> intro h <;> first | exact ⟨rfl, rfl⟩ | cases h
  have h6' := u_fits hfc hkC hkind (Or.inr hlay) hi (sm_tyok kd h8.1 j h8.2.1) hn.1 hn.2
  rw [hl2] at hi
  refine W.putFinK h1.1 h1.2.1 h1.2.2.2.1 (hts _ lk) hi hst hcf (h1.2.2.2.2.2.1 hini) (by rw [q2]; exact h6') q1 q3 (by rw [hsl]; exact k2_hasslot (q4 j h8.2.1)) rfl rfl hd fun H' e1 e2 e3 => ?_
  rw [hsl] at e1
  refine kk.2 p l e R s m args below meth c H' _ cells slots ls Q h1 h2 (h3.put (E' := (E.1, E.2.1, E.2.2.1, sm_upr E.mr a j (some b))) rfl h2.2.2.2.2.2.2 h3a ?_ e2 e3 (fun k hk' => ⟨rfl, sm_upr_ne hk', rfl⟩)) (h4.put e2 e3 (sm_adr_fr h3a)) h5 h6 h7 h8'
  rw [sm_cell_o (E := (E.1, E.2.1, E.2.2.1, sm_upr E.mr a j (some b))) hk h8.1]
  refine ⟨_, hc, t_OB.to (V := updV (vp_V ((List.range (sm_cN kd)).map (sm_f X.G E.mr mi kd a))) j (.ref (sm_adr X.G b))) ⟨_, e1, q2, q3, t_set q4 hap h8.2.1 _⟩ (fun k hk' => ?_)⟩
  rw [sm_V hk']
  unfold updV
  split
  · rename_i e
    subst e
    unfold sm_f sm_upr
    rw [h8.2.2.2]
    simp [va_rf, ET.mr, sm_v]
  · rename_i e
    rw [sm_V hk']
    unfold sm_f sm_upr
    simp [e, ET.mr]
theorem sm_tysAt {G : GT} {s : State} (h : sm_S G s) {kd : Nat} (h1 : 20 ≤ kd) (h2 : kd < 26) : ∃ t0 : Nat, (sm_tys G)[t0]? = some (G.cA kd, sm_aT kd) := by
  obtain rfl | rfl | rfl | rfl | rfl | rfl : kd = 20 ∨ kd = 21 ∨ kd = 22 ∨ kd = 23 ∨ kd = 24 ∨ kd = 25 := by omega
  · exact ⟨0, rfl⟩
  · exact ⟨1, rfl⟩
  · exact ⟨2, rfl⟩
  · exact ⟨3, rfl⟩
  · exact ⟨4, rfl⟩
  · exact ⟨5, rfl⟩
theorem sm_P1 {G : GT} {E : ET} {mi : MI} {H : Heap} {a : Nat} {c : va_E} (h : sm_H G E mi H) (h3 : 3 ≤ a) (ha : a < E.sz) (hc : sm_cell G E mi a = c) : va_P G.D vwCl [(sm_adr G a, c)] H := by
  subst hc
  intro k q hq
  match k, hq with
  | 0, hq => cases hq; exact h.at h3 ha
  | k + 1, hq => simp at hq
/-- an array of ints, of characters, that was there before -/
theorem sm_oldA {G : GT} {E : ET} {mi : MI} {H : Heap} {s : State} {a n : Nat} (h2 : sm_S G s) (h3 : sm_H G E mi H) (ha : a < 3) (hk : E.sh a = (20, n)) : ∃ scr : Cell, H[sm_adr G a]? = some scr ∧ (s.isArrayOf scr .int ∧ True) ∧ scr.vm ≠ .unknown ∧ True ∧ scr.slots.size = n ∧ ∀ j, j < n → scr.slots[j]? = some (.int (sm_i (mi a j))) := by
  obtain ⟨g0, scr, g1, g2, g3, g4, g5, g6⟩ := h3.2.2.2 a ha
  obtain ⟨kA, comp, k1, k2⟩ := h2.2.2.1.2.2.2.2 a ha
  have e : ¬ a = 2 := fun e => by
    rw [if_pos e, hk] at g0
    have g0' : (20 : Nat) = 21 := g0
    omega
  rw [if_neg e] at k2
  rw [hk] at g5 g6
  refine ⟨scr, ?_, ⟨⟨g3, kA, by rw [g2]; exact k1, comp, k2⟩, trivial⟩, g4, trivial, g5, g6⟩
  unfold sm_adr
  rw [if_pos ha]
  exact g1
theorem sm_oldC {G : GT} {E : ET} {mi : MI} {H : Heap} {s : State} {a n : Nat} (h2 : sm_S G s) (h3 : sm_H G E mi H) (ha : a < 3) (hk : E.sh a = (21, n)) : ∃ scr : Cell, H[sm_adr G a]? = some scr ∧ (s.isArrayOf scr .char ∧ True) ∧ scr.vm ≠ .unknown ∧ True ∧ scr.slots.size = n ∧ ∀ j, j < n → scr.slots[j]? = some (.int (sm_i (mi a j))) := by
  obtain ⟨g0, scr, g1, g2, g3, g4, g5, g6⟩ := h3.2.2.2 a ha
  obtain ⟨kA, comp, k1, k2⟩ := h2.2.2.1.2.2.2.2 a ha
  have e : a = 2 := Classical.byContradiction fun e => by
    rw [if_neg e, hk] at g0
    have g0' : (21 : Nat) = 20 := g0
    omega
  rw [if_pos e] at k2
  rw [hk] at g5 g6
  refine ⟨scr, ?_, ⟨⟨g3, kA, by rw [g2]; exact k1, comp, k2⟩, trivial⟩, g4, trivial, g5, g6⟩
  unfold sm_adr
  rw [if_pos ha]
  exact g1
theorem sm_iaload {a n : Nat} {i : Int} (hk : E.sh a = (20, n)) (ha : a < E.sz) (h0 : 0 ≤ sm_w i) (hn : sm_w i < n) (hd : decode X.cc pc = .ok (.iaload, 1))
    (kk : sM X (pc + 1) lv (.inl (mi a (sm_w i).toNat) :: st) E mi r) : sM X pc lv (.inl i :: .inr a :: st) E mi r := by
  refine ⟨kk.1, fun p l e R s m args below meth c H locs cells slots ls Q h1 h2 h3 h4 h5 h6 h7 h8 => ?_⟩
  obtain ⟨t0, ht0⟩ := sm_tysAt h2 (kd := 20) (by omega) (by omega)
  by_cases h3a : 3 ≤ a
  · exact va_iald h1.1 h1.2.1 h2.1 (sm_P1 h3 h3a ha (sm_cell_i hk (Or.inl rfl))) 0 t0 rfl ht0 (sm_in h0 hn) hd (kk.2 p l e R s m args below meth c H locs cells slots ls Q h1 h2 h3 h4 h5 h6 h7 h8)
  · obtain ⟨scr, g1, g2, g3, g4, g5, g6⟩ := sm_oldA h2 h3 (by omega) hk
    have w := kk.2 p l e R s m args below meth c H locs cells slots ls Q h1 h2 h3 h4 h5 h6 h7 h8
    exact W.iald (v := .int (sm_i (mi a (sm_w i).toNat))) h1.1 h1.2.1 g1 g2.1 g3 (by rw [g5]; exact sm_in h0 hn) (by rw [sm_clamp]; exact g6 _ (by omega)) rfl rfl hd w
theorem sm_caload {a n : Nat} {i : Int} (hk : E.sh a = (21, n)) (ha : a < E.sz) (h0 : 0 ≤ sm_w i) (hn : sm_w i < n) (hd : decode X.cc pc = .ok (.caload, 1))
    (kk : sM X (pc + 1) lv (.inl (mi a (sm_w i).toNat) :: st) E mi r) : sM X pc lv (.inl i :: .inr a :: st) E mi r := by
  refine ⟨kk.1, fun p l e R s m args below meth c H locs cells slots ls Q h1 h2 h3 h4 h5 h6 h7 h8 => ?_⟩
  obtain ⟨t0, ht0⟩ := sm_tysAt h2 (kd := 21) (by omega) (by omega)
  by_cases h3a : 3 ≤ a
  · exact va_cald h1.1 h1.2.1 h2.1 (sm_P1 h3 h3a ha (sm_cell_i hk (Or.inr rfl))) 0 t0 rfl ht0 (sm_in h0 hn) hd (kk.2 p l e R s m args below meth c H locs cells slots ls Q h1 h2 h3 h4 h5 h6 h7 h8)
  · obtain ⟨scr, g1, g2, g3, g4, g5, g6⟩ := sm_oldC h2 h3 (by omega) hk
    have w := kk.2 p l e R s m args below meth c H locs cells slots ls Q h1 h2 h3 h4 h5 h6 h7 h8
    exact W.cald (v := .int (sm_i (mi a (sm_w i).toNat))) h1.1 h1.2.1 g1 g2.1 g3 (by rw [g5]; exact sm_in h0 hn) (by rw [sm_clamp]; exact g6 _ (by omega)) rfl rfl hd w
theorem sm_aaload {a n kd b : Nat} {i : Int} (h22 : kd = 22 ∨ kd = 23 ∨ kd = 24 ∨ kd = 25) (hk : E.sh a = (kd, n)) (ha : a < E.sz) (h0 : 0 ≤ sm_w i) (hn : sm_w i < n) (hb : E.mr a (sm_w i).toNat = some b) (hd : decode X.cc pc = .ok (.aaload, 1))
    (kk : sM X (pc + 1) lv (.inr b :: st) E mi r) : sM X pc lv (.inl i :: .inr a :: st) E mi r := by
  refine ⟨kk.1, fun p l e R s m args below meth c H locs cells slots ls Q h1 h2 h3 h4 h5 h6 h7 h8 => ?_⟩
  have w := kk.2 p l e R s m args below meth c H locs cells slots ls Q h1 h2 h3 h4 h5 h6 h7 h8
  obtain ⟨t0, ht0⟩ := sm_tysAt h2 (kd := kd) (by omega) (by omega)
  have hC : ∃ C, sm_aT kd = .object C := by rcases h22 with rfl | rfl | rfl | rfl <;> exact ⟨_, rfl⟩
  obtain ⟨C, hC⟩ := hC
  rw [hC] at ht0
  refine va_aldq h1.1 h1.2.1 h2.1 (sm_P1 h3 (h3.three (Or.inr (by rw [hk]; show 22 ≤ kd; omega))) ha (sm_cell_q hk (by omega))) 0 t0 rfl ht0 (sm_in h0 hn) hd ?_
  rw [show va_rf (((fun j => (E.mr a j).map (sm_adr X.G)) (sm_i i).toNatClampNeg)) = sm_v X.G (.inr b) by rw [sm_clamp]; dsimp only; rw [hb]; rfl]
  exact w
theorem sm_alen {a n : Nat} (hk : E.sh a = (20, n)) (ha : a < E.sz) (hd : decode X.cc pc = .ok (.arraylength, 1))
    (kk : sM X (pc + 1) lv (.inl (n : Int) :: st) E mi r) : sM X pc lv (.inr a :: st) E mi r := by
  refine ⟨kk.1, fun p l e R s m args below meth c H locs cells slots ls Q h1 h2 h3 h4 h5 h6 h7 h8 => ?_⟩
  obtain ⟨t0, ht0⟩ := sm_tysAt h2 (kd := 20) (by omega) (by omega)
  by_cases h3a : 3 ≤ a
  · exact va_alen (x := (n, .inl (fun j => sm_i (mi a j)))) h1.1 h1.2.1 h2.1 (sm_P1 h3 h3a ha (sm_cell_i hk (Or.inl rfl))) 0 t0 rfl ht0 (v := sm_i (n : Int)) rfl hd (kk.2 p l e R s m args below meth c H locs cells slots ls Q h1 h2 h3 h4 h5 h6 h7 h8)
  · obtain ⟨scr, g1, g2, g3, g4, g5, g6⟩ := sm_oldA h2 h3 (by omega) hk
    have w := kk.2 p l e R s m args below meth c H locs cells slots ls Q h1 h2 h3 h4 h5 h6 h7 h8
    exact W.alen (n := sm_i (n : Int)) h1.1 h1.2.1 g1 g2.1 (by rw [g5]; rfl) rfl rfl hd w
theorem sm_arr_upd {G : GT} {E : ET} {mi : MI} {a kd n j : Nat} {z : Int} {cell : Cell} (hk : E.sh a = (kd, n)) (h20 : kd = 20 ∨ kd = 21) (hc : cell = arrV (G.cA kd) n (fun k => .int (sm_i (mi a k)))) {H' : Heap} (he : H'[sm_adr G a]? = some (cell.setSlot j (.int (sm_i z)))) : va_at G.D vwCl (sm_adr G a, sm_cell G E (sm_up mi a j z) a) H' := by
  rw [sm_cell_i hk h20]
  show H'[sm_adr G a]? = some (vp_cell _ _)
  rw [he, hc, vp_cell_i, arrV_store]
  congr 2
  funext q
  unfold updV sm_up
  by_cases hq : q = j
  · simp [hq]
  · simp [hq]
theorem sm_iastore {a n : Nat} {i z : Int} (hk : E.sh a = (20, n)) (h3a : 3 ≤ a) (ha : a < E.sz) (h0 : 0 ≤ sm_w i) (hn : sm_w i < n) (hd : decode X.cc pc = .ok (.iastore, 1))
    (kk : sM X (pc + 1) lv st E (sm_up mi a (sm_w i).toNat z) r) : sM X pc lv (.inl z :: .inl i :: .inr a :: st) E mi r := by
  refine ⟨kk.1, fun p l e R s m args below meth c H locs cells slots ls Q h1 h2 h3 h4 h5 h6 h7 h8 => ?_⟩
  obtain ⟨t0, ht0⟩ := sm_tysAt h2 (kd := 20) (by omega) (by omega)
  have hat := h3.at h3a ha
  rw [sm_cell_i hk (Or.inl rfl)] at hat
  refine W.iast h1.1 h1.2.1 hat ((h2.1.2 t0 _ ht0).1 n (fun j => .int (sm_i (mi a j)))) (fun q => by cases q) (by show ¬ (_ ∨ (arrV _ _ _).slots.size ≤ _); rw [arrV_size]; exact sm_in h0 hn) rfl rfl hd fun H' e' z' oq => ?_
  exact kk.2 p l e R s m args below meth c H' _ cells slots ls Q h1 h2 (h3.put rfl h2.2.2.2.2.2.2 h3a (sm_arr_upd hk (Or.inl rfl) rfl e') z' oq (fun k hk' => ⟨rfl, rfl, sm_up_ne hk'⟩)) (h4.put z' oq (sm_adr_fr h3a)) h5 h6 h7 h8
theorem sm_nar {z : Int} (h0 : 0 ≤ z) (h1 : z < 65536) : narrow .char (.int (sm_i z)) = .int (sm_i z) := by
  have hb : (sm_i z).toBitVec.toNat < 65536 := by
    have e : (sm_i z).toBitVec = BitVec.ofInt 32 z := rfl
    rw [e, BitVec.toNat_ofInt]
    have e2 : ((2 ^ 32 : Nat) : Int) = 4294967296 := rfl
    rw [e2]
    omega
  have e : (sm_i z).toUInt32.toUInt16.toUInt32.toInt32 = sm_i z := by
    apply Int32.toBitVec_inj.mp
    show ((sm_i z).toBitVec.setWidth 16).setWidth 32 = (sm_i z).toBitVec
    apply BitVec.eq_of_toNat_eq
    rw [BitVec.toNat_setWidth, BitVec.toNat_setWidth]
    omega
  exact congrArg Value.int e
theorem sm_castore {a n : Nat} {i z : Int} (hk : E.sh a = (21, n)) (h3a : 3 ≤ a) (ha : a < E.sz) (h0 : 0 ≤ sm_w i) (hn : sm_w i < n) (hz0 : 0 ≤ z) (hz1 : z < 65536) (hd : decode X.cc pc = .ok (.castore, 1))
    (kk : sM X (pc + 1) lv st E (sm_up mi a (sm_w i).toNat z) r) : sM X pc lv (.inl z :: .inl i :: .inr a :: st) E mi r := by
  refine ⟨kk.1, fun p l e R s m args below meth c H locs cells slots ls Q h1 h2 h3 h4 h5 h6 h7 h8 => ?_⟩
  obtain ⟨t0, ht0⟩ := sm_tysAt h2 (kd := 21) (by omega) (by omega)
  have hat := h3.at h3a ha
  rw [sm_cell_i hk (Or.inr rfl)] at hat
  refine W.cast h1.1 h1.2.1 hat ((h2.1.2 t0 _ ht0).1 n (fun j => .int (sm_i (mi a j)))) (fun q => by cases q) (by show ¬ (_ ∨ (arrV _ _ _).slots.size ≤ _); rw [arrV_size]; exact sm_in h0 hn) rfl rfl hd fun H' e' z' oq => ?_
  rw [sm_nar hz0 hz1] at e'
  exact kk.2 p l e R s m args below meth c H' _ cells slots ls Q h1 h2 (h3.put rfl h2.2.2.2.2.2.2 h3a (sm_arr_upd hk (Or.inr rfl) rfl e') z' oq (fun k hk' => ⟨rfl, rfl, sm_up_ne hk'⟩)) (h4.put z' oq (sm_adr_fr h3a)) h5 h6 h7 h8
def sm_aK : Nat → Nat := fun k => match k with
  | 22 => 3
  | 23 => 2
  | 24 => 0
  | _ => 5
theorem sm_aastore {a n kd b : Nat} {i : Int} (h22 : kd = 22 ∨ kd = 23 ∨ kd = 24 ∨ kd = 25) (hk : E.sh a = (kd, n)) (h3a : 3 ≤ a) (ha : a < E.sz) (h0 : 0 ≤ sm_w i) (hn : sm_w i < n) (hkb : (E.sh b).1 = sm_aK kd) (hb : b < E.sz) (hd : decode X.cc pc = .ok (.aastore, 1))
    (kk : sM X (pc + 1) lv st (E.1, E.2.1, E.2.2.1, sm_upr E.mr a (sm_w i).toNat (some b)) mi r) : sM X pc lv (.inr b :: .inl i :: .inr a :: st) E mi r := by
  refine ⟨kk.1, fun p l e R s m args below meth c H locs cells slots ls Q h1 h2 h3 h4 h5 h6 h7 h8 => ?_⟩
  obtain ⟨t0, ht0⟩ := sm_tysAt h2 (kd := kd) (by omega) (by omega)
  have h8b : sm_aK kd < 8 := by rcases h22 with rfl | rfl | rfl | rfl <;> decide
  have hcls := sm_cl _ h8b
  have hT : sm_aT kd = .object (sm_cC (sm_aK kd)) := by rcases h22 with rfl | rfl | rfl | rfl <;> rfl
  rw [hT] at ht0
  have hat := h3.at h3a ha
  rw [sm_cell_q hk (by omega)] at hat
  have hbt := h3.at (h3.three (Or.inl (by rw [hkb]; omega))) hb
  rw [sm_cell_o hkb h8b] at hbt
  obtain ⟨r', hr', cellV, g1, g2, g3, -⟩ := hbt
  have hcl := (h2.1.1 _ _ hcls).2
  obtain ⟨kA, comp, k1, k2, k3, -⟩ := (h2.1.2 t0 _ ht0).2
  have hcomp : comp = X.G.D.1 (sm_aK kd) := Option.some.inj (k3.symm.trans hcl.1)
  subst hcomp
  obtain ⟨kC, hkC, -⟩ := hcl.2
  refine W.aast h1.1 h1.2.1 hat (fun q h => by cases h) (fun h => by cases h) k1 k2 rfl hkC ⟨fun q => (sm_in h0 hn) (Or.inl q), by show _ < (arrV _ _ _).slots.size; rw [arrV_size]; exact Nat.not_le.mp fun q => (sm_in h0 hn) (Or.inr q)⟩ g1 (fun q h => by rw [g3] at h; cases h) (by rw [g2]; exact hkC) (by rw [g2]; exact va_assign hcl) rfl rfl hd fun H1 e' z oq => ?_
  refine kk.2 p l e R s m args below meth c H1 _ cells slots ls Q h1 h2 (h3.put (E' := (E.1, E.2.1, E.2.2.1, sm_upr E.mr a (sm_w i).toNat (some b))) rfl h2.2.2.2.2.2.2 h3a ?_ z oq (fun k hk' => ⟨rfl, sm_upr_ne hk', rfl⟩)) (h4.put z oq (sm_adr_fr h3a)) h5 h6 h7 h8
  rw [sm_cell_q (E := (E.1, E.2.1, E.2.2.1, sm_upr E.mr a (sm_w i).toNat (some b))) hk (by omega)]
  show H1[sm_adr X.G a]? = some (vp_cell _ _)
  rw [e', vp_cell_q, vp_cell_q, arrV_store]
  congr 2
  funext q
  unfold updV sm_upr
  rw [sm_clamp]
  by_cases hq : q = (sm_w i).toNat
  · simp [hq, va_rf, ET.mr]
  · simp [hq, ET.mr]
end SMM
