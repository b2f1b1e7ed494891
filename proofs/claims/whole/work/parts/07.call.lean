/-! ===== calls, and a method's contract out of its walk ===== -/
theorem sm_K_moved {G : GT} {u U : State} (hvm : u.vm.Alike U.vm) (h : va_K G.D vwCl (sm_tys G) u) : va_K G.D vwCl (sm_tys G) U := va_K.moved hvm h
theorem sm_S.warm {G : GT} {s U : State} {H : Heap} {locs : List Loc} (h : sm_S G s) (hS : va_S (sm_fr G) s.heap H locs) (hU : U.heap = H) (hW : s.WarmedH U.vm) : sm_S G U := by
  obtain ⟨k1, k2, ⟨a1, a2, a3, a4, a5⟩, z1, z2, b1, b2⟩ := h
  have hvm := hW.alike
  have ko : ∀ a : Nat, a < s.heap.size → ¬ sm_fr G a → U.heap[a]? = s.heap[a]? := fun a ha hf => by rw [hU]; exact hS.2.1 a ha hf
  refine ⟨va_K.moved hvm k1, fun w hw hn => ?_, ⟨a1.moved hvm, a2.moved hvm, a3.moved hvm, a4.moved hvm, a5.moved hvm⟩, (z1.moved hvm).kept ko, (z2.moved hvm).kept ko, by rw [hU]; exact Nat.le_trans b1 hS.1, b2⟩
  have h0 := k2 w hw hn
  cases w <;> first | exact va_Nw.warmF hW h0 | exact va_Nw.warmM hW h0 | (exact absurd hn (by simp [sm_ne]))
theorem sm_S.call {G : GT} {u : State} {g : JFrame} {mk : MethodId} {a : Array Value} (h : sm_S G u) : sm_S G (u.calling g mk a) := by
  obtain ⟨k1, k2, ⟨a1, a2, a3, a4, a5⟩, z1, z2, b1, b2⟩ := h
  have hvm : u.vm.Alike (u.calling g mk a).vm := Vm.Alike.refl u.vm
  exact ⟨va_K.moved hvm k1, fun w hw hn => va_Nw.same (u := u) (U := u.calling g mk a) (by cases w <;> first | rfl | (exact absurd hn (by simp [sm_ne]))) rfl (k2 w hw hn), ⟨a1.moved hvm, a2.moved hvm, a3.moved hvm, a4.moved hvm, a5.moved hvm⟩, z1.moved hvm, z2.moved hvm, b1, b2⟩
theorem sm_blind {G : GT} {avs : List AV} {E : ET} {mi : MI} : FrameBlind (sm_P G avs E mi) := fun _ _ _ _ h => ⟨h.1, h.2.1.call, h.2.2⟩
section SMC
variable {X : XT} {pc : Nat} {lv : List (Option AV)} {st : List AV} {E : ET} {mi : MI} {r : RT}
theorem sm_back {p : Program} {l : Launch} {e : Env} {R : Room} {s : State} {m : MethodId} {args : Array Value} {below : List Frame} {meth : Method} {c : Code} {H : Heap} {locs : List Loc} {cells slots mc ms : Nat} {ls : Array Slot} {Q : State → Prop} {st0 : List Value} {r1 : RT} {as : Array Value}
    (hr : va_Run p l e R s m args below meth c H locs cells slots mc ms (F0 m pc ls st0) (st.map (sm_v X.G)) (sm_Q X.G r1 as) (sm_fr X.G)) (h1 : sm_env X p s m args meth c R) (h2 : sm_S X.G s) (h3 : sm_H X.G E mi H) (h4 : va_S (sm_fr X.G) s.heap H locs) (h5 : sm_L X.G ls X.nL lv) (hsz : E.sz ≤ r1.2.1.sz)
    (kk : sM X (pc + 3) lv (r1.1.toList ++ st) r1.2.1 r1.2.2 r) (h6 : cells + mc + (r.2.1.sz - r1.2.1.sz) ≤ R.cells) (h7 : slots + ms + (r.2.1.us - r1.2.1.us) ≤ R.slots) (h8 : sm_end X r p l e R s m args below meth c Q) :
    W p l e R s m args below meth c H locs cells slots Q (F0 m pc ls st0) := by
  intro T hT X0
  obtain ⟨v, st₀, t, T', L, h0, X', hL, e1, e2, ⟨hv, hH, hF⟩, stp⟩ := hr T hT X0
  have hv' : v = r1.1.map (sm_v X.G) := Outcome.returned.inj hv
  subst hv'
  have hz : H.size ≤ t.heap.size := by
    rw [h3.1, hH.1]
    have : E.sz - 3 ≤ r1.2.1.sz - 3 := by omega
    omega
  have hst : (r1.1.map (sm_v X.G)).toList ++ st.map (sm_v X.G) = (r1.1.toList ++ st).map (sm_v X.G) := by
    cases r1.1 <;> simp
  rw [hst] at stp
  have hS : va_S (sm_fr X.G) s.heap T'.heap (locs ++ L) := by
    refine ⟨Nat.le_trans h4.1 (by rw [e1]; exact hz), fun q q1 q2 => ?_, fun q hq => ?_⟩
    · rw [e1, hF.2 q (by rw [h0]; exact Nat.lt_of_lt_of_le q1 h4.1) q2, h0]
      exact h4.2.1 q q1 q2
    · rcases List.mem_append.mp hq with h | h
      · exact h4.2.2 q h
      · exact hL q h
  obtain ⟨t2, a1, b1⟩ := kk.2 p l e R s m args below meth c T'.heap (locs ++ L) (cells + mc) (slots + ms) ls Q h1 h2 (by rw [e1]; exact hH) hS h5 h6 h7 h8 T' rfl X'
  exact ⟨t2, stp t2 a1, b1⟩
/-- what the tables say of a call -/
def sm_lk (own : String) (idx : Nat) (y : MethodName) (bytes : ByteArray) (mL : Nat) (ret : Option FieldType) (n : Nat) : Prop :=
  Cond.code y bytes mL ret ∈ sm_tb ∧ Cond.initialized y.cls ∈ sm_tb ∧ (y.cls ≠ "java/lang/invoke/MethodHandle" ∧ y.cls ≠ "java/lang/invoke/VarHandle" ∧ (parseMethodDescriptor y.desc).map (fun d => d.parameters.length) = some n) ∧
  (Cond.methodLink own idx y ∈ sm_tb ∨ ∃ host, Cond.methodLinkNest own idx y host ∈ lw_tbl)
theorem sm_gIn {y : MethodName} {bytes : ByteArray} {mL : Nat} {ret : Option FieldType} (h : Cond.code y bytes mL ret ∈ sm_tb) : GoodIn sm_tb (Cond.code y bytes mL ret :: sm_tb) := by
  intro w hw
  rcases List.mem_cons.mp hw with rfl | hw
  · exact ⟨h, sm_tb_good _ h⟩
  · exact ⟨hw, sm_tb_good _ hw⟩
theorem sm_cB {own : String} {idx : Nat} {y : MethodName} {bytes : ByteArray} {mL : Nat} {ret : Option FieldType} {n fr lo mc ms : Nat} {R : Room} {s : State} {args : Array Value} (lk : sm_lk own idx y bytes mL ret n) (hl : Cond.methodLink own idx y ∈ sm_tb) (hts : ∀ w ∈ sm_tb, w.before args s = true) (hR : fr + 1 ≤ R.frames ∧ 8 + (mL + 11) + lo ≤ R.locals) :
    CallB R s args own idx y bytes mL ret (Cond.code y bytes mL ret :: sm_tb) ({ frames := fr, cells := mc, slots := ms, locals := lo }) mc ms n :=
  callB_of n hts (sm_gIn lk.1) rfl rfl rfl (hts _ lk.2.1) (hts _ hl) lk.2.2.1 hR
theorem sm_cNs {own host : String} {idx : Nat} {y : MethodName} {bytes : ByteArray} {mL : Nat} {ret : Option FieldType} {n fr lo mc ms : Nat} {R : Room} {s : State} {args : Array Value} (lk : sm_lk own idx y bytes mL ret n) (hl : va_Nw (.methodLinkNest own idx y host) s) (hts : ∀ w ∈ sm_tb, w.before args s = true) (hR : fr + 1 ≤ R.frames ∧ 8 + (mL + 11) + lo ≤ R.locals) :
    va_CN R s args own idx y host bytes mL ret (Cond.code y bytes mL ret :: sm_tb) ({ frames := fr, cells := mc, slots := ms, locals := lo }) mc ms n :=
  va_cnB n hts (sm_gIn lk.1) rfl rfl rfl hl (hts _ lk.2.1) lk.2.2.1 hR
theorem sm_monoC {G : GT} {y : MethodName} {bytes : ByteArray} {mL : Nat} {ret : Option FieldType} {fr lo : Nat} {avs : List AV} {r1 : RT} (hC : cN G y bytes mL ret fr lo avs E mi r1) (h2 : r1.2.1.sz ≤ r.2.1.sz ∧ r1.2.1.us ≤ r.2.1.us) : E.sz ≤ r.2.1.sz ∧ E.us ≤ r.2.1.us := ⟨Nat.le_trans hC.1.1 h2.1, Nat.le_trans hC.1.2 h2.2⟩
theorem sm_map_app (G : GT) (avs : List AV) (w : List AV) : (avs.reverse ++ w).map (sm_v G) = (avs.map (sm_v G)).reverse ++ w.map (sm_v G) := by
  rw [List.map_append, List.map_reverse]
theorem sm_callV {own : String} {idx n mL fr lo a kd : Nat} {y : MethodName} {bytes : ByteArray} {ret : Option FieldType} {avs st0 : List AV} {r1 : RT} (lk : sm_lk own idx y bytes mL ret n) (hown : X.own = own) (hv : kd < 8 ∧ sm_cC kd = y.cls ∧ Cond.instanceMethod y ∈ sm_tb ∧ Cond.selects y.cls y y ∈ sm_tb)
    (hC : cN X.G y bytes mL ret fr lo (.inr a :: avs) E mi r1) (hR : fr + 1 ≤ X.fr ∧ 8 + (mL + 11) + lo ≤ X.lo) (hn : avs.length = n ∧ st.length ≤ 8) (hk : (E.sh a).1 = kd) (ha : a < E.sz) (hst : st0 = avs.reverse ++ .inr a :: st)
    (hd : decode X.cc pc = .ok (.invokevirtual idx, 3)) (kk : sM X (pc + 3) lv (r1.1.toList ++ st) r1.2.1 r1.2.2 r) : sM X pc lv st0 E mi r := by
  subst hst
  subst hown
  have hm := hC.1
  have hm2 := kk.1
  refine ⟨sm_monoC hC kk.1, fun p l e R s m args below meth c H locs cells slots ls Q h1 h2 h3 h4 h5 h6 h7 h8 => ?_⟩
  have hts := h1.2.2.2.2.1
  have hR' : fr + 1 ≤ R.frames ∧ 8 + (mL + 11) + lo ≤ R.locals := ⟨Nat.le_trans hR.1 h1.2.2.2.2.2.2.1, Nat.le_trans hR.2 h1.2.2.2.2.2.2.2⟩
  have h3a : 3 ≤ a := h3.three (Or.inl (by have := hv.1; omega))
  have hat := h3.at h3a ha
  rw [sm_cell_o hk hv.1] at hat
  have hrec : ∃ cellB : Cell, H[sm_adr X.G a]? = some cellB ∧ cellB.vm.isStatics = false ∧ s.vm.findClass y.cls = some cellB.cls := by
    rw [← hv.2.1]
    exact va_recv h2.1 (sm_P1 h3 h3a ha (sm_cell_o hk hv.1)) (ci := kd) (sm_cl kd hv.1) (q0 := 0) rfl
  have hpre : PreV s H y.cls (sm_adr X.G a) (sm_P X.G (.inr a :: avs) E mi) (avs.map (sm_v X.G)) :=
    ⟨sm_blind, hrec, fun U hU hW => ⟨rfl, h2.warm h4 hU hW, by rw [hU]; exact h3⟩⟩
  have hw : 2 * (F0 m pc ls (((avs.reverse ++ .inr a :: st).map (sm_v X.G)))).monitorRoom + ((st.map (sm_v X.G)).map fun v => v.category).sum ≤ 8 := by
    rw [sm_cats]
    show 2 * 0 + _ ≤ _
    omega
  have hrun : va_Run p l e R s m args below meth c H locs cells slots (r1.2.1.sz - E.sz) (r1.2.1.us - E.us) (F0 m pc ls ((avs.reverse ++ .inr a :: st).map (sm_v X.G))) (st.map (sm_v X.G)) (sm_Q X.G r1 (Value.ref (sm_adr X.G a) :: avs.map (sm_v X.G)).toArray) (sm_fr X.G) := by
    rcases lk.2.2.2 with hl | ⟨host, hl⟩
    · exact va_runV (own := X.own) ⟨h1.1, h1.2.1, h1.2.2.1, h1.2.2.2.1, hts⟩ (hC.2 l) ⟨sm_cB lk hl hts hR', hts _ hv.2.2.1, hts _ hv.2.2.2⟩ hpre rfl (by rw [List.length_map]; exact hn.1) h5.1 (sm_map_app _ _ _) hw hd ⟨by omega, by omega⟩
    · exact va_runVN (own := X.own) ⟨h1.1, h1.2.1, h1.2.2.1, h1.2.2.2.1, hts⟩ (hC.2 l) ⟨sm_cNs lk (h2.2.1 _ hl rfl) hts hR', hts _ hv.2.2.1, hts _ hv.2.2.2⟩ hpre rfl (by rw [List.length_map]; exact hn.1) h5.1 (sm_map_app _ _ _) hw hd ⟨by omega, by omega⟩
  exact sm_back hrun h1 h2 h3 h4 h5 hm.1 kk (by omega) (by omega) h8
theorem sm_callS {own : String} {idx n mL fr lo : Nat} {y : MethodName} {bytes : ByteArray} {ret : Option FieldType} {avs st0 : List AV} {r1 : RT} (lk : sm_lk own idx y bytes mL ret n) (hown : X.own = own) (hv : Cond.static y ∈ sm_tb)
    (hC : cN X.G y bytes mL ret fr lo avs E mi r1) (hR : fr + 1 ≤ X.fr ∧ 8 + (mL + 11) + lo ≤ X.lo) (hn : avs.length = n ∧ st.length ≤ 8) (hst : st0 = avs.reverse ++ st)
    (hd : decode X.cc pc = .ok (.invokestatic idx, 3)) (kk : sM X (pc + 3) lv (r1.1.toList ++ st) r1.2.1 r1.2.2 r) : sM X pc lv st0 E mi r := by
  subst hst
  subst hown
  have hm := hC.1
  have hm2 := kk.1
  refine ⟨sm_monoC hC kk.1, fun p l e R s m args below meth c H locs cells slots ls Q h1 h2 h3 h4 h5 h6 h7 h8 => ?_⟩
  have hts := h1.2.2.2.2.1
  have hR' : fr + 1 ≤ R.frames ∧ 8 + (mL + 11) + lo ≤ R.locals := ⟨Nat.le_trans hR.1 h1.2.2.2.2.2.2.1, Nat.le_trans hR.2 h1.2.2.2.2.2.2.2⟩
  have hpre : PreS s H (sm_P X.G avs E mi) (avs.map (sm_v X.G)) :=
    ⟨sm_blind, fun U hU hW => ⟨rfl, h2.warm h4 hU hW, by rw [hU]; exact h3⟩⟩
  have hw : 2 * (F0 m pc ls (((avs.reverse ++ st).map (sm_v X.G)))).monitorRoom + ((st.map (sm_v X.G)).map fun v => v.category).sum ≤ 8 := by
    rw [sm_cats]
    show 2 * 0 + _ ≤ _
    omega
  have hrun : va_Run p l e R s m args below meth c H locs cells slots (r1.2.1.sz - E.sz) (r1.2.1.us - E.us) (F0 m pc ls ((avs.reverse ++ st).map (sm_v X.G))) (st.map (sm_v X.G)) (sm_Q X.G r1 (avs.map (sm_v X.G)).toArray) (sm_fr X.G) := by
    rcases lk.2.2.2 with hl | ⟨host, hl⟩
    · exact va_runS (own := X.own) ⟨h1.1, h1.2.1, h1.2.2.1, h1.2.2.2.1, hts⟩ (hC.2 l) ⟨sm_cB lk hl hts hR', hts _ hv⟩ hpre rfl (by rw [List.length_map]; exact hn.1) h5.1 (sm_map_app _ _ _) hw hd ⟨by omega, by omega⟩
    · exact va_runSN (own := X.own) ⟨h1.1, h1.2.1, h1.2.2.1, h1.2.2.2.1, hts⟩ (hC.2 l) ⟨sm_cNs lk (h2.2.1 _ hl rfl) hts hR', hts _ hv, trivial⟩ hpre rfl (by rw [List.length_map]; exact hn.1) h5.1 (sm_map_app _ _ _) hw hd ⟨by omega, by omega⟩
  exact sm_back hrun h1 h2 h3 h4 h5 hm.1 kk (by omega) (by omega) h8
theorem sm_callI {own : String} {idx n mL fr lo a : Nat} {y : MethodName} {bytes : ByteArray} {avs st0 : List AV} {r1 : RT} (lk : sm_lk own idx y bytes mL none n) (hown : X.own = own) (hv : y.name = "<init>" ∧ Cond.instanceMethod y ∈ sm_tb)
    (hC : cN X.G y bytes mL none fr lo (.inr a :: avs) E mi r1) (hR : fr + 1 ≤ X.fr ∧ 8 + (mL + 11) + lo ≤ X.lo) (hn : avs.length = n ∧ st.length ≤ 8) (hst : st0 = avs.reverse ++ .inr a :: st)
    (hd : decode X.cc pc = .ok (.invokespecial idx, 3)) (kk : sM X (pc + 3) lv (r1.1.toList ++ st) r1.2.1 r1.2.2 r) : sM X pc lv st0 E mi r := by
  subst hst
  subst hown
  have hm := hC.1
  have hm2 := kk.1
  refine ⟨sm_monoC hC kk.1, fun p l e R s m args below meth c H locs cells slots ls Q h1 h2 h3 h4 h5 h6 h7 h8 => ?_⟩
  have hts := h1.2.2.2.2.1
  have hR' : fr + 1 ≤ R.frames ∧ 8 + (mL + 11) + lo ≤ R.locals := ⟨Nat.le_trans hR.1 h1.2.2.2.2.2.2.1, Nat.le_trans hR.2 h1.2.2.2.2.2.2.2⟩
  have hpre : PreS s H (sm_P X.G (.inr a :: avs) E mi) (.ref (sm_adr X.G a) :: avs.map (sm_v X.G)) :=
    ⟨sm_blind, fun U hU hW => ⟨rfl, h2.warm h4 hU hW, by rw [hU]; exact h3⟩⟩
  have hw : 2 * (F0 m pc ls (((avs.reverse ++ .inr a :: st).map (sm_v X.G)))).monitorRoom + ((st.map (sm_v X.G)).map fun v => v.category).sum ≤ 8 := by
    rw [sm_cats]
    show 2 * 0 + _ ≤ _
    omega
  have hrun : va_Run p l e R s m args below meth c H locs cells slots (r1.2.1.sz - E.sz) (r1.2.1.us - E.us) (F0 m pc ls ((avs.reverse ++ .inr a :: st).map (sm_v X.G))) (st.map (sm_v X.G)) (sm_Q X.G r1 (Value.ref (sm_adr X.G a) :: avs.map (sm_v X.G)).toArray) (sm_fr X.G) := by
    rcases lk.2.2.2 with hl | ⟨host, hl⟩
    · exact va_runI (own := X.own) ⟨h1.1, h1.2.1, h1.2.2.1, h1.2.2.2.1, hts⟩ (hC.2 l) ⟨sm_cB lk hl hts hR', hv.1, hts _ hv.2⟩ hpre rfl (by rw [List.length_map]; exact hn.1) h5.1 (sm_map_app _ _ _) hw hd ⟨by omega, by omega⟩
    · exact va_runIN (own := X.own) ⟨h1.1, h1.2.1, h1.2.2.1, h1.2.2.2.1, hts⟩ (hC.2 l) ⟨sm_cNs lk (h2.2.1 _ hl rfl) hts hR', hv.1, hts _ hv.2⟩ hpre rfl (by rw [List.length_map]; exact hn.1) h5.1 (sm_map_app _ _ _) hw hd ⟨by omega, by omega⟩
  exact sm_back hrun h1 h2 h3 h4 h5 hm.1 kk (by omega) (by omega) h8
end SMC
theorem sm_sl (G : GT) (avs : List AV) : lg_sl (avs.map (sm_v G)) = avs.map (fun v => Slot.val (sm_v G v)) := by
  induction avs with
  | nil => rfl
  | cons a t ih =>
    unfold lg_sl at ih ⊢
    rw [List.map_cons, List.flatMap_cons, ih]
    simp [sm_v_cat]
def sm_lv (avs : List AV) (n : Nat) : List (Option AV) := avs.map some ++ List.replicate (n - avs.length) none
/-- the contract out of the walk from 0 -/
theorem sm_meth {G : GT} {y : MethodName} {bytes : ByteArray} {mL : Nat} {ret : Option FieldType} {fr lo : Nat} {avs : List AV} {E : ET} {mi : MI} {r : RT} (hy : plainName y.cls = true) (hl : avs.length ≤ mL)
    (h : sM (G, y.cls, bytes, mL, ret, decide (y.name = "<init>"), fr, lo) 0 (sm_lv avs mL) [] E mi r) : cN G y bytes mL ret fr lo avs E mi r := by
  refine ⟨h.1, fun l => Met.ofW (cc := bytes) (maxL := mL) (ret := ret) hy rfl ?_⟩
  intro p e s m args below meth c s₁ B hml hv
  obtain ⟨hargs, hS, hH⟩ := hv
  have hts := atoms_spec (ws := Cond.code y bytes mL ret :: sm_tb) B.pre
  have hown : s.vm.findClass y.cls = some m.cls := findClass_of_methodNamed B.named
  have hnm : meth.name = y.name := (name_of_methodNamed B.named B.method).1
  have hlocks := B.notSynchronized
  have hb := B.bytes
  have hr := B.returns
  have hx := B.exec
  have hl0 := lv_entry (avs.map (sm_v G)) (n := mL) (by rw [sm_sl]; simpa using hl)
  rw [hargs, lg_entry_eq]
  rw [sm_sl] at hl0 ⊢
  have hL : sm_L G ((avs.map (fun v => Slot.val (sm_v G v)) ++ List.replicate (mL - (avs.map (fun v => Slot.val (sm_v G v))).length) Slot.unset).toArray) mL (sm_lv avs mL) := by
    refine ⟨hl0.1, hl0.2.1, fun k v hk => ?_⟩
    unfold sm_lv at hk
    by_cases hkl : k < avs.length
    · rw [List.getElem?_append_left (by simpa using hkl)] at hk
      rw [List.getElem?_toArray, List.getElem?_append_left (by simpa using hkl)]
      rw [List.getElem?_map] at hk ⊢
      cases ha : avs[k]? with
      | none => rw [ha] at hk; simp at hk
      | some w =>
        rw [ha] at hk
        simp at hk
        subst hk
        rfl
    · rw [List.getElem?_append_right (by simpa using Nat.not_lt.mp hkl)] at hk
      rw [List.getElem?_replicate] at hk
      split at hk <;> simp at hk
  rw [← hargs]
  refine h.2 p l e _ s m args below meth c s.heap [] 0 0 _ _ ⟨hx, hb, hml, hown, fun w hw => hts w (List.mem_cons_of_mem _ hw), fun q => by rw [hnm]; exact of_decide_eq_true q, Nat.le_refl _, Nat.le_refl _⟩ hS hH va_S.rf hL (by show 0 + _ ≤ r.2.1.sz - E.sz; simp) (by show 0 + _ ≤ r.2.1.us - E.us; simp) ?_
  intro H locs cells slots ls pc g1 g2 g3 g4 g5
  refine W.widen g3 g4 ?_
  rcases g5 with ⟨e1, e2, e3⟩ | ⟨v, e1, e2, z, rfl, hz⟩
  · rw [e1]
    exact W.vret hx hb (hr.trans e2) (fun t ht hW => ⟨by rw [e1]; rfl, by rw [ht]; exact g1, g2.F ht⟩) g2.2.2 e3
  · rw [e1]
    rcases hz with hz | ⟨hz, hz2⟩
    · exact W.iret hx hb (hr.trans hz) (fun t ht hW => ⟨by rw [e1]; rfl, by rw [ht]; exact g1, g2.F ht⟩) g2.2.2 e2
    · exact W.zret hx hb (hr.trans hz) (by rcases hz2 with rfl | rfl <;> rfl) (fun t ht hW => ⟨by rw [e1]; rfl, by rw [ht]; exact g1, g2.F ht⟩) g2.2.2 e2
