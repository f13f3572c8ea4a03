/-! ROWS that make objects: the world grows -/
def xrB (n : Nat) : Value → Bool
  | .ref k => decide (k < n ∨ 1000 ≤ k)
  | _ => true
theorem xrB_in {n : Nat} {v : Value} (h : xrB n v = true) : xrIn n v := by
  cases v <;> first | trivial | simpa [xrB, xrIn] using h
theorem xlm_agree {ad ad0 : Nat → Nat} {n : Nat} (hag : ∀ i, (i < n ∨ 1000 ≤ i) → ad i = ad0 i) {lv : List (Nat × Value)} (h : lv.all (fun q => xrB n q.2) = true) : xlm ad lv = xlm ad0 lv := by
  unfold xlm
  apply List.map_congr_left
  intro q hq
  rw [xr_agree hag (xrB_in (List.all_eq_true.mp h q hq))]
theorem xsm_agree {ad ad0 : Nat → Nat} {n : Nat} (hag : ∀ i, (i < n ∨ 1000 ≤ i) → ad i = ad0 i) {st : List Value} (h : st.all (xrB n) = true) : st.map (xr ad) = st.map (xr ad0) := by
  apply List.map_congr_left
  intro q hq
  rw [xr_agree hag (xrB_in (List.all_eq_true.mp h q hq))]
theorem vpi {i : Int32} {n : Nat} (h : ¬ (i < 0 ∨ n ≤ i.toNatClampNeg)) : vp_in i n := h
def xgr (ad : Nat → Nat) (n q : Nat) : Nat → Nat := fun i => if i = n then q else ad i
theorem xgr_ag {ad : Nat → Nat} {n q : Nat} (hn : n < 1000) : ∀ i, (i < n ∨ 1000 ≤ i) → xgr ad n q i = ad i := by
  intro i hi
  simp only [xgr]
  rw [if_neg (by omega)]
theorem xgr_at {ad : Nat → Nat} {n q : Nat} : xgr ad n q n = q := by simp [xgr]
theorem xw_push {ad ty : Nat → Nat} {σ : xG} {lay : List xL} {q : Nat} {c : xL} (hn : lay.length < 1000) (hl : xlayIn lay.length lay = true) : xw (xgr ad lay.length q) ty σ (lay ++ [c]) = xw ad ty σ lay ++ [(q, xcell (xgr ad lay.length q) ty σ lay.length c)] := by
  have e1 : xw (xgr ad lay.length q) ty σ lay = xw ad ty σ lay := xw_agree (xgr_ag hn) (Nat.le_refl _) hl
  rw [← e1]
  unfold xw
  rw [List.mapIdx_append]
  congr 1
  simp [xgr]
/-- a fresh object's fields: ints of the store, null -/
def xdefB (r : vw_C) (fs : List (Option Value)) : Bool := decide (fs.length = r.2.2) && ((List.range r.2.2).all fun j => match (parseFieldDescriptor (r.2.1 j).2.2.1).map defaultValue, fs[j]? with
  | some (.int x), some none => decide (x = 0)
  | some .null, some (some .null) => true
  | _, _ => false) && fs.all fun f => match f with
  | some (.ref _) => false
  | _ => true
theorem xdef_at {r : vw_C} {fs : List (Option Value)} {ad : Nat → Nat} {M : Nat → Int32} {t : Nat → FieldType} (h : xdefB r fs = true) (hz : ∀ j, M j = 0) (ht : ∀ k, k < r.2.2 → parseFieldDescriptor (r.2.1 k).2.2.1 = some (t k)) : ∀ j, j < r.2.2 → defaultValue (t j) = vp_V (fs.mapIdx (xfv ad M)) j := by
  intro j hj
  simp only [xdefB, Bool.and_eq_true] at h
  have h2 := List.all_eq_true.mp h.1.2 j (List.mem_range.mpr hj)
  rw [ht j hj] at h2
  simp only [Option.map_some] at h2
  simp only [vp_V, List.getD_eq_getElem?_getD, List.getElem?_mapIdx]
  split at h2
  · rename_i x e1 e2
    rw [e2]
    simp only [Option.some.injEq] at e1
    simp only [decide_eq_true_eq] at h2
    rw [e1, h2]
    simp [xfv, hz]
  · rename_i e1 e2
    rw [e2]
    simp only [Option.some.injEq] at e1
    rw [e1]
    rfl
  · cases h2
theorem xdef_ad {r : vw_C} {fs : List (Option Value)} {ad ad' : Nat → Nat} {M : Nat → Int32} (h : xdefB r fs = true) : fs.mapIdx (xfv ad M) = fs.mapIdx (xfv ad' M) := by
  simp only [xdefB, Bool.and_eq_true] at h
  apply List.ext_getElem?
  intro j
  simp only [List.getElem?_mapIdx]
  cases hf : fs[j]? with
  | none => rfl
  | some f =>
    have h2 := List.all_eq_true.mp h.2 f (List.mem_of_getElem? hf)
    simp only [Option.map_some]
    cases f with
    | none => rfl
    | some v => cases v <;> first | rfl | cases h2
section XGR
variable {l : Launch} {own nm : String} {cc : ByteArray} {nL : Nat} {R : Room} {mc ms : Nat} {fl : List xFl} {kc : List (Nat × Value)} {n0 : Nat} {Fin : Option Value → List xL → xG → Prop} {V : XJ}
variable {cells slots pc : Nat} {lay lay' : List xL} {lv : List (Nat × Value)} {st rest : List Value} {σ σ' : xG}
theorem x_new (C : XC l own nm cc nL R mc ms fl kc n0 Fin V) {ci ik n N : Nat} {r : vw_C} {fs : List (Option Value)} (hc : vwCl[ci]? = some r) (hw : Cond.classLink own ik r.1 ∈ xtb ∧ Cond.instantiable r.1 r.2.2 ∈ xtb ∧ Cond.initialized r.1 ∈ xtb) (hf : xdefB r fs = true) (hn : lay.length = n) (hN : r.2.2 = N) (hz : ∀ j, σ.1 n j = 0) (h0 : n0 ≤ n ∧ n < 1000) (hl : xlayIn n lay = true) (hlv : lv.all (fun q => xrB n q.2) = true) (hst : st.all (xrB n) = true) (hR : cells + 1 ≤ R.cells ∧ slots + N ≤ R.slots) (hd : decode cc pc = .ok (.new ik, 3)) (hl' : lay ++ [.inr (ci, fs)] = lay')
    (k : V (cells + 1) (slots + N) (pc + 3) lv (.ref n :: st) lay' σ) : V cells slots pc lv st lay σ := by
  obtain ⟨p, e, s, m, args, below, meth, c, Q, D, ty, ad0, A, rfl, B, -⟩ := C
  obtain ⟨hx, hb, hml, hown, hts, hK, hA, hcl, hfl, hkc⟩ := B
  subst hn
  subst hN
  subst hl'
  intro ad hag H locs ls hP hD hS hls
  obtain ⟨c1, ⟨t, c2⟩, c3⟩ := hcl _ _ hc
  refine va_new (fs := fs.mapIdx (xfv ad (σ.1 lay.length))) hx hb hts c1 t c2 hown (hts _ hw.1) (hts _ hw.2.1) (hts _ hw.2.2) hK hP hD hS hA hc (xdef_at hf hz c2) hR.1 hR.2 hd fun q H1 hP1 hD1 hS1 => ?_
  have e1 : xw (xgr ad lay.length q) ty σ (lay ++ [.inr (ci, fs)]) = xw ad ty σ lay ++ [(q, .inr (ci, fs.mapIdx (xfv ad (σ.1 lay.length))))] := by
    rw [xw_push h0.2 hl]
    simp only [xcell]
    rw [xdef_ad (ad := xgr ad lay.length q) (ad' := ad) hf]
  have ha := xgr_ag (ad := ad) (q := q) h0.2
  have k1 := k (xgr ad lay.length q) (fun i hi => (ha i (by omega)).trans (hag i hi)) H1 locs ls (by rw [e1]; exact hP1) (by rw [e1]; exact hD1) hS1 (by rw [xlm_agree ha hlv]; exact hls)
  have e2 : (Value.ref lay.length :: st).map (xr (xgr ad lay.length q)) = .ref q :: st.map (xr ad) := by
    simp only [List.map_cons, xr, xgr_at]
    rw [xsm_agree ha hst]
  rw [e2] at k1
  exact k1
theorem x_newa (C : XC l own nm cc nL R mc ms fl kc n0 Fin V) {n N : Nat} {x : Int32} (hw : Cond.arrayClass .int ∈ xtb) (hn : lay.length = n) (hx0 : ¬ x < 0) (hN : x.toNatClampNeg = N) (hNb : N * 4 ≤ 536870912) (hz : ∀ j, σ.1 n j = 0) (h0 : n0 ≤ n ∧ n < 1000) (hl : xlayIn n lay = true) (hlv : lv.all (fun q => xrB n q.2) = true) (hst : st.all (xrB n) = true) (hR : cells + 1 ≤ R.cells ∧ slots + N ≤ R.slots) (hd : decode cc pc = .ok (.newarray .int, 2)) (hl' : lay ++ [.inl (0, N)] = lay')
    (k : V (cells + 1) (slots + N) (pc + 2) lv (.ref n :: st) lay' σ) : V cells slots pc lv (.int x :: st) lay σ := by
  obtain ⟨p, e, s, m, args, below, meth, c, Q, D, ty, ad0, A, rfl, B, -⟩ := C
  obtain ⟨hx, hb, hml, hown, hts, hK, hA, hcl, hfl, hkc⟩ := B
  subst hn
  subst hl'
  intro ad hag H locs ls hP hD hS hls
  refine va_newa (atype := .int) (ty := .int) (a0 := (N, .inl (σ.1 lay.length))) hx hb (hts _ hw) rfl hK hP hD hS hA ?_ hx0 hN hNb hR.1 hR.2 hd fun q cA H1 hK1 hP1 hD1 hS1 => ?_
  · intro cA
    rw [vp_cell_i]
    congr 1
    funext j
    rw [hz j]
    rfl
  have hcA : cA = ty 0 := by
    have a1 := (hK.2 0 (ty 0, .int) rfl).2
    have a2 := (hK1.2 2 (cA, .int) rfl).2
    exact Option.some.inj (a2.symm.trans a1)
  subst hcA
  have e1 : xw (xgr ad lay.length q) ty σ (lay ++ [.inl (0, N)]) = xw ad ty σ lay ++ [(q, .inl (ty 0, (N, .inl (σ.1 lay.length))))] := by
    rw [xw_push h0.2 hl]
    rfl
  have ha := xgr_ag (ad := ad) (q := q) h0.2
  have k1 := k (xgr ad lay.length q) (fun i hi => (ha i (by omega)).trans (hag i hi)) H1 locs ls (by rw [e1]; exact hP1) (by rw [e1]; exact hD1) hS1 (by rw [xlm_agree ha hlv]; exact hls)
  have e2 : (Value.ref lay.length :: st).map (xr (xgr ad lay.length q)) = .ref q :: st.map (xr ad) := by
    simp only [List.map_cons, xr, xgr_at]
    rw [xsm_agree ha hst]
  rw [e2] at k1
  exact k1
theorem x_newl (C : XC l own nm cc nL R mc ms fl kc n0 Fin V) {n N : Nat} {x : Int32} (hw : Cond.arrayClass .long ∈ xtb) (hn : lay.length = n) (hx0 : ¬ x < 0) (hN : x.toNatClampNeg = N) (hNb : N * 8 ≤ 536870912) (hz : ∀ j, σ.2 n j = 0) (h0 : n0 ≤ n ∧ n < 1000) (hl : xlayIn n lay = true) (hlv : lv.all (fun q => xrB n q.2) = true) (hst : st.all (xrB n) = true) (hR : cells + 1 ≤ R.cells ∧ slots + N ≤ R.slots) (hd : decode cc pc = .ok (.newarray .long, 2)) (hl' : lay ++ [.inl (1, N)] = lay')
    (k : V (cells + 1) (slots + N) (pc + 2) lv (.ref n :: st) lay' σ) : V cells slots pc lv (.int x :: st) lay σ := by
  obtain ⟨p, e, s, m, args, below, meth, c, Q, D, ty, ad0, A, rfl, B, -⟩ := C
  obtain ⟨hx, hb, hml, hown, hts, hK, hA, hcl, hfl, hkc⟩ := B
  subst hn
  subst hl'
  intro ad hag H locs ls hP hD hS hls
  refine va_newa (atype := .long) (ty := .long) (a0 := (N, .inr (.inl (σ.2 lay.length)))) hx hb (hts _ hw) rfl hK hP hD hS hA ?_ hx0 hN hNb hR.1 hR.2 hd fun q cA H1 hK1 hP1 hD1 hS1 => ?_
  · intro cA
    rw [vp_cell_l]
    congr 1
    funext j
    rw [hz j]
    rfl
  have hcA : cA = ty 1 := by
    have a1 := (hK.2 1 (ty 1, .long) rfl).2
    have a2 := (hK1.2 2 (cA, .long) rfl).2
    exact Option.some.inj (a2.symm.trans a1)
  subst hcA
  have e1 : xw (xgr ad lay.length q) ty σ (lay ++ [.inl (1, N)]) = xw ad ty σ lay ++ [(q, .inl (ty 1, (N, .inr (.inl (σ.2 lay.length)))))] := by
    rw [xw_push h0.2 hl]
    rfl
  have ha := xgr_ag (ad := ad) (q := q) h0.2
  have k1 := k (xgr ad lay.length q) (fun i hi => (ha i (by omega)).trans (hag i hi)) H1 locs ls (by rw [e1]; exact hP1) (by rw [e1]; exact hD1) hS1 (by rw [xlm_agree ha hlv]; exact hls)
  have e2 : (Value.ref lay.length :: st).map (xr (xgr ad lay.length q)) = .ref q :: st.map (xr ad) := by
    simp only [List.map_cons, xr, xgr_at]
    rw [xsm_agree ha hst]
  rw [e2] at k1
  exact k1
theorem xw_putr {ad ty : Nat → Nat} {σ : xG} {k j ci v : Nat} {fs : List (Option Value)} (hk : lay[k]? = some (.inr (ci, fs))) (hj : j < fs.length) :
    (xw ad ty σ lay).set k (ad k, .inr (ci, (fs.mapIdx (xfv ad (σ.1 k))).set j (.ref (ad v)))) = xw ad ty σ (lay.set k (.inr (ci, fs.set j (some (.ref v))))) := by
  apply List.ext_getElem?
  intro i
  have hl : k < lay.length := (List.getElem?_eq_some_iff.mp hk).1
  by_cases hi : k = i
  · subst hi
    rw [List.getElem?_set_self (by simp [xw, hl]), xw_at (c := .inr (ci, fs.set j (some (.ref v)))) (by rw [List.getElem?_set_self hl])]
    simp only [xcell]
    congr 3
    congr 1
    apply List.ext_getElem?
    intro q
    by_cases hq : j = q
    · subst hq
      rw [List.getElem?_set_self (by simp [hj]), List.getElem?_mapIdx, List.getElem?_set_self hj]
      rfl
    · rw [List.getElem?_set_ne hq, List.getElem?_mapIdx, List.getElem?_mapIdx, List.getElem?_set_ne hq]
  · rw [List.getElem?_set_ne hi]
    simp only [xw, List.getElem?_mapIdx]
    rw [List.getElem?_set_ne hi]
def xrefB (d : String) : Bool := match parseFieldDescriptor d with
  | some (.object _) => true
  | some (.array _) => true
  | _ => false
theorem x_putr (C : XC l own nm cc nL R mc ms fl kc n0 Fin V) (hnm : nm = "<init>") {k j ci idx tc v : Nat} {fs : List (Option Value)} {r : vw_C} (hf : xfl fl idx = some (ci, j, tc, true)) (hk : lay[k]? = some (.inr (ci, fs))) (hj : j < fs.length) (hc : vwCl[ci]? = some r) (hr : r.1 = own) (hty : xrefB (r.2.1 j).2.2.1 = true) (hd : decode cc pc = .ok (.putfield idx, 3)) (hl' : lay.set k (.inr (ci, fs.set j (some (.ref v)))) = lay')
    (kk : V cells slots (pc + 3) lv st lay' σ) : V cells slots pc lv (.ref v :: .ref k :: st) lay σ := by
  obtain ⟨p, e, s, m, args, below, meth, c, Q, D, ty, ad0, A, rfl, B, hmn, -⟩ := C
  obtain ⟨hx, hb, hml, hown, hts, hK, hA, hcl, hfl, hkc⟩ := B
  subst hl'
  subst hnm
  obtain ⟨r', h1, h2, h3, h4, h5, h6, h7⟩ := xfl_at hfl hf
  have hrr : r' = r := Option.some.inj (h1.symm.trans hc)
  subst hrr
  obtain ⟨Cn, T, N⟩ := r'
  obtain ⟨c1, ⟨t, c2⟩, c3⟩ := hcl _ _ hc
  intro ad hag H locs ls hP hD hS hls
  dsimp only at h1 h2 h3 h4 h5 h6 h7 hr hty
  have hat := xw_at (ad := ad) (ty := ty) (σ := σ) hk
  unfold xrefB at hty
  split at hty
  · rename_i nmo hpo
    refine va_putF hx hb hts c1 t c2 c3 hown hK hP hD hS k hat h1 j h2 (hts _ h3) (fun x hx => h4 ▸ hx) h5 hmn (h4.trans hr) (ty := .object nmo) (v := .ref (ad v)) hpo rfl rfl (by simp [hj]) hd (fun H1 locs1 hP1 hD1 hS1 => ?_)
    rw [xw_putr hk hj] at hP1 hD1
    exact kk ad hag H1 locs1 ls hP1 hD1 hS1 hls
  · rename_i nmo hpo
    refine va_putF hx hb hts c1 t c2 c3 hown hK hP hD hS k hat h1 j h2 (hts _ h3) (fun x hx => h4 ▸ hx) h5 hmn (h4.trans hr) (ty := .array nmo) (v := .ref (ad v)) hpo rfl rfl (by simp [hj]) hd (fun H1 locs1 hP1 hD1 hS1 => ?_)
    rw [xw_putr hk hj] at hP1 hD1
    exact kk ad hag H1 locs1 ls hP1 hD1 hS1 hls
  · cases hty
theorem x_objI (C : XC l own nm cc nL R mc ms fl kc n0 Fin V) {idx a : Nat} (hw : Cond.methodLink own idx Lib.objectInit ∈ xtb ∧ Cond.instanceMethod Lib.objectInit ∈ xtb ∧ Cond.code Lib.objectInit ⟨#[0xb1]⟩ 1 none ∈ xtb) (hR : 1 ≤ R.frames ∧ 20 ≤ R.locals) (hr : (st.map fun v => v.category).sum ≤ 8) (hd : decode cc pc = .ok (.invokespecial idx, 3))
    (kk : V cells slots (pc + 3) lv st lay σ) : V cells slots pc lv (.ref a :: st) lay σ := by
  obtain ⟨p, e, s, m, args, below, meth, c, Q, D, ty, ad0, A, rfl, B, -⟩ := C
  obtain ⟨hx, hb, hml, hown, hts, hK, hA, hcl, hfl, hkc⟩ := B
  intro ad hag H locs ls hP hD hS hls
  refine W.objInit hx hb hown (hts _ hw.1) (hts _ hw.2.1) (hts _ hw.2.2) rfl (hls.1.trans hml.symm) rfl hd hR.1 ?_ (kk ad hag H locs ls hP hD hS hls)
  have h1 : 2 * (F0 m pc ls (.ref (ad a) :: st.map (xr ad))).monitorRoom + ((st.map (xr ad)).map fun v => v.category).sum ≤ 8 := by
    apply lv_room
    simpa [List.map_map, Function.comp_def, xr_cat] using hr
  have h2 := hR.2
  show 2 * (F0 m pc ls (.ref (ad a) :: st.map (xr ad))).monitorRoom + ((st.map (xr ad)).map fun v => v.category).sum + 12 ≤ R.locals
  omega
end XGR
/-! CONTRACTS of constructors: the world before, the world behind -/
def XQN (D : va_G) (ty ad : Nat → Nat) (lay : List xL) (σ : xG) (sz : Nat) (lay' : List xL) (σ' : xG) : Array Value → State → Outcome → State → Prop := fun _ st oc t =>
  (∃ ad' : Nat → Nat, (∀ i, (i < lay.length ∨ 1000 ≤ i) → ad' i = ad i) ∧ oc = .returned none ∧ va_P D vwCl (xw ad' ty σ' lay') t.heap ∧ va_D (va_A (xw ad ty σ lay) sz) (xw ad' ty σ' lay')) ∧ va_F (va_A (xw ad ty σ lay) sz) st t
def XMN (l : Launch) (y : MethodName) (cc : ByteArray) (nL : Nat) (rm : Room) (lay : List xL) (avs : List Value) (σ : xG) (lay' : List xL) (σ' : xG) : Prop :=
  ∀ (D : va_G) (ty ad : Nat → Nat) (sz : Nat), Met l y (xws y cc nL none) rm (XP D ty ad lay σ sz avs) (XQN D ty ad lay σ sz lay' σ') rm.cells rm.slots (va_A (xw ad ty σ lay) sz)
set_option maxHeartbeats 2000000 in
theorem XMN.of {l : Launch} {y : MethodName} {cc : ByteArray} {nL : Nat} {rm : Room} {fl : List xFl} {kc : List (Nat × Value)} {lay lay' : List xL} {avs : List Value} {σ σ' : xG}
    (hy : plainName y.cls = true) (hlen : (lg_sl avs).length ≤ nL) (hcl : xclOk vwCl xtb) (hfl : xflOk y.cls vwCl xtb fl) (hkc : xkcOk y.cls xtb kc)
    (body : ∀ V, XC l y.cls y.name cc nL rm rm.cells rm.slots fl kc lay.length (fun v lay2 σ2 => v = none ∧ lay2 = lay' ∧ σ2 = σ') V → V 0 0 0 (lv_args 0 avs) [] lay σ) : XMN l y cc nL rm lay avs σ lay' σ' := by
  intro D ty ad sz
  refine Met.ofW (cc := cc) (maxL := nL) (ret := none) hy rfl ?_
  intro p e s m args below meth c s₁ B hml hv
  obtain ⟨rfl, hsz, hP, hK, hD0, hZ⟩ := hv
  have hx := B.exec
  have hb := B.bytes
  have hr := B.returns
  have hts0 := atoms_spec (ws := xws y cc nL none) B.pre
  have hts : ∀ w ∈ xtb, w.before (avs.map (xr ad)).toArray s = true := fun w h => hts0 w (List.mem_cons_of_mem _ h)
  have hown : s.vm.findClass y.cls = some m.cls := findClass_of_methodNamed B.named
  have hlocks : meth.locks = false := B.notSynchronized
  have hname : meth.name = y.name := (name_of_methodNamed B.named B.method).1
  subst hsz
  have hD := hD0.self (sz := s.heap.size)
  have hA : ∀ q : Nat, s.heap.size ≤ q → va_A (xw ad ty σ lay) s.heap.size q := fun q h => Or.inr h
  have hS : va_S (va_A (xw ad ty σ lay) s.heap.size) s.heap s.heap [] := va_S.rf
  have hl := lv_entry (avs.map (xr ad)) (n := nL) (by rw [xsl_len]; exact hlen)
  rw [lg_entry_eq]
  rw [xargs_map] at hl
  refine body _ ⟨p, e, s, m, _, below, meth, c, _, D, ty, ad, _, rfl, ⟨hx, hb, hml, hown, hts, hK, hA, hcl, hfl, hkc⟩, hname, hZ, ?_⟩ ad (fun _ _ => rfl) s.heap [] _ hP hD hS hl
  intro ad' H locs ls lay2 σ2 pc hag hP' hD' hS'
  refine ⟨fun x hd hf => ?_, fun x hd hf => ?_, fun k hd hf => ?_, fun hd hf => ?_⟩
  · exact absurd hf.1 (by simp)
  · exact absurd hf.1 (by simp)
  · exact absurd hf.1 (by simp)
  · obtain ⟨-, rfl, rfl⟩ := hf
    exact W.vret hx hb hr (fun t ht hW => ⟨⟨ad', hag, rfl, by rw [ht]; exact hP', hD'⟩, hS'.F ht⟩) hS'.2.2 hd
section XCN
variable {p : Program} {l : Launch} {e : Env} {R : Room} {s : State} {m : MethodId} {args : Array Value} {below : List Frame} {meth : Method} {c : Code} {Q : State → Prop} {D : va_G} {ty ad0 : Nat → Nat} {n0 : Nat} {A : Nat → Prop} {nL : Nat}
variable {cells slots pc mc ms : Nat} {lay lay' : List xL} {lv : List (Nat × Value)} {st rest : List Value} {σ σ' : xG}
theorem XV.callN {as : (Nat → Nat) → Array Value} (hA : ∀ q, s.heap.size ≤ q → A q) (h0 : n0 ≤ lay.length) (hlv : lv.all (fun q => xrB lay.length q.2) = true) (hrs : rest.all (xrB lay.length) = true)
    (hrun : ∀ (ad : Nat → Nat) (H : Heap) (locs : List Loc) (ls : Array Slot), (∀ i, (i < n0 ∨ 1000 ≤ i) → ad i = ad0 i) → va_P D vwCl (xw ad ty σ lay) H → va_D A (xw ad ty σ lay) → va_S A s.heap H locs → ls.size = nL →
      va_Run p l e R s m args below meth c H locs cells slots mc ms (F0 m pc ls (st.map (xr ad))) (rest.map (xr ad)) (XQN D ty ad lay σ H.size lay' σ' (as ad)) (va_A (xw ad ty σ lay) H.size))
    (kk : XV p l e R s m args below meth c Q D vwCl ty ad0 n0 A nL (cells + mc) (slots + ms) (pc + 3) lv rest lay' σ') : XV p l e R s m args below meth c Q D vwCl ty ad0 n0 A nL cells slots pc lv st lay σ := by
  intro ad hag H locs ls hP hD hS hl T hT X
  obtain ⟨v0, st₀, t, T', L, hs0, X', hL, e1, e2, ⟨⟨ad', hag', hv, hP', hD'⟩, hF⟩, hgo⟩ := hrun ad H locs ls hag hP hD hS hl.1 T hT X
  cases hv
  have hsub : ∀ q, va_A (xw ad ty σ lay) H.size q → A q := by
    intro q hq
    rcases hq with ⟨k, e9, hk⟩ | hq
    · exact hD.2 k _ hk
    · exact hA q (Nat.le_trans hS.1 hq)
  have hS' : va_S A s.heap t.heap (locs ++ L) := by
    obtain ⟨f1, f2⟩ := hF
    rw [hs0] at f1 f2
    refine ⟨Nat.le_trans hS.1 f1, fun q h1 h2 => ?_, fun z hz => ?_⟩
    · rw [f2 q (Nat.lt_of_lt_of_le h1 hS.1) (fun h3 => h2 (hsub q h3))]
      exact hS.2.1 q h1 h2
    · rcases List.mem_append.mp hz with h3 | h3
      · exact hS.2.2 z h3
      · exact hsub _ (hL z h3)
  have hD'' : va_D A (xw ad' ty σ' lay') := hD'.weaken (fun k q _ h => hsub _ h)
  obtain ⟨t2, a1, b1⟩ := kk ad' (fun i hi => (hag' i (by omega)).trans (hag i hi)) t.heap (locs ++ L) ls hP' hD'' hS' (by rw [xlm_agree hag' hlv]; exact hl) T' e1 X'
  refine ⟨t2, hgo t2 ?_, b1⟩
  rw [xsm_agree hag' hrs] at a1
  exact a1
end XCN
section XCI
variable {l : Launch} {own nm : String} {cc : ByteArray} {nL : Nat} {R : Room} {mc ms : Nat} {fl : List xFl} {kc : List (Nat × Value)} {n0 : Nat} {Fin : Option Value → List xL → xG → Prop} {V : XJ}
variable {cells slots pc : Nat} {lay lay' : List xL} {lv : List (Nat × Value)} {st rest : List Value} {σ σ' : xG}
variable {y : MethodName} {bytes : ByteArray} {maxL idx k : Nat} {rm : Room} {avs : List Value}
def xroomN (R rm : Room) (maxL cells slots : Nat) (rest : List Value) : Bool := decide (rm.frames + 1 ≤ R.frames) && decide (8 + (maxL + 11) + rm.locals ≤ R.locals) && decide ((rest.map fun v => v.category).sum ≤ 8) && decide (cells + rm.cells ≤ R.cells) && decide (slots + rm.slots ≤ R.slots)
def xrngN (n0 : Nat) (lay : List xL) (lv : List (Nat × Value)) (rest : List Value) : Bool := decide (n0 ≤ lay.length) && lv.all (fun q => xrB lay.length q.2) && rest.all (xrB lay.length)
theorem x_callI (C : XC l own nm cc nL R mc ms fl kc n0 Fin V) (hM : XMN l y bytes maxL rm lay (.ref k :: avs) σ lay' σ') (hY : XY y bytes maxL none avs.length 2) (hlk : Cond.methodLink own idx y ∈ xtb) (hR : xroomN R rm maxL cells slots rest = true) (hg : xrngN n0 lay lv rest = true)
    (hd : decode cc pc = .ok (.invokespecial idx, 3)) (hst : avs.reverse ++ .ref k :: rest = st) (kk : V (cells + rm.cells) (slots + rm.slots) (pc + 3) lv rest lay' σ') : V cells slots pc lv st lay σ := by
  obtain ⟨p, e, s, m, args, below, meth, c, Q, D, ty, ad0, A, rfl, B, -, hZ, -⟩ := C
  obtain ⟨hx, hb, hml, hown, hts, hK, hA, hcl, hfl, hkc⟩ := B
  obtain ⟨y1, y2, y3, -, -, y6⟩ := hY
  simp only [xroomN, xrngN, Bool.and_eq_true, decide_eq_true_eq] at hR hg
  obtain ⟨⟨⟨⟨r3, r4⟩, r5⟩, r6⟩, r7⟩ := hR
  obtain ⟨⟨g1, g2⟩, g3⟩ := hg
  subst hst
  refine XV.callN (as := fun ad => ((Value.ref k :: avs).map (xr ad)).toArray) hA g1 g2 g3 (fun ad H locs ls hag hP hD hS hsz => ?_) kk
  have hcw : Cond.code y bytes maxL none ∈ xtb := List.mem_filter.mpr ⟨y1, rfl⟩
  have hG : GoodIn xtb (xws y bytes maxL none) := by
    intro w hw
    rcases List.mem_cons.mp hw with rfl | hw
    · exact ⟨hcw, Or.inl rfl⟩
    · exact ⟨hw, good_of_word (List.mem_filter.mp hw).2⟩
  refine va_runI (As := avs.map (xr ad)) (b := ad k) (rest := rest.map (xr ad)) (n := avs.length) (Ts := xtb) (own := own) (nL := nL) ⟨hx, hb, hml, hown, hts⟩ (hM D ty ad H.size) ⟨callB_of avs.length hts hG rfl rfl rfl (hts _ y2) (hts _ hlk) y3 ⟨r3, r4⟩, (y6 rfl).2, hts _ (y6 rfl).1⟩ ⟨XP.blind, fun U hU hW => XP.at (avs := Value.ref k :: avs) hag hA hK hZ hP hD hS hU hW⟩ rfl (by simp) hsz (by simp [xr]) ?_ hd ⟨r6, r7⟩
  apply lv_room
  simpa [List.map_map, Function.comp_def, xr_cat] using r5
theorem x_callIN (C : XC l own nm cc nL R mc ms fl kc n0 Fin V) {host : String} (hM : XMN l y bytes maxL rm lay (.ref k :: avs) σ lay' σ') (hY : XY y bytes maxL none avs.length 2) (hlk : (own, idx, y, host) ∈ nst) (hR : xroomN R rm maxL cells slots rest = true) (hg : xrngN n0 lay lv rest = true)
    (hd : decode cc pc = .ok (.invokespecial idx, 3)) (hst : avs.reverse ++ .ref k :: rest = st) (kk : V (cells + rm.cells) (slots + rm.slots) (pc + 3) lv rest lay' σ') : V cells slots pc lv st lay σ := by
  obtain ⟨p, e, s, m, args, below, meth, c, Q, D, ty, ad0, A, rfl, B, -, hZ, -⟩ := C
  obtain ⟨hx, hb, hml, hown, hts, hK, hA, hcl, hfl, hkc⟩ := B
  obtain ⟨y1, y2, y3, -, -, y6⟩ := hY
  simp only [xroomN, xrngN, Bool.and_eq_true, decide_eq_true_eq] at hR hg
  obtain ⟨⟨⟨⟨r3, r4⟩, r5⟩, r6⟩, r7⟩ := hR
  obtain ⟨⟨g1, g2⟩, g3⟩ := hg
  subst hst
  refine XV.callN (as := fun ad => ((Value.ref k :: avs).map (xr ad)).toArray) hA g1 g2 g3 (fun ad H locs ls hag hP hD hS hsz => ?_) kk
  have hcw : Cond.code y bytes maxL none ∈ xtb := List.mem_filter.mpr ⟨y1, rfl⟩
  have hG : GoodIn xtb (xws y bytes maxL none) := by
    intro w hw
    rcases List.mem_cons.mp hw with rfl | hw
    · exact ⟨hcw, Or.inl rfl⟩
    · exact ⟨hw, good_of_word (List.mem_filter.mp hw).2⟩
  refine va_runIN (As := avs.map (xr ad)) (b := ad k) (rest := rest.map (xr ad)) (n := avs.length) (Ts := xtb) (own := own) (host := host) (nL := nL) ⟨hx, hb, hml, hown, hts⟩ (hM D ty ad H.size) ⟨va_cnB avs.length hts hG rfl rfl rfl (hZ.2 _ hlk) (hts _ y2) y3 ⟨r3, r4⟩, (y6 rfl).2, hts _ (y6 rfl).1⟩ ⟨XP.blind, fun U hU hW => XP.at (avs := Value.ref k :: avs) hag hA hK hZ hP hD hS hU hW⟩ rfl (by simp) hsz (by simp [xr]) ?_ hd ⟨r6, r7⟩
  apply lv_room
  simpa [List.map_map, Function.comp_def, xr_cat] using r5
end XCI
