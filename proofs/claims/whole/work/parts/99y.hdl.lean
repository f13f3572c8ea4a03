/-! METHODS WITH HANDLERS: a call that may throw, caught here; their contract; the call of such a method -/
def XCH (l : Launch) (own nm : String) (cc : ByteArray) (nL : Nat) (R : Room) (mc ms : Nat) (fl : List xFl) (kc : List (Nat × Value)) (n0 : Nat) (Fin : Option Value → List xL → xG → Prop) (V : XJ) (hh : List (Nat × Nat × Nat × Nat)) : Prop :=
  ∃ (p : Program) (e : Env) (s : State) (m : MethodId) (args : Array Value) (below : List Frame) (meth : Method) (c : Code) (Q : State → Prop) (D : va_G) (ty ad0 : Nat → Nat) (A : Nat → Prop),
    V = XV p l e R s m args below meth c Q D vwCl ty ad0 n0 A nL ∧ XB p s m args c D ty A own cc nL xtb vwCl fl kc ∧ meth.name = nm ∧ XZ ad0 A s s.heap ∧ XRet p l e R s m args below meth c Q D ty ad0 n0 A cc mc ms Fin ∧ c.exceptionTable.toList = tableOf hh
/-- E, thrown at pc, goes to hpc -/
def xcat (own : String) (hh : List (Nat × Nat × Nat × Nat)) (pc : Nat) (E : String) (hpc : Nat) : Prop := ∃ (pre : List ExceptionTableEntry) (x : ExceptionTableEntry) (suf : List ExceptionTableEntry) (name : String), tableOf hh = pre ++ x :: suf ∧
  (∀ z ∈ pre, covers z pc = false ∨ (z.catchType ≠ 0 ∧ E = "java/lang/IndexOutOfBoundsException" ∧ Cond.classLink own z.catchType "java/lang/IllegalArgumentException" ∈ xtb)) ∧ covers x pc = true ∧ x.catchType ≠ 0 ∧ Cond.classLink own x.catchType name ∈ xtb ∧ Cond.castable E name ∈ xdw ∧ x.handlerPc = hpc
section XHR
variable {l : Launch} {own nm : String} {cc : ByteArray} {nL : Nat} {R : Room} {mc ms : Nat} {fl : List xFl} {kc : List (Nat × Value)} {n0 : Nat} {Fin : Option Value → List xL → xG → Prop} {V : XJ} {hh : List (Nat × Nat × Nat × Nat)}
variable {cells slots pc : Nat} {lay : List xL} {lv : List (Nat × Value)} {st rest : List Value} {σ : xG} {Po : Option Value → xG → Prop} {Th : String → Prop}
variable {y : MethodName} {bytes : ByteArray} {maxL idx : Nat} {ret : Option FieldType} {rm : Room} {avs : List Value}
theorem XCH.xc (C : XCH l own nm cc nL R mc ms fl kc n0 Fin V hh) : XC l own nm cc nL R mc ms fl kc n0 Fin V := by
  obtain ⟨p, e, s, m, args, below, meth, c, Q, D, ty, ad0, A, h1, h2, h3, h4, h5, -⟩ := C
  exact ⟨p, e, s, m, args, below, meth, c, Q, D, ty, ad0, A, h1, h2, h3, h4, h5⟩
set_option maxHeartbeats 2000000 in
theorem x_callVX (C : XCH l own nm cc nL R mc ms fl kc n0 Fin V hh) {k ci : Nat} {fs : List (Option Value)} {r : vw_C} (hM : XMX l y bytes maxL ret rm lay (.ref k :: avs) σ Po Th) (hY : XY y bytes maxL ret avs.length 1) (hlk : Cond.methodLink own idx y ∈ xtb) (hk : lay[k]? = some (.inr (ci, fs))) (hc : vwCl[ci]? = some r) (hrc : r.1 = y.cls)
    (hr1 : rm.cells = 1 ∧ rm.slots = 6) (hR : xroomN R rm maxL cells slots rest = true) (hn : n0 ≤ 999 ∧ lay.length ≤ 999 ∧ xlayIn 999 lay = true) (hlv : lv.all (fun q => xrB 999 q.2) = true)
    (hd : decode cc pc = .ok (.invokevirtual idx, 3)) (hst : avs.reverse ++ .ref k :: rest = st) (kk : ∀ (v : Option Value) (σ' : xG), Po v σ' → V (cells + 1) (slots + 6) (pc + 3) lv (v.toList ++ rest) lay σ')
    (kx : ∀ E, Th E → ∃ hpc, xcat own hh pc E hpc ∧ V (cells + 1) (slots + 6) hpc lv [.ref 999] lay σ) : V cells slots pc lv st lay σ := by
  obtain ⟨p, e, s, m, args, below, meth, c, Q, D, ty, ad0, A, rfl, B, -, hZ, -, htab⟩ := C
  obtain ⟨hx, hb, hml, hown, hts, hK, hA, hcl, hfl, hkc⟩ := B
  obtain ⟨y1, y2, y3, -, y5, -⟩ := hY
  simp only [xroomN, Bool.and_eq_true, decide_eq_true_eq] at hR
  obtain ⟨⟨⟨⟨r3, r4⟩, r5⟩, r6⟩, r7⟩ := hR
  subst hst
  have hcw : Cond.code y bytes maxL ret ∈ xtb := List.mem_filter.mpr ⟨y1, rfl⟩
  have hG : GoodIn xtb (xws y bytes maxL ret) := by
    intro w hw
    rcases List.mem_cons.mp hw with rfl | hw
    · exact ⟨hcw, Or.inl rfl⟩
    · exact ⟨hw, good_of_word (List.mem_filter.mp hw).2⟩
  intro ad hag H locs ls hP hD hS hl T hT X
  have hrv := va_recv hK hP hc (xw_at (ad := ad) (ty := ty) (σ := σ) hk)
  rw [hrc] at hrv
  have hrun := vx_runV (As := avs.map (xr ad)) (b := ad k) (C := y.cls) (rest := rest.map (xr ad)) (n := avs.length) (Ts := xtb) (own := own) (nL := nL) (g := F0 m pc ls ((avs.reverse ++ .ref k :: rest).map (xr ad))) (index := idx) (locs := locs) (cells := cells) (slots := slots) (e := e) (below := below) (meth := meth) ⟨hx, hb, hml, hown, hts⟩ (hM D ty ad H.size) ⟨callB_of avs.length hts hG rfl hr1.1 hr1.2 (hts _ y2) (hts _ hlk) y3 ⟨r3, r4⟩, hts _ (y5 rfl).1, hts _ (y5 rfl).2⟩ ⟨XP.blind, hrv, fun U hU hW => XP.at (avs := Value.ref k :: avs) hag hA hK hZ hP hD hS hU hW⟩ rfl (by simp) hl.1 (by simp [F0, xr]) (lv_room (by simpa [List.map_map, Function.comp_def, xr_cat] using r5)) hd ⟨by rw [← hr1.1]; exact r6, by rw [← hr1.2]; exact r7⟩
  have hsub : ∀ q, va_A (xw ad ty σ lay) H.size q → A q := by
    intro q hq
    rcases hq with ⟨k, e9, hk⟩ | hq
    · exact hD.2 k _ hk
    · exact hA q (Nat.le_trans hS.1 hq)
  rcases hrun T hT X with ⟨v0, st₀, t, T', L, h0, X', hL, e1, e2, ⟨⟨v, σ', hv, hPo, hP', hD'⟩, hF⟩, hgo⟩ | ⟨q, st₀, t, T', L, E, ce, h0, X', hL, e1, e2, ⟨hTh, hPx, hF⟩, hce, hcv, hce2, hgo⟩
  · have hv' : v0 = v.map (xr ad) := by cases hv; rfl
    subst hv'
    obtain ⟨-, -, hS'⟩ := vx_keep h0 e1 hS (fun q _ h => hsub q h) hsub hL hF
    have hD'' : va_D A (xw ad ty σ' lay) := hD'.weaken (fun k q _ h => hsub _ h)
    obtain ⟨t2, a1, b1⟩ := kk v σ' hPo ad hag T'.heap (locs ++ L) ls (by rw [e1]; exact hP') hD'' hS' hl T' rfl X'
    refine ⟨t2, hgo t2 ?_, b1⟩
    have e3 : (v.toList ++ rest).map (xr ad) = (v.map (xr ad)).toList ++ rest.map (xr ad) := by cases v <;> simp
    rw [e3] at a1
    exact a1
  · obtain ⟨-, -, hS'⟩ := vx_keep h0 e1 hS (fun q _ h => hsub q h) hsub hL hF
    obtain ⟨hpc, ⟨pre, x, suf, name, c1, c2, c3, c4, c5, c6, c7⟩, hV⟩ := kx E hTh
    subst c7
    have ha : ∀ i, (i < 999 ∨ 1000 ≤ i) → xgr ad 999 q i = ad i := xgr_ag (by decide)
    have ew : xw (xgr ad 999 q) ty σ lay = xw ad ty σ lay := xw_agree ha hn.2.1 hn.2.2
    have k1 := hV (xgr ad 999 q) (fun i hi => (ha i (by omega)).trans (hag i hi)) T'.heap (locs ++ L) ls (by rw [ew, e1]; exact hPx) (by rw [ew]; exact hD) hS' (by rw [xlm_agree ha hlv]; exact hl)
    have e4 : [Value.ref 999].map (xr (xgr ad 999 q)) = [.ref q] := by simp [xr, xgr]
    rw [e4] at k1
    have hcast : (Cond.castable E name).before args s = true := va_Nw.use rfl (hZ.1.2.2.2.2.2.1 _ c6)
    obtain ⟨t2, a1, b1⟩ := vx_catch (rest := rest.map (xr ad)) (pc := pc) (locs := locs ++ L) (cells := cells + 1) (slots := slots + 6) (ls := ls) (Q := Q) (p := p) (l := l) (e := e) (R := R) (below := below) (meth := meth) hown pre x suf (htab.trans c1) (fun z hz => (c2 z hz).elim Or.inl (fun h => Or.inr ⟨h.1, _, hts _ h.2.2, by rw [h.2.1]; exact hZ.1.2.2.2.2.2.2⟩)) c3 c4 (hts _ c5) hcast (by rw [e1]; exact hce) hcv hce2 k1 T' rfl X'
    exact ⟨t2, hgo.trans a1, b1⟩
end XHR
def xwsH (y : MethodName) (cc : ByteArray) (nL : Nat) (ret : Option FieldType) (hh : List (Nat × Nat × Nat × Nat)) : List Cond := .codeWith y cc nL ret hh :: lw_tbl.filter goodWord
def XMH (l : Launch) (y : MethodName) (cc : ByteArray) (nL : Nat) (ret : Option FieldType) (hh : List (Nat × Nat × Nat × Nat)) (rm : Room) (lay : List xL) (avs : List Value) (σ : xG) (Po : Option Value → xG → Prop) : Prop :=
  ∀ (D : va_G) (ty ad : Nat → Nat) (sz : Nat), Met l y (xwsH y cc nL ret hh) rm (XP D ty ad lay σ sz avs) (XQ D ty ad lay σ sz Po) rm.cells rm.slots (va_A (xw ad ty σ lay) sz)
set_option maxHeartbeats 2000000 in
theorem XMH.of {l : Launch} {y : MethodName} {cc : ByteArray} {nL : Nat} {ret : Option FieldType} {hh : List (Nat × Nat × Nat × Nat)} {rm : Room} {fl : List xFl} {kc : List (Nat × Value)} {lay : List xL} {avs : List Value} {σ : xG} {Po : Option Value → xG → Prop}
    (hy : plainName y.cls = true) (hlen : (lg_sl avs).length ≤ nL) (hlay : xlayIn lay.length lay = true) (hcl : xclOk vwCl xtb) (hfl : xflOk y.cls vwCl xtb fl) (hkc : xkcOk y.cls xtb kc)
    (body : ∀ V, XCH l y.cls y.name cc nL rm rm.cells rm.slots fl kc lay.length (fun v lay' σ' => lay' = lay ∧ xrok ret v ∧ (∀ w, v = some w → xrIn lay.length w) ∧ Po v σ') V hh → V 0 0 0 (lv_args 0 avs) [] lay σ) : XMH l y cc nL ret hh rm lay avs σ Po := by
  intro D ty ad sz
  refine va_MetW (cc := cc) (maxL := nL) (ret := ret) (hh := hh) hy rfl ?_
  intro p e s m args below meth c s₁ B hml hv
  obtain ⟨rfl, hsz, hP, hK, hD0, hZ⟩ := hv
  have hx := B.exec
  have hb := B.bytes
  have hr := B.returns
  have hts0 := atoms_spec (ws := xwsH y cc nL ret hh) B.pre
  have hts : ∀ w ∈ xtb, w.before (avs.map (xr ad)).toArray s = true := fun w h => hts0 w (List.mem_cons_of_mem _ h)
  have htab : c.exceptionTable.toList = tableOf hh := vx_table (x := y) B (hts0 _ List.mem_cons_self)
  have hown : s.vm.findClass y.cls = some m.cls := findClass_of_methodNamed B.named
  have hlocks : meth.locks = false := B.notSynchronized
  have hname : meth.name = y.name := (name_of_methodNamed B.named B.method).1
  subst hsz
  have hD := hD0.self (sz := s.heap.size)
  have hA : ∀ q : Nat, s.heap.size ≤ q → va_A (xw ad ty σ lay) s.heap.size q := fun q h => Or.inr h
  have hS : va_S (va_A (xw ad ty σ lay) s.heap.size) s.heap s.heap [] := va_S.rf
  have hl := lv_entry (avs.map (xr ad)) (n := nL) (by rw [xsl_len]; exact hlen)
  rw [lg_entry_eq]
  rw [xargs_map] at hl
  refine body _ ⟨p, e, s, m, _, below, meth, c, _, D, ty, ad, _, rfl, ⟨hx, hb, hml, hown, hts, hK, hA, hcl, hfl, hkc⟩, hname, hZ, ?_, htab⟩ ad (fun _ _ => rfl) s.heap [] _ hP hD hS hl
  intro ad' H locs ls lay' σ' pc hag hP' hD' hS'
  have key : ∀ (v : Option Value), lay' = lay ∧ xrok ret v ∧ (∀ w, v = some w → xrIn lay.length w) ∧ Po v σ' → ∀ t : State, t.heap = H → s.WarmedH t.vm → XQ D ty ad lay σ s.heap.size Po (avs.map (xr ad)).toArray s (.returned (v.map (xr ad'))) t := by
    intro v hv t ht hW
    obtain ⟨rfl, -, hin, hPo⟩ := hv
    have e1 : xw ad' ty σ' lay' = xw ad ty σ' lay' := xw_agree hag (Nat.le_refl _) hlay
    refine ⟨⟨v, σ', ?_, hPo, ?_, ?_⟩, hS'.F ht⟩
    · cases v with
      | none => rfl
      | some w => simp only [Option.map_some]; rw [xr_agree hag (hin w rfl)]
    · rw [ht, ← e1]; exact hP'
    · rw [← e1]; exact hD'
  refine ⟨fun x hd hf => ?_, fun x hd hf => ?_, fun k hd hf => ?_, fun hd hf => ?_⟩
  · cases ret with
    | none => exact absurd hf.2.1 (by simp [xrok])
    | some rt => exact W.zret (v := x) hx hb hr hf.2.1 (key _ hf) hS'.2.2 hd
  · cases ret with
    | none => exact absurd hf.2.1 (by simp [xrok])
    | some rt =>
      have h1 := hf.2.1
      cases rt <;> first | (simp [xrok] at h1; done) | exact W.lret (v := x) hx hb hr (key _ hf) hS'.2.2 hd
  · cases ret with
    | none => exact absurd hf.2.1 (by simp [xrok])
    | some rt =>
      have h1 := hf.2.1
      cases rt <;> first | (simp [xrok] at h1; done) | exact W.aret (v := .ref (ad' k)) hx hb hr (Or.inl ⟨_, rfl⟩) (Or.inr ⟨_, rfl⟩) (key _ hf) hS'.2.2 hd
  · cases ret with
    | none => exact W.vret hx hb hr (key _ hf) hS'.2.2 hd
    | some rt =>
      have h1 := hf.2.1
      cases rt <;> (simp [xrok] at h1; done)
def XYH (y : MethodName) (bytes : ByteArray) (maxL : Nat) (ret : Option FieldType) (hh : List (Nat × Nat × Nat × Nat)) (n : Nat) : Prop :=
  Cond.codeWith y bytes maxL ret hh ∈ xtb ∧ Cond.initialized y.cls ∈ xtb ∧ (y.cls ≠ "java/lang/invoke/MethodHandle" ∧ y.cls ≠ "java/lang/invoke/VarHandle" ∧ (parseMethodDescriptor y.desc).map (fun d => d.parameters.length) = some n) ∧ Cond.static y ∈ xtb
section XCALLM
variable {p : Program} {l : Launch} {e : Env} {R : Room} {s : State} {m : MethodId} {args : Array Value} {below : List Frame} {meth : Method} {c : Code} {Q : State → Prop} {D : va_G} {ty ad0 : Nat → Nat} {n0 : Nat} {A : Nat → Prop} {nL : Nat}
variable {cells slots pc mc ms : Nat} {lay : List xL} {lv : List (Nat × Value)} {st rest : List Value} {σ : xG} {Po : Option Value → xG → Prop}
theorem XV.callM {as : (Nat → Nat) → Array Value} (hA : ∀ q, s.heap.size ≤ q → A q)
    (hrun : ∀ (ad : Nat → Nat) (H : Heap) (locs : List Loc) (ls : Array Slot), (∀ i, (i < n0 ∨ 1000 ≤ i) → ad i = ad0 i) → va_P D vwCl (xw ad ty σ lay) H → va_D A (xw ad ty σ lay) → va_S A s.heap H locs → ls.size = nL →
      va_Run p l e R s m args below meth c H locs cells slots mc ms (F0 m pc ls (st.map (xr ad))) (rest.map (xr ad)) (XQ D ty ad lay σ H.size Po (as ad)) (va_A (xw ad ty σ lay) H.size))
    (kk : ∀ (v : Option Value) (σ' : xG), Po v σ' → XV p l e R s m args below meth c Q D vwCl ty ad0 n0 A nL (cells + mc) (slots + ms) (pc + 3) lv (v.toList ++ rest) lay σ') : XV p l e R s m args below meth c Q D vwCl ty ad0 n0 A nL cells slots pc lv st lay σ := by
  intro ad hag H locs ls hP hD hS hl T hT X
  obtain ⟨v0, st₀, t, T', L, h0, X', hL, e1, e2, ⟨⟨v, σ', hv, hPo, hP', hD'⟩, hF⟩, hgo⟩ := hrun ad H locs ls hag hP hD hS hl.1 T hT X
  have hv' : v0 = v.map (xr ad) := by cases hv; rfl
  subst hv'
  have hsub : ∀ q, va_A (xw ad ty σ lay) H.size q → A q := by
    intro q hq
    rcases hq with ⟨k, e9, hk⟩ | hq
    · exact hD.2 k _ hk
    · exact hA q (Nat.le_trans hS.1 hq)
  obtain ⟨-, -, hS'⟩ := vx_keep h0 e1 hS (fun q _ h => hsub q h) hsub hL hF
  have hD'' : va_D A (xw ad ty σ' lay) := hD'.weaken (fun k q _ h => hsub _ h)
  obtain ⟨t2, a1, b1⟩ := kk v σ' hPo ad hag T'.heap (locs ++ L) ls (by rw [e1]; exact hP') hD'' hS' hl T' rfl X'
  refine ⟨t2, hgo t2 ?_, b1⟩
  have e3 : (v.toList ++ rest).map (xr ad) = (v.map (xr ad)).toList ++ rest.map (xr ad) := by cases v <;> simp
  rw [e3] at a1
  exact a1
end XCALLM
section XCSW
variable {l : Launch} {own nm : String} {cc : ByteArray} {nL : Nat} {R : Room} {mc ms : Nat} {fl : List xFl} {kc : List (Nat × Value)} {n0 : Nat} {Fin : Option Value → List xL → xG → Prop} {V : XJ}
variable {cells slots pc : Nat} {lay : List xL} {lv : List (Nat × Value)} {st rest : List Value} {σ : xG} {Po : Option Value → xG → Prop}
variable {y : MethodName} {bytes : ByteArray} {maxL idx : Nat} {ret : Option FieldType} {hh : List (Nat × Nat × Nat × Nat)} {rm : Room} {avs : List Value}
theorem x_callSW (C : XC l own nm cc nL R mc ms fl kc n0 Fin V) (hM : XMH l y bytes maxL ret hh rm lay avs σ Po) (hY : XYH y bytes maxL ret hh avs.length) (hlk : Cond.methodLink own idx y ∈ xtb) (hR : rm.frames + 1 ≤ R.frames ∧ 8 + (maxL + 11) + rm.locals ≤ R.locals ∧ (rest.map fun v => v.category).sum ≤ 8) (hcs : cells + rm.cells ≤ R.cells ∧ slots + rm.slots ≤ R.slots)
    (hd : decode cc pc = .ok (.invokestatic idx, 3)) (hst : avs.reverse ++ rest = st) (kk : ∀ (v : Option Value) (σ' : xG), Po v σ' → V (cells + rm.cells) (slots + rm.slots) (pc + 3) lv (v.toList ++ rest) lay σ') : V cells slots pc lv st lay σ := by
  obtain ⟨p, e, s, m, args, below, meth, c, Q, D, ty, ad0, A, rfl, B, -, hZ, -⟩ := C
  obtain ⟨hx, hb, hml, hown, hts, hK, hA, hcl, hfl, hkc⟩ := B
  obtain ⟨y1, y2, y3, y4⟩ := hY
  subst hst
  refine XV.callM (as := fun ad => (avs.map (xr ad)).toArray) hA (fun ad H locs ls hag hP hD hS hsz => ?_) kk
  have hG : GoodIn xtb (xwsH y bytes maxL ret hh) := by
    intro w hw
    rcases List.mem_cons.mp hw with rfl | hw
    · exact ⟨y1, good_of_word (List.mem_filter.mp y1).2⟩
    · exact ⟨hw, good_of_word (List.mem_filter.mp hw).2⟩
  refine vx_runSW (As := avs.map (xr ad)) (rest := rest.map (xr ad)) (n := avs.length) (Ts := xtb) (own := own) (nL := nL) (hh := hh) ⟨hx, hb, hml, hown, hts⟩ (hM D ty ad H.size) ⟨⟨rfl, rfl, hR.1, hR.2.1, pay_in hts hG, List.mem_cons_self⟩, hts _ y1, hts _ y2, ⟨y3.1, y3.2.1⟩, fun sig h => ?_, hts _ hlk, hts _ y4⟩ ⟨XP.blind, fun U hU hW => XP.at hag hA hK hZ hP hD hS hU hW⟩ rfl (by simp) hsz (by simp [F0]) ?_ hd hcs
  · have h2 := y3.2.2
    rw [h] at h2
    exact (Option.some.inj h2).symm
  · apply lv_room
    simpa [List.map_map, Function.comp_def, xr_cat] using hR.2.2
end XCSW
