def xavIn (n : Nat) (avs : List Value) : Prop := ∀ v ∈ avs, xrIn n v
set_option maxHeartbeats 2000000 in
theorem XM.of {l : Launch} {y : MethodName} {cc : ByteArray} {nL : Nat} {ret : Option FieldType} {rm : Room} {fl : List xFl} {kc : List (Nat × Value)} {lay : List xL} {avs : List Value} {σ : xG} {Po : Option Value → xG → Prop}
    (hy : plainName y.cls = true) (hlen : (lg_sl avs).length ≤ nL) (hlay : xlayIn lay.length lay = true) (hcl : xclOk vwCl xtb) (hfl : xflOk y.cls vwCl xtb fl) (hkc : xkcOk y.cls xtb kc)
    (body : ∀ V, XC l y.cls y.name cc nL rm 0 0 fl kc lay.length (fun v lay' σ' => lay' = lay ∧ xrok ret v ∧ (∀ w, v = some w → xrIn lay.length w) ∧ Po v σ') V → V 0 0 0 (lv_args 0 avs) [] lay σ) : XM l y cc nL ret rm lay avs σ Po := by
  intro D ty ad sz
  refine Met.ofW (cc := cc) (maxL := nL) (ret := ret) hy rfl ?_
  intro p e s m args below meth c s₁ B hml hv
  obtain ⟨rfl, hsz, hP, hK, hD0, hZ⟩ := hv
  have hx := B.exec
  have hb := B.bytes
  have hr := B.returns
  have hts0 := atoms_spec (ws := xws y cc nL ret) B.pre
  have hts : ∀ w ∈ xtb, w.before (avs.map (xr ad)).toArray s = true := fun w h => hts0 w (List.mem_cons_of_mem _ h)
  have hown : s.vm.findClass y.cls = some m.cls := findClass_of_methodNamed B.named
  have hlocks : meth.locks = false := B.notSynchronized
  have hname : meth.name = y.name := (name_of_methodNamed B.named B.method).1
  subst hsz
  have hD := hD0.self (sz := s.heap.size)
  have hA : ∀ q : Nat, s.heap.size ≤ q → va_A (xw ad ty σ lay) s.heap.size q := fun q h => Or.inr h
  have hS : va_S (va_A (xw ad ty σ lay) s.heap.size) s.heap s.heap [] := va_S.rf
  have hl := lv_entry (avs.map (xr ad)) (n := nL) (by rw [xsl_len]; exact hlen)
  rw [lg_entry_eq]
  rw [xargs_map] at hl
  refine body _ ⟨p, e, s, m, _, below, meth, c, _, D, ty, ad, _, rfl, ⟨hx, hb, hml, hown, hts, hK, hA, hcl, hfl, hkc⟩, hname, hZ, ?_⟩ ad (fun _ _ => rfl) s.heap [] _ hP hD hS hl
  intro ad' H locs ls lay' σ' pc hag hP' hD' hS'
  have key : ∀ (v : Option Value), lay' = lay ∧ xrok ret v ∧ (∀ w, v = some w → xrIn lay.length w) ∧ Po v σ' → ∀ t : State, t.heap = H → s.WarmedH t.vm → XQ D ty ad lay σ s.heap.size Po (avs.map (xr ad)).toArray s (.returned (v.map (xr ad'))) t := by
    intro v hv t ht hW
    obtain ⟨rfl, -, hin, hPo⟩ := hv
    have e1 : xw ad' ty σ' lay' = xw ad ty σ' lay' := xw_agree hag (Nat.le_refl _) hlay
    refine ⟨⟨v, σ', ?_, hPo, ?_, ?_⟩, hS'.F ht⟩
    · cases v with
      | none => rfl
      | some w => simp only [Option.map_some]; rw [xr_agree hag (hin w rfl)]
    · rw [ht, ← e1]; exact hP'
    · rw [← e1]; exact hD'
  refine ⟨fun x hd hf => ?_, fun x hd hf => ?_, fun k hd hf => ?_, fun hd hf => ?_⟩
  · cases ret with
    | none => exact absurd hf.2.1 (by simp [xrok])
    | some rt => exact W.zret (v := x) hx hb hr hf.2.1 (key _ hf) hS'.2.2 hd
  · cases ret with
    | none => exact absurd hf.2.1 (by simp [xrok])
    | some rt =>
      have h1 := hf.2.1
      cases rt <;> first | (simp [xrok] at h1; done) | exact W.lret (v := x) hx hb hr (key _ hf) hS'.2.2 hd
  · cases ret with
    | none => exact absurd hf.2.1 (by simp [xrok])
    | some rt =>
      have h1 := hf.2.1
      cases rt <;> first | (simp [xrok] at h1; done) | exact W.aret (v := .ref (ad' k)) hx hb hr (Or.inl ⟨_, rfl⟩) (Or.inr ⟨_, rfl⟩) (key _ hf) hS'.2.2 hd
  · cases ret with
    | none => exact W.vret hx hb hr (key _ hf) hS'.2.2 hd
    | some rt =>
      have h1 := hf.2.1
      cases rt <;> (simp [xrok] at h1; done)
/-! calls -/
section XCALL
variable {p : Program} {l : Launch} {e : Env} {R : Room} {s : State} {m : MethodId} {args : Array Value} {below : List Frame} {meth : Method} {c : Code} {Q : State → Prop} {D : va_G} {ty ad0 : Nat → Nat} {n0 : Nat} {A : Nat → Prop} {nL : Nat}
variable {cells slots pc : Nat} {lay : List xL} {lv : List (Nat × Value)} {st rest : List Value} {σ : xG} {Po : Option Value → xG → Prop}
theorem XV.call {as : (Nat → Nat) → Array Value} (hA : ∀ q, s.heap.size ≤ q → A q)
    (hrun : ∀ (ad : Nat → Nat) (H : Heap) (locs : List Loc) (ls : Array Slot), (∀ i, (i < n0 ∨ 1000 ≤ i) → ad i = ad0 i) → va_P D vwCl (xw ad ty σ lay) H → va_D A (xw ad ty σ lay) → va_S A s.heap H locs → ls.size = nL →
      va_Run p l e R s m args below meth c H locs cells slots 0 0 (F0 m pc ls (st.map (xr ad))) (rest.map (xr ad)) (XQ D ty ad lay σ H.size Po (as ad)) (va_A (xw ad ty σ lay) H.size))
    (kk : ∀ (v : Option Value) (σ' : xG), Po v σ' → XV p l e R s m args below meth c Q D vwCl ty ad0 n0 A nL cells slots (pc + 3) lv (v.toList ++ rest) lay σ') : XV p l e R s m args below meth c Q D vwCl ty ad0 n0 A nL cells slots pc lv st lay σ := by
  intro ad hag H locs ls hP hD hS hl T hT X
  obtain ⟨v0, st₀, t, T', L, h0, X', hL, e1, e2, ⟨⟨v, σ', hv, hPo, hP', hD'⟩, hF⟩, hgo⟩ := hrun ad H locs ls hag hP hD hS hl.1 T hT X
  have hv' : v0 = v.map (xr ad) := by cases hv; rfl
  subst hv'
  have hsub : ∀ q, va_A (xw ad ty σ lay) H.size q → A q := by
    intro q hq
    rcases hq with ⟨k, e9, hk⟩ | hq
    · exact hD.2 k _ hk
    · exact hA q (Nat.le_trans hS.1 hq)
  have hS' : va_S A s.heap t.heap (locs ++ L) := by
    obtain ⟨f1, f2⟩ := hF
    rw [h0] at f1 f2
    refine ⟨Nat.le_trans hS.1 f1, fun q h1 h2 => ?_, fun z hz => ?_⟩
    · rw [f2 q (Nat.lt_of_lt_of_le h1 hS.1) (fun h3 => h2 (hsub q h3))]
      exact hS.2.1 q h1 h2
    · rcases List.mem_append.mp hz with h3 | h3
      · exact hS.2.2 z h3
      · exact hsub _ (hL z h3)
  have hD'' : va_D A (xw ad ty σ' lay) := hD'.weaken (fun k q _ h => hsub _ h)
  obtain ⟨t2, a1, b1⟩ := kk v σ' hPo ad hag t.heap (locs ++ L) ls hP' hD'' hS' hl T' e1 X'
  refine ⟨t2, hgo t2 ?_, b1⟩
  have e3 : (v.toList ++ rest).map (xr ad) = (v.map (xr ad)).toList ++ rest.map (xr ad) := by cases v <;> simp
  rw [e3] at a1
  exact a1
theorem XP.blind {sz : Nat} {ad : Nat → Nat} {avs : List Value} : FrameBlind (XP D ty ad lay σ sz avs) := by
  intro a U g mk h
  obtain ⟨h1, h2, h3, h4, h5, h6⟩ := h
  exact ⟨h1, h2, h3, va_K.moved (u := U) (U := U.calling g mk a) (Vm.Alike.refl U.vm) h4, h5, XZ.same (u := U) (U := U.calling g mk a) rfl h6⟩
theorem XP.at {ad : Nat → Nat} {H : Heap} {locs : List Loc} {U : State} {avs : List Value} (hag : ∀ i, (i < n0 ∨ 1000 ≤ i) → ad i = ad0 i) (hA : ∀ q, s.heap.size ≤ q → A q) (hK : va_K D vwCl (xtys ty) s) (hZ : XZ ad0 A s s.heap) (hP : va_P D vwCl (xw ad ty σ lay) H) (hD : va_D A (xw ad ty σ lay)) (hS : va_S A s.heap H locs) (hU : U.heap = H) (hW : s.WarmedH U.vm) : XP D ty ad lay σ H.size avs (avs.map (xr ad)).toArray U := by
  refine ⟨rfl, by rw [hU], by rw [hU]; exact hP, va_K.moved hW.alike hK, hD.weaken (fun _ _ _ _ => trivial), ?_⟩
  have h1 : XZ ad A s s.heap := hZ.ad (fun i hi => hag i (Or.inr hi))
  have h2 : XZ ad A s H := h1.kept (fun a ha hn => hS.2.1 a ha hn)
  rw [hU]
  refine (h2.warm hW).narrow ?_
  intro q hq
  rcases hq with ⟨k, e9, hk⟩ | hq
  · exact hD.2 k _ hk
  · exact hA q (Nat.le_trans hS.1 hq)
end XCALL
/-- a method's own words: static (0), of an object (1), a constructor (2) -/
def XY (y : MethodName) (bytes : ByteArray) (maxL : Nat) (ret : Option FieldType) (n kind : Nat) : Prop :=
  Cond.code y bytes maxL ret ∈ lw_tbl ∧ Cond.initialized y.cls ∈ xtb ∧ (y.cls ≠ "java/lang/invoke/MethodHandle" ∧ y.cls ≠ "java/lang/invoke/VarHandle" ∧ (parseMethodDescriptor y.desc).map (fun d => d.parameters.length) = some n) ∧
  (kind = 0 → Cond.static y ∈ xtb) ∧ (kind = 1 → Cond.instanceMethod y ∈ xtb ∧ Cond.selects y.cls y y ∈ xtb) ∧ (kind = 2 → Cond.instanceMethod y ∈ xtb ∧ y.name = "<init>")
section XCC
variable {l : Launch} {own nm : String} {cc : ByteArray} {nL : Nat} {R : Room} {mc ms : Nat} {fl : List xFl} {kc : List (Nat × Value)} {n0 : Nat} {Fin : Option Value → List xL → xG → Prop} {V : XJ}
variable {cells slots pc : Nat} {lay : List xL} {lv : List (Nat × Value)} {st rest : List Value} {σ : xG} {Po : Option Value → xG → Prop}
variable {y : MethodName} {bytes : ByteArray} {maxL idx n : Nat} {ret : Option FieldType} {rm : Room} {avs : List Value}
def xroom (R rm : Room) (maxL cells slots : Nat) (rest : List Value) : Bool := decide (rm.cells = 0) && decide (rm.slots = 0) && decide (rm.frames + 1 ≤ R.frames) && decide (8 + (maxL + 11) + rm.locals ≤ R.locals) && decide ((rest.map fun v => v.category).sum ≤ 8)
theorem x_callS (C : XC l own nm cc nL R mc ms fl kc n0 Fin V) (hM : XM l y bytes maxL ret rm lay avs σ Po) (hY : XY y bytes maxL ret avs.length 0) (hlk : Cond.methodLink own idx y ∈ xtb) (hR : xroom R rm maxL cells slots rest = true) (hcs : cells ≤ R.cells ∧ slots ≤ R.slots)
    (hd : decode cc pc = .ok (.invokestatic idx, 3)) (hst : avs.reverse ++ rest = st) (kk : ∀ (v : Option Value) (σ' : xG), Po v σ' → V cells slots (pc + 3) lv (v.toList ++ rest) lay σ') : V cells slots pc lv st lay σ := by
  obtain ⟨p, e, s, m, args, below, meth, c, Q, D, ty, ad0, A, rfl, B, -, hZ, -⟩ := C
  obtain ⟨hx, hb, hml, hown, hts, hK, hA, hcl, hfl, hkc⟩ := B
  obtain ⟨y1, y2, y3, y4, -, -⟩ := hY
  simp only [xroom, Bool.and_eq_true, decide_eq_true_eq] at hR
  obtain ⟨⟨⟨⟨r1, r2⟩, r3⟩, r4⟩, r5⟩ := hR
  subst hst
  refine XV.call (as := fun ad => (avs.map (xr ad)).toArray) hA (fun ad H locs ls hag hP hD hS hsz => ?_) kk
  have hts' : ∀ w ∈ xws y bytes maxL ret, w ∈ lw_tbl := fun w h => (x_good y1 w h).1
  have hcw : Cond.code y bytes maxL ret ∈ xtb := List.mem_filter.mpr ⟨y1, rfl⟩
  have hG : GoodIn xtb (xws y bytes maxL ret) := by
    intro w hw
    rcases List.mem_cons.mp hw with rfl | hw
    · exact ⟨hcw, Or.inl rfl⟩
    · exact ⟨hw, good_of_word (List.mem_filter.mp hw).2⟩
  refine va_runS (As := avs.map (xr ad)) (rest := rest.map (xr ad)) (n := avs.length) (Ts := xtb) (own := own) (nL := nL) ⟨hx, hb, hml, hown, hts⟩ (hM D ty ad H.size) ⟨callB_of avs.length hts hG rfl r1 r2 (hts _ y2) (hts _ hlk) y3 ⟨r3, r4⟩, hts _ (y4 rfl)⟩ ⟨XP.blind, fun U hU hW => XP.at hag hA hK hZ hP hD hS hU hW⟩ rfl (by simp) hsz (by simp) ?_ hd ⟨hcs.1, hcs.2⟩
  apply lv_room
  simpa [List.map_map, Function.comp_def, xr_cat] using r5
theorem x_callV (C : XC l own nm cc nL R mc ms fl kc n0 Fin V) {k ci : Nat} {fs : List (Option Value)} {r : vw_C} (hM : XM l y bytes maxL ret rm lay (.ref k :: avs) σ Po) (hY : XY y bytes maxL ret avs.length 1) (hlk : Cond.methodLink own idx y ∈ xtb) (hk : lay[k]? = some (.inr (ci, fs))) (hc : vwCl[ci]? = some r) (hrc : r.1 = y.cls) (hR : xroom R rm maxL cells slots rest = true) (hcs : cells ≤ R.cells ∧ slots ≤ R.slots)
    (hd : decode cc pc = .ok (.invokevirtual idx, 3)) (hst : avs.reverse ++ .ref k :: rest = st) (kk : ∀ (v : Option Value) (σ' : xG), Po v σ' → V cells slots (pc + 3) lv (v.toList ++ rest) lay σ') : V cells slots pc lv st lay σ := by
  obtain ⟨p, e, s, m, args, below, meth, c, Q, D, ty, ad0, A, rfl, B, -, hZ, -⟩ := C
  obtain ⟨hx, hb, hml, hown, hts, hK, hA, hcl, hfl, hkc⟩ := B
  obtain ⟨y1, y2, y3, -, y5, -⟩ := hY
  simp only [xroom, Bool.and_eq_true, decide_eq_true_eq] at hR
  obtain ⟨⟨⟨⟨r1, r2⟩, r3⟩, r4⟩, r5⟩ := hR
  subst hst
  refine XV.call (as := fun ad => ((Value.ref k :: avs).map (xr ad)).toArray) hA (fun ad H locs ls hag hP hD hS hsz => ?_) kk
  have hcw : Cond.code y bytes maxL ret ∈ xtb := List.mem_filter.mpr ⟨y1, rfl⟩
  have hG : GoodIn xtb (xws y bytes maxL ret) := by
    intro w hw
    rcases List.mem_cons.mp hw with rfl | hw
    · exact ⟨hcw, Or.inl rfl⟩
    · exact ⟨hw, good_of_word (List.mem_filter.mp hw).2⟩
  have hrv := va_recv hK hP hc (xw_at (ad := ad) (ty := ty) (σ := σ) hk)
  rw [hrc] at hrv
  refine va_runV (As := avs.map (xr ad)) (b := ad k) (C := y.cls) (rest := rest.map (xr ad)) (n := avs.length) (Ts := xtb) (own := own) (nL := nL) ⟨hx, hb, hml, hown, hts⟩ (hM D ty ad H.size) ⟨callB_of avs.length hts hG rfl r1 r2 (hts _ y2) (hts _ hlk) y3 ⟨r3, r4⟩, hts _ (y5 rfl).1, hts _ (y5 rfl).2⟩ ⟨XP.blind, hrv, fun U hU hW => XP.at (avs := Value.ref k :: avs) hag hA hK hZ hP hD hS hU hW⟩ rfl (by simp) hsz (by simp [xr]) ?_ hd ⟨hcs.1, hcs.2⟩
  apply lv_room
  simpa [List.map_map, Function.comp_def, xr_cat] using r5
/-- a private static method of the host -/
theorem x_callSN (C : XC l own nm cc nL R mc ms fl kc n0 Fin V) {host : String} (hM : XM l y bytes maxL ret rm lay avs σ Po) (hY : XY y bytes maxL ret avs.length 0) (hlk : (own, idx, y, host) ∈ nst) (hR : xroom R rm maxL cells slots rest = true) (hcs : cells ≤ R.cells ∧ slots ≤ R.slots)
    (hd : decode cc pc = .ok (.invokestatic idx, 3)) (hst : avs.reverse ++ rest = st) (kk : ∀ (v : Option Value) (σ' : xG), Po v σ' → V cells slots (pc + 3) lv (v.toList ++ rest) lay σ') : V cells slots pc lv st lay σ := by
  obtain ⟨p, e, s, m, args, below, meth, c, Q, D, ty, ad0, A, rfl, B, -, hZ, -⟩ := C
  obtain ⟨hx, hb, hml, hown, hts, hK, hA, hcl, hfl, hkc⟩ := B
  obtain ⟨y1, y2, y3, y4, -, -⟩ := hY
  simp only [xroom, Bool.and_eq_true, decide_eq_true_eq] at hR
  obtain ⟨⟨⟨⟨r1, r2⟩, r3⟩, r4⟩, r5⟩ := hR
  subst hst
  refine XV.call (as := fun ad => (avs.map (xr ad)).toArray) hA (fun ad H locs ls hag hP hD hS hsz => ?_) kk
  have hcw : Cond.code y bytes maxL ret ∈ xtb := List.mem_filter.mpr ⟨y1, rfl⟩
  have hG : GoodIn xtb (xws y bytes maxL ret) := by
    intro w hw
    rcases List.mem_cons.mp hw with rfl | hw
    · exact ⟨hcw, Or.inl rfl⟩
    · exact ⟨hw, good_of_word (List.mem_filter.mp hw).2⟩
  refine va_runSN (As := avs.map (xr ad)) (rest := rest.map (xr ad)) (n := avs.length) (Ts := xtb) (own := own) (host := host) (nL := nL) ⟨hx, hb, hml, hown, hts⟩ (hM D ty ad H.size) ⟨va_cnB avs.length hts hG rfl r1 r2 (hZ.2 _ hlk) (hts _ y2) y3 ⟨r3, r4⟩, hts _ (y4 rfl), trivial⟩ ⟨XP.blind, fun U hU hW => XP.at hag hA hK hZ hP hD hS hU hW⟩ rfl (by simp) hsz (by simp) ?_ hd ⟨hcs.1, hcs.2⟩
  apply lv_room
  simpa [List.map_map, Function.comp_def, xr_cat] using r5
end XCC
