/-! CONTRACTS of methods that may throw; what throws leaves the world as it was -/
def XX (D : va_G) (ty ad : Nat → Nat) (lay : List xL) (σ : xG) (sz : Nat) (Th : String → Prop) : String → State → State → Prop := fun E st t =>
  Th E ∧ va_P D vwCl (xw ad ty σ lay) t.heap ∧ va_F (va_A (xw ad ty σ lay) sz) st t
def XMX (l : Launch) (y : MethodName) (cc : ByteArray) (nL : Nat) (ret : Option FieldType) (rm : Room) (lay : List xL) (avs : List Value) (σ : xG) (Po : Option Value → xG → Prop) (Th : String → Prop) : Prop :=
  ∀ (D : va_G) (ty ad : Nat → Nat) (sz : Nat), vx_Met l y (xws y cc nL ret) rm (XP D ty ad lay σ sz avs) (XQ D ty ad lay σ sz Po) (XX D ty ad lay σ sz Th) 1 6 (va_A (xw ad ty σ lay) sz)
/-- a place of the code where E is made and thrown -/
def xthr (cc : ByteArray) (own E : String) (ik ic pc : Nat) : Prop := decode cc pc = .ok (.new ik, 3) ∧ decode cc (pc + 3) = .ok (.dup, 1) ∧ decode cc (pc + 4) = .ok (.invokespecial ic, 3) ∧ decode cc (pc + 7) = .ok (.athrow, 1) ∧ Bundle.fit E = true ∧ (∀ w ∈ Cond.classLink own ik E :: Cond.initialized E :: vx_at0 own ic E xNm, w ∈ lw_tbl ∧ vx_ot w = true) ∧ (∀ w ∈ (vx_at0 own ic E xNm).filter (fun w => !goodWord w), w ∈ xdw) ∧ goodWord (Cond.classLink own ik E) = true ∧ goodWord (Cond.initialized E) = true
set_option maxHeartbeats 2000000 in
theorem XMX.of {l : Launch} {y : MethodName} {cc : ByteArray} {nL : Nat} {ret : Option FieldType} {rm : Room} {fl : List xFl} {kc : List (Nat × Value)} {lay : List xL} {avs : List Value} {σ : xG} {Po : Option Value → xG → Prop} {Th : String → Prop}
    (hst : l.stackTraces = false) (hy : plainName y.cls = true) (hlen : (lg_sl avs).length ≤ nL) (hlay : xlayIn lay.length lay = true) (hcl : xclOk vwCl xtb) (hfl : xflOk y.cls vwCl xtb fl) (hkc : xkcOk y.cls xtb kc)
    (hrf : 6 ≤ rm.frames) (hrl : 81 ≤ rm.locals) (hrc : 1 ≤ rm.cells) (hrs : 6 ≤ rm.slots)
    (body : ∀ V, XC l y.cls y.name cc nL rm 1 6 fl kc lay.length (fun v lay' σ' => lay' = lay ∧ xrok ret v ∧ (∀ w, v = some w → xrIn lay.length w) ∧ Po v σ') V →
      (∀ (pc ik ic : Nat) (E : String) (lv : List (Nat × Value)), xthr cc y.cls E ik ic pc → Th E → V 0 0 pc lv [] lay σ) → V 0 0 0 (lv_args 0 avs) [] lay σ) : XMX l y cc nL ret rm lay avs σ Po Th := by
  intro D ty ad sz
  refine vx_ofW (cc := cc) (maxL := nL) (ret := ret) hy rfl ?_
  intro p e s m args below meth c s₁ B hml htab hv
  obtain ⟨rfl, hsz, hP, hK, hD0, hZ⟩ := hv
  have hx := B.exec
  have hb := B.bytes
  have hr := B.returns
  have hts0 := atoms_spec (ws := xws y cc nL ret) B.pre
  have hts : ∀ w ∈ xtb, w.before (avs.map (xr ad)).toArray s = true := fun w h => hts0 w (List.mem_cons_of_mem _ h)
  have hown : s.vm.findClass y.cls = some m.cls := findClass_of_methodNamed B.named
  have hlocks : meth.locks = false := B.notSynchronized
  have hname : meth.name = y.name := (name_of_methodNamed B.named B.method).1
  subst hsz
  have hD := hD0.self (sz := s.heap.size)
  have hA : ∀ q : Nat, s.heap.size ≤ q → va_A (xw ad ty σ lay) s.heap.size q := fun q h => Or.inr h
  have hS : va_S (va_A (xw ad ty σ lay) s.heap.size) s.heap s.heap [] := va_S.rf
  have hl := lv_entry (avs.map (xr ad)) (n := nL) (by rw [xsl_len]; exact hlen)
  rw [lg_entry_eq]
  rw [xargs_map] at hl
  refine body _ ⟨p, e, s, m, _, below, meth, c, _, D, ty, ad, _, rfl, ⟨hx, hb, hml, hown, hts, hK, hA, hcl, hfl, hkc⟩, hname, hZ, ?_⟩ ?_ ad (fun _ _ => rfl) s.heap [] _ hP hD hS hl
  · intro ad' H locs ls lay' σ' pc hag hP' hD' hS'
    have key : ∀ (v : Option Value), lay' = lay ∧ xrok ret v ∧ (∀ w, v = some w → xrIn lay.length w) ∧ Po v σ' → ∀ t : State, t.heap = H → s.WarmedH t.vm → XQ D ty ad lay σ s.heap.size Po (avs.map (xr ad)).toArray s (.returned (v.map (xr ad'))) t := by
      intro v hv t ht hW
      obtain ⟨rfl, -, hin, hPo⟩ := hv
      have e1 : xw ad' ty σ' lay' = xw ad ty σ' lay' := xw_agree hag (Nat.le_refl _) hlay
      refine ⟨⟨v, σ', ?_, hPo, ?_, ?_⟩, hS'.F ht⟩
      · cases v with
        | none => rfl
        | some w => simp only [Option.map_some]; rw [xr_agree hag (hin w rfl)]
      · rw [ht, ← e1]; exact hP'
      · rw [← e1]; exact hD'
    refine ⟨fun x hd hf => ?_, fun x hd hf => ?_, fun k hd hf => ?_, fun hd hf => ?_⟩
    · cases ret with
      | none => exact absurd hf.2.1 (by simp [xrok])
      | some rt => exact vx_ret (W.zret (v := x) hx hb hr hf.2.1 (key _ hf) hS'.2.2 hd)
    · cases ret with
      | none => exact absurd hf.2.1 (by simp [xrok])
      | some rt =>
        have h1 := hf.2.1
        cases rt <;> first | (simp [xrok] at h1; done) | exact vx_ret (W.lret (v := x) hx hb hr (key _ hf) hS'.2.2 hd)
    · cases ret with
      | none => exact absurd hf.2.1 (by simp [xrok])
      | some rt =>
        have h1 := hf.2.1
        cases rt <;> first | (simp [xrok] at h1; done) | exact vx_ret (W.aret (v := .ref (ad' k)) hx hb hr (Or.inl ⟨_, rfl⟩) (Or.inr ⟨_, rfl⟩) (key _ hf) hS'.2.2 hd)
    · cases ret with
      | none => exact vx_ret (W.vret hx hb hr (key _ hf) hS'.2.2 hd)
      | some rt =>
        have h1 := hf.2.1
        cases rt <;> (simp [xrok] at h1; done)
  · intro pc ik ic E lv ht hTh ad' hag H locs ls hP' hD' hS' hl'
    obtain ⟨d0, d3, d4, d7, hfit, hw, hn, g1, g2⟩ := ht
    have e1 : xw ad' ty σ lay = xw ad ty σ lay := xw_agree hag (Nat.le_refl _) hlay
    have hwin : ∀ w ∈ Cond.classLink y.cls ik E :: Cond.initialized E :: vx_at0 y.cls ic E xNm, goodWord w = true → w.before (avs.map (xr ad)).toArray s = true := fun w h hg => hts w (List.mem_filter.mpr ⟨(hw w h).1, hg⟩)
    have hat : ∀ w ∈ vx_at0 y.cls ic E xNm, w.before (avs.map (xr ad)).toArray s = true := vx_hat (B := xdw)
      (fun w h => hwin w (List.mem_cons_of_mem _ (List.mem_cons_of_mem _ (List.mem_filter.mp h).1)) (List.mem_filter.mp h).2) hn
      (fun w h => va_Nw.use (List.all_eq_true.mp (show xdw.all Cond.onTables = true by decide +kernel) w h) (hZ.1.2.2.2.2.2.1 w h))
    rw [e1] at hP'
    exact vx_throw0 (A := va_A (xw ad ty σ lay) s.heap.size) hx hb hst hown hfit vf0.2.2.2 (hwin _ List.mem_cons_self g1) (hwin _ (List.mem_cons_of_mem _ List.mem_cons_self) g2) hat (fun w h => (hw w h).2)
      hZ.1.2.2.2.1 hZ.1.2.2.2.2.1 hS' (hl'.1.trans hml.symm) d0 d3 d4 d7 (fun x hx => (htab x hx).elim) (show 2 + 3 < rm.frames by omega) (show 0 + (13 * (2 + 1) + 42) ≤ rm.locals by omega) (show 0 + 1 ≤ rm.cells by omega) (show 0 + 6 ≤ rm.slots by omega) hlocks
      (fun t hal hsz hT => ⟨hTh, hP'.kept (fun k q hk => hT q.1 (vx_lt hP' hk)), Nat.le_trans hS'.1 hsz, fun q h1 h2 => (hT q (Nat.lt_of_lt_of_le h1 hS'.1)).trans (hS'.2.1 q h1 h2)⟩)
      hS'.2.2 (by decide) (by decide)
