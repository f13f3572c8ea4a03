/-! the enum's constants, the switches' table, arraycopy -/
theorem x_rg_rem {a b : Int} {x y : Int32} {k : Nat} (h : xrg a b x) (h0 : 0 ≤ a) (hy : y = nI k) (hk : 0 < k ∧ k < 2 ^ 31) : xrg 0 ((k : Int) - 1) (x - x / y * y) := by
  obtain ⟨h1, h2⟩ := h
  have hn : ¬ x < 0 := by
    rw [x_lt]
    have e0 : (0 : Int32).toInt = 0 := by decide
    rw [e0]
    omega
  obtain ⟨j, hj, rfl⟩ := nI_of hn
  subst hy
  rw [pk_rem hj hk.1 hk.2]
  have hm : j % k < k := Nat.mod_lt _ hk.1
  have e : (nI (j % k)).toInt = ((j % k : Nat) : Int) := nI_toInt (by omega)
  exact ⟨by rw [e]; omega, by rw [e]; omega⟩
theorem opN_len : opN.length = 66 := by decide +kernel
theorem opP_all : ∀ o : Fin 66, opP.getD o.val 0 = 0 ∨ opP.getD o.val 0 = 1 := by decide +kernel
theorem opP_rg {o : Nat} (h : o < 66) : xrg 0 1 (opP.getD o 0) := by
  rcases opP_all ⟨o, h⟩ with e | e
  · rw [show opP.getD o 0 = 0 from e]; exact ⟨by decide, by decide⟩
  · rw [show opP.getD o 0 = 1 from e]; exact ⟨by decide, by decide⟩
theorem opO_all : ∀ o : Fin 66, opO.getD o.val 0 = nI o.val := by decide +kernel
theorem opO_at {o : Nat} (h : o < 66) : opO.getD o 0 = nI o := opO_all ⟨o, h⟩
/-- one array copied over another -/
def xcp (M : St) (a b : Nat) : St := va_up M b (va_cpy (M a) (M b) 0 0 19)
theorem xw_cp {ad ty : Nat → Nat} {M : St} {L : Nat → Nat → Int64} {lay : List xL} {i a n t : Nat} (h : lay[i]? = some (.inl (t, n))) (ht : t ≠ 1) :
    (xw ad ty (M, L) lay).set i (ad i, .inl (ty t, n, .inl (va_cpy (M a) (M i) 0 0 19))) = xw ad ty (xcp M a i, L) lay := by
  apply List.ext_getElem?
  intro k
  by_cases hk : i = k
  · subst hk
    have hl : i < lay.length := (List.getElem?_eq_some_iff.mp h).1
    have hl2 : i < (xw ad ty (M, L) lay).length := by simp [xw, hl]
    rw [List.getElem?_set_self hl2, xw_at h]
    simp [xcell, xcp, va_up_self, ht]
  · rw [List.getElem?_set_ne hk]
    simp only [xw, List.getElem?_mapIdx]
    cases hc : lay[k]? with
    | none => rfl
    | some c =>
      have hk' : k ≠ i := fun z => hk z.symm
      cases c <;> simp [xcell, xcp, va_up_ne _ _ hk']
theorem Inv.cp {I : List (Nat × Nat × Int × Int)} {M : St} (h : Inv I M) (a b : Nat) (hn : I.all (fun q => decide (q.1 ≠ b)) = true) : Inv I (xcp M a b) := by
  intro q hq
  have h1 := List.all_eq_true.mp hn q hq
  simp only [decide_eq_true_eq] at h1
  show xrg _ _ (va_up M b _ q.1 q.2.1)
  rw [va_up_ne _ _ h1]
  exact h q hq
section XEN
variable {l : Launch} {own nm : String} {cc : ByteArray} {nL : Nat} {R : Room} {mc ms : Nat} {fl : List xFl} {kc : List (Nat × Value)} {n0 : Nat} {Fin : Option Value → List xL → xG → Prop} {V : XJ}
variable {cells slots pc : Nat} {lay : List xL} {lv lv' : List (Nat × Value)} {st st' rest : List Value} {σ σ' : xG} {idx : Nat}
theorem x_getE (C : XC l own nm cc nL R mc ms fl kc n0 Fin V) (k : Nat) (hk : k < 66) (hlk : Cond.fieldLink own idx RX5 (opN.getD k "") "LSupervisorMachine$Op;" ∈ xtb) (hd : decode cc pc = .ok (.getstatic idx, 3)) (kk : V cells slots (pc + 3) lv (.ref (1000 + k) :: st) lay σ) : V cells slots pc lv st lay σ := by
  obtain ⟨p, e, s, m, args, below, meth, c, Q, D, ty, ad0, A, rfl, B, -, hZ, -⟩ := C
  intro ad hag H locs ls hP hD hS hl
  have hz := (hZ.1.1.1 k (by rw [opN_len]; exact hk)).1
  have e1 : ad (1000 + k) = ad0 (1000 + k) := hag _ (Or.inr (Nat.le_add_right _ _))
  have := kk ad hag H locs ls hP hD hS hl
  simp only [List.map_cons, xr, e1] at this
  exact va_gets B.1 B.2.1 hz hS B.2.2.2.1 (B.2.2.2.2.1 _ hlk) (fun x hx => hx) hd this
theorem x_getSw (C : XC l own nm cc nL R mc ms fl kc n0 Fin V) (hlk : Cond.fieldLink own idx RX0 "$SwitchMap$SupervisorMachine$Op" "[I" ∈ xtb) (hd : decode cc pc = .ok (.getstatic idx, 3)) (kk : V cells slots (pc + 3) lv (.ref 2000 :: st) lay σ) : V cells slots pc lv st lay σ := by
  obtain ⟨p, e, s, m, args, below, meth, c, Q, D, ty, ad0, A, rfl, B, -, hZ, -⟩ := C
  intro ad hag H locs ls hP hD hS hl
  have e1 : ad 2000 = ad0 2000 := hag _ (Or.inr (by decide))
  have := kk ad hag H locs ls hP hD hS hl
  simp only [List.map_cons, xr, e1] at this
  exact va_gets B.1 B.2.1 hZ.1.2.1 hS B.2.2.2.1 (B.2.2.2.2.1 _ hlk) (fun x hx => hx) hd this
theorem x_swld (C : XC l own nm cc nL R mc ms fl kc n0 Fin V) {o : Nat} (ho : o < 66) (hd : decode cc pc = .ok (.iaload, 1)) (kk : V cells slots (pc + 1) lv (.int (opS.getD o 0) :: st) lay σ) : V cells slots pc lv (.int (nI o) :: .ref 2000 :: st) lay σ := by
  obtain ⟨p, e, s, m, args, below, meth, c, Q, D, ty, ad0, A, rfl, B, -, hZ, -⟩ := C
  intro ad hag H locs ls hP hD hS hl
  have e1 : ad 2000 = ad0 2000 := hag _ (Or.inr (by decide))
  have := kk ad hag H locs ls hP hD hS hl
  have hT := hZ.1.2.2.1
  rw [← e1] at hT
  refine va_ti B.1 B.2.1 hT hS (i := nI o) (vp_in_nI ho (by decide)) (v := .int (opS.getD o 0)) ?_ hd this
  rw [nI_clamp (by omega)]
theorem x_getEF (C : XC l own nm cc nL R mc ms fl kc n0 Fin V) {o : Nat} (ho : o < 66) (hlk : Cond.fieldLink own idx RX5 "isPrivileged" "Z" ∈ xtb) (hd : decode cc pc = .ok (.getfield idx, 3)) (kk : V cells slots (pc + 3) lv (.int (opP.getD o 0) :: st) lay σ) : V cells slots pc lv (.ref (1000 + o) :: st) lay σ := by
  obtain ⟨p, e, s, m, args, below, meth, c, Q, D, ty, ad0, A, rfl, B, -, hZ, -⟩ := C
  intro ad hag H locs ls hP hD hS hl
  have e1 : ad (1000 + o) = ad0 (1000 + o) := hag _ (Or.inr (Nat.le_add_right _ _))
  have := kk ad hag H locs ls hP hD hS hl
  simp only [List.map_cons, xr, e1]
  exact va_getE B.1 B.2.1 hZ.1.1 (i := o) (by rw [opN_len]; exact ho) hS B.2.2.2.1 (q := (RX5, "isPrivileged", "Z", opP)) (List.mem_of_getElem? (i := 1) rfl) (B.2.2.2.2.1 _ hlk) (fun x hx => hx) hd this
theorem x_getEO (C : XC l own nm cc nL R mc ms fl kc n0 Fin V) {o : Nat} (ho : o < 66) (hlk : Cond.fieldLink own idx "java/lang/Enum" "ordinal" "I" ∈ xtb) (hd : decode cc pc = .ok (.getfield idx, 3)) (kk : V cells slots (pc + 3) lv (.int (opO.getD o 0) :: st) lay σ) : V cells slots pc lv (.ref (1000 + o) :: st) lay σ := by
  obtain ⟨p, e, s, m, args, below, meth, c, Q, D, ty, ad0, A, rfl, B, -, hZ, -⟩ := C
  intro ad hag H locs ls hP hD hS hl
  have e1 : ad (1000 + o) = ad0 (1000 + o) := hag _ (Or.inr (Nat.le_add_right _ _))
  have := kk ad hag H locs ls hP hD hS hl
  simp only [List.map_cons, xr, e1]
  exact va_getE B.1 B.2.1 hZ.1.1 (i := o) (by rw [opN_len]; exact ho) hS B.2.2.2.1 (q := ("java/lang/Enum", "ordinal", "I", opO)) (List.mem_of_getElem? (i := 0) rfl) (B.2.2.2.2.1 _ hlk) (fun x hx => hx) hd this
theorem x_acmp_eq (C : XC l own nm cc nL R mc ms fl kc n0 Fin V) {a b : Nat} (ha : a < 66) (hb : b < 66) {off : Int} {tgt : Nat} (hd : decode cc pc = .ok (.if_acmp .eq off, 3)) (ht : (pc : Int) + off = (tgt : Int)) (kt : a = b → V cells slots tgt lv st lay σ) (kf : ¬ a = b → V cells slots (pc + 3) lv st lay σ) : V cells slots pc lv (.ref (1000 + b) :: .ref (1000 + a) :: st) lay σ := by
  obtain ⟨p, e, s, m, args, below, meth, c, Q, D, ty, ad0, A, rfl, B, -, hZ, -⟩ := C
  intro ad hag H locs ls hP hD hS hl
  have e1 : ∀ q, ad (1000 + q) = ad0 (1000 + q) := fun q => hag _ (Or.inr (Nat.le_add_right _ _))
  have hinj := hZ.1.1.2 a b (by rw [opN_len]; exact ha) (by rw [opN_len]; exact hb)
  refine lv_acmp_eq (rx := some (ad (1000 + a))) (ry := some (ad (1000 + b))) B.1 B.2.1 hd ht (fun h => kt ?_ ad hag H locs ls hP hD hS hl) (fun h => kf ?_ ad hag H locs ls hP hD hS hl)
  · have h2 := Option.some.inj h
    rw [e1, e1] at h2
    exact hinj h2
  · intro h2
    subst h2
    exact h rfl
theorem x_acmp_ne (C : XC l own nm cc nL R mc ms fl kc n0 Fin V) {a b : Nat} (ha : a < 66) (hb : b < 66) {off : Int} {tgt : Nat} (hd : decode cc pc = .ok (.if_acmp .ne off, 3)) (ht : (pc : Int) + off = (tgt : Int)) (kt : ¬ a = b → V cells slots tgt lv st lay σ) (kf : a = b → V cells slots (pc + 3) lv st lay σ) : V cells slots pc lv (.ref (1000 + b) :: .ref (1000 + a) :: st) lay σ := by
  obtain ⟨p, e, s, m, args, below, meth, c, Q, D, ty, ad0, A, rfl, B, -, hZ, -⟩ := C
  intro ad hag H locs ls hP hD hS hl
  have e1 : ∀ q, ad (1000 + q) = ad0 (1000 + q) := fun q => hag _ (Or.inr (Nat.le_add_right _ _))
  have hinj := hZ.1.1.2 a b (by rw [opN_len]; exact ha) (by rw [opN_len]; exact hb)
  refine lv_acmp_ne (rx := some (ad (1000 + a))) (ry := some (ad (1000 + b))) B.1 B.2.1 hd ht (fun h => kt ?_ ad hag H locs ls hP hD hS hl) (fun h => kf ?_ ad hag H locs ls hP hD hS hl)
  · intro h2
    subst h2
    exact h rfl
  · have h2 := Option.some.inj h
    rw [e1, e1] at h2
    exact hinj h2
theorem x_acopy (C : XC l own nm cc nL R mc ms fl kc n0 Fin V) {a b : Nat} {M : St} {L : Nat → Nat → Int64} (hlk : Cond.methodLink own idx arraycopyName ∈ xtb) (hla : lay[a]? = some (.inl (0, 19))) (hlb : lay[b]? = some (.inl (0, 19))) (hR : 1 ≤ R.frames ∧ nativeFrameWords "java/lang/System" "arraycopy" 5 + 11 ≤ R.locals) (hw : Cond.native arraycopyName ∈ xtb ∧ Cond.static arraycopyName ∈ xtb ∧ Cond.initialized "java/lang/System" ∈ xtb) (hd : decode cc pc = .ok (.invokestatic idx, 3)) (kk : V cells slots (pc + 3) lv [] lay (xcp M a b, L)) : V cells slots pc lv [.int 19, .int 0, .ref b, .int 0, .ref a] lay (M, L) := by
  obtain ⟨p, e, s, m, args, below, meth, c, Q, D, ty, ad0, A, rfl, B, -, hZ, -⟩ := C
  obtain ⟨hx, hb, hml, hown, hts, hK, hA, hcl, hfl, hkc⟩ := B
  intro ad hag H locs ls hP hD hS hl
  have hat := xw_at (ad := ad) (ty := ty) (σ := (M, L)) hla
  have hbt := xw_at (ad := ad) (ty := ty) (σ := (M, L)) hlb
  refine va_copyi hx hb (hml.trans hl.1.symm) hown (hts _ hlk) (hts _ hw.1) (hts _ hw.2.1) (hts _ hw.2.2) hK hP hD hS a b 0 0 (c0 := ty 0) (c1 := ty 0) (n0 := 19) (n1 := 19) (f := M a) (g := M b) (ty := .int) (by rw [hat]; rfl) (by rw [hbt]; rfl) rfl rfl rfl (by decide) (by decide) (by decide) (by decide) (by decide) (fun _ _ => rfl) hR.1 (by simpa using hR.2) hd (fun H1 locs1 hP1 hD1 hS1 => ?_)
  have e1 := xw_cp (ad := ad) (ty := ty) (M := M) (L := L) (a := a) hlb (by decide)
  have e2 : (0 : Int32).toNatClampNeg = 0 := by decide
  have e3 : (19 : Int32).toNatClampNeg = 19 := by decide
  rw [e2, e3, e1] at hP1 hD1
  exact kk ad hag H1 locs1 ls hP1 hD1 hS1 hl
/-- Op.ordinal(), inherited -/
theorem x_callU (C : XC l own nm cc nL R mc ms fl kc n0 Fin V) {o : Nat} {x y : MethodName} {bytes : ByteArray} {rm : Room} {Po : Option Value → xG → Prop} (ho : o < 66) (hM : XM l y bytes 1 (some .int) rm lay [.ref (1000 + o)] σ Po) (hcode : Cond.code y bytes 1 (some .int) ∈ lw_tbl) (hws : ∀ w ∈ ([.methodLink own idx x, .sameMethod x.cls "java/lang/Enum" x.name x.desc, .selects RX5 x y, .instanceMethod y, .initialized y.cls] : List Cond), w ∈ xtb) (hyx : y = ⟨"java/lang/Enum", x.name, x.desc⟩) (hd0 : (parseMethodDescriptor x.desc).map (fun d => d.parameters.length) = some 0) (hR : xroom R rm 1 cells slots rest = true) (hcs : cells ≤ R.cells ∧ slots ≤ R.slots)
    (hd : decode cc pc = .ok (.invokevirtual idx, 3)) (kk : ∀ (v : Option Value) (σ' : xG), Po v σ' → V cells slots (pc + 3) lv (v.toList ++ rest) lay σ') : V cells slots pc lv (.ref (1000 + o) :: rest) lay σ := by
  obtain ⟨p, e, s, m, args, below, meth, c, Q, D, ty, ad0, A, rfl, B, -, hZ, -⟩ := C
  obtain ⟨hx, hb, hml, hown, hts, hK, hA, hcl, hfl, hkc⟩ := B
  simp only [xroom, Bool.and_eq_true, decide_eq_true_eq] at hR
  obtain ⟨⟨⟨⟨r1, r2⟩, r3⟩, r4⟩, r5⟩ := hR
  refine XV.call (as := fun ad => ([Value.ref (1000 + o)].map (xr ad)).toArray) hA (fun ad H locs ls hag hP hD hS hsz => ?_) kk
  have hcw : Cond.code y bytes 1 (some .int) ∈ xtb := List.mem_filter.mpr ⟨hcode, rfl⟩
  have hG : GoodIn xtb (va_wsU own idx RX5 "java/lang/Enum" x y (xws y bytes 1 (some .int))) := by
    intro w hw
    rcases List.mem_append.mp hw with hw | hw
    · have h1 := hws w hw
      exact ⟨h1, good_of_word (List.mem_filter.mp h1).2⟩
    · rcases List.mem_cons.mp hw with rfl | hw
      · exact ⟨hcw, Or.inl rfl⟩
      · exact ⟨hw, good_of_word (List.mem_filter.mp hw).2⟩
  have e1 : ad (1000 + o) = ad0 (1000 + o) := hag _ (Or.inr (Nat.le_add_right _ _))
  have hrv := va_recvE hZ.1.1 (i := o) (by rw [opN_len]; exact ho) hS
  rw [← e1] at hrv
  refine va_runU (As := []) (b := ad (1000 + o)) (C := RX5) (rest := rest.map (xr ad)) (n := 0) (Ts := xtb) (own := own) (owner := "java/lang/Enum") (nL := nL) ⟨hx, hb, hml, hown, hts⟩ (hM D ty ad H.size) (va_cwU 0 hts hG rfl r1 r2 hyx ⟨by decide, by decide, hd0⟩ ⟨r3, r4⟩) ⟨XP.blind, hrv, fun U hU hW => XP.at (avs := [Value.ref (1000 + o)]) hag hA hK hZ hP hD hS hU hW⟩ rfl rfl hsz (by simp [xr]) ?_ hd ⟨hcs.1, hcs.2⟩
  apply lv_room
  simpa [List.map_map, Function.comp_def, xr_cat] using r5
end XEN
/-- Enum.ordinal() -/
def e_ord : List xI := [(0, .aload_n 0, 1, .null)]
theorem e_ord_k : e_ord.all (fun q => xokB cJx29ce0_ordinal_8abf5 q && xokL q) = true := by decide +kernel
abbrev R_ord : Room := { frames := 0, cells := 0, slots := 0, locals := 0 }
set_option maxRecDepth 20000 in
theorem k_ord (l : Launch) (o : Nat) (ho : o < 66) (M : St) (L : Nat → Nat → Int64) : XM l yJx29ce0_ordinal_8abf5 cJx29ce0_ordinal_8abf5 1 (some .int) R_ord LAY [.ref (1000 + o)] (M, L) (PoI (nI o) M L) := by
  refine XM.of (fl := []) (kc := []) (by decide) (Nat.le_of_ble_eq_true rfl) LAY_in cl_ok (fun q h => nomatch h) (fun q h => nomatch h) (fun V C => ?_)
  show V 0 0 0 [(0, .ref (1000 + o))] [] LAY (M, L)
  refine x_run C e_ord e_ord_k (pc' := 1) (lv' := [(0, .ref (1000 + o))]) (st' := [.ref (1000 + o)]) (σ' := (M, L)) rfl ⟨trivial, trivial⟩ ?_
  refine x_getEO C ho (idx := 7) (x_in 1651 (by decide +kernel) rfl) (by decide +kernel) ?_
  rw [opO_at ho]
  exact x_iret C (by decide +kernel) (x_finI rfl ⟨rfl, rfl⟩) (Nat.le_refl 0) (Nat.le_refl 0)
set_option maxRecDepth 50000 in
theorem ord_code : Cond.code yJx29ce0_ordinal_8abf5 cJx29ce0_ordinal_8abf5 1 (some .int) ∈ lw_tbl := List.mem_of_getElem? (i := 926) rfl
theorem ord_ws4 : ∀ w ∈ ([.methodLink RX4 56 ⟨RX5, "ordinal", "()I"⟩, .sameMethod RX5 "java/lang/Enum" "ordinal" "()I", .selects RX5 ⟨RX5, "ordinal", "()I"⟩ yJx29ce0_ordinal_8abf5, .instanceMethod yJx29ce0_ordinal_8abf5, .initialized "java/lang/Enum"] : List Cond), w ∈ xtb := x_inl (by decide +kernel)
theorem ord_ws1 : ∀ w ∈ ([.methodLink RX1 31 ⟨RX5, "ordinal", "()I"⟩, .sameMethod RX5 "java/lang/Enum" "ordinal" "()I", .selects RX5 ⟨RX5, "ordinal", "()I"⟩ yJx29ce0_ordinal_8abf5, .instanceMethod yJx29ce0_ordinal_8abf5, .initialized "java/lang/Enum"] : List Cond), w ∈ xtb := x_inl (by decide +kernel)
theorem cp_ws : Cond.native arraycopyName ∈ xtb ∧ Cond.static arraycopyName ∈ xtb ∧ Cond.initialized "java/lang/System" ∈ xtb := ⟨x_in 607 (by decide +kernel) rfl, x_in 606 (by decide +kernel) rfl, x_in 146 (by decide +kernel) rfl⟩
theorem cp_lk : Cond.methodLink RX8 19 arraycopyName ∈ xtb := x_in 605 (by decide +kernel) rfl
