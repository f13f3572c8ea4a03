/-- the words that a walk uses: the good ones -/
def xtb : List Cond := lw_tbl.filter goodWord
/-! A METHOD'S WALK: what it stands on (XC), its ends, its branches, its calls; a contract over places (XM) -/
def xrIn (n : Nat) : Value → Prop
  | .ref k => k < n ∨ 1000 ≤ k
  | _ => True
theorem xr_agree {ad ad0 : Nat → Nat} {n : Nat} (hag : ∀ i, (i < n ∨ 1000 ≤ i) → ad i = ad0 i) {v : Value} (h : xrIn n v) : xr ad v = xr ad0 v := by
  cases v <;> first | rfl | (simp only [xr]; rw [hag _ h])
def xlayIn (n : Nat) (lay : List xL) : Bool := lay.all fun c => match c with
  | .inl _ => true
  | .inr o => o.2.all fun f => match f with
    | some (.ref k) => decide (k < n ∨ 1000 ≤ k)
    | _ => true
theorem xw_agree {ad ad0 ty : Nat → Nat} {n : Nat} {σ : xG} {lay : List xL} (hag : ∀ i, (i < n ∨ 1000 ≤ i) → ad i = ad0 i) (hl : lay.length ≤ n) (h : xlayIn n lay = true) : xw ad ty σ lay = xw ad0 ty σ lay := by
  apply List.ext_getElem?
  intro k
  simp only [xw, List.getElem?_mapIdx]
  cases hc : lay[k]? with
  | none => rfl
  | some c =>
    have hk : k < lay.length := (List.getElem?_eq_some_iff.mp hc).1
    have hm : c ∈ lay := List.mem_of_getElem? hc
    simp only [Option.map_some, Option.some.injEq, Prod.mk.injEq]
    refine ⟨hag k (Or.inl (by omega)), ?_⟩
    have h1 := List.all_eq_true.mp h c hm
    cases c with
    | inl q => rfl
    | inr o =>
      simp only [xcell]
      congr 2
      apply List.ext_getElem?
      intro j
      simp only [List.getElem?_mapIdx]
      cases hf : o.2[j]? with
      | none => rfl
      | some f =>
        have h2 := List.all_eq_true.mp h1 f (List.mem_of_getElem? hf)
        simp only [Option.map_some, Option.some.injEq]
        cases f with
        | none => rfl
        | some v =>
          simp only [xfv]
          apply xr_agree hag
          cases v <;> first | trivial | simpa [xrIn] using h2
/-- how the walk ends: a return with an answer that Fin takes -/
def XRet (p : Program) (l : Launch) (e : Env) (R : Room) (s : State) (m : MethodId) (args : Array Value) (below : List Frame) (meth : Method) (c : Code) (Q : State → Prop) (D : va_G) (ty ad0 : Nat → Nat) (n0 : Nat) (A : Nat → Prop) (cc : ByteArray) (mc ms : Nat) (Fin : Option Value → List xL → xG → Prop) : Prop :=
  ∀ (ad : Nat → Nat) (H : Heap) (locs : List Loc) (ls : Array Slot) (lay : List xL) (σ : xG) (pc : Nat), (∀ i, (i < n0 ∨ 1000 ≤ i) → ad i = ad0 i) → va_P D vwCl (xw ad ty σ lay) H → va_D A (xw ad ty σ lay) → va_S A s.heap H locs →
    (∀ x, decode cc pc = .ok (.ireturn, 1) → Fin (some (.int x)) lay σ → W p l e R s m args below meth c H locs mc ms Q (F0 m pc ls [.int x])) ∧
    (∀ x, decode cc pc = .ok (.lreturn, 1) → Fin (some (.long x)) lay σ → W p l e R s m args below meth c H locs mc ms Q (F0 m pc ls [.long x])) ∧
    (∀ k, decode cc pc = .ok (.areturn, 1) → Fin (some (.ref k)) lay σ → W p l e R s m args below meth c H locs mc ms Q (F0 m pc ls [.ref (ad k)])) ∧
    (decode cc pc = .ok (.return_, 1) → Fin none lay σ → W p l e R s m args below meth c H locs mc ms Q (F0 m pc ls []))
def XC (l : Launch) (own nm : String) (cc : ByteArray) (nL : Nat) (R : Room) (mc ms : Nat) (fl : List xFl) (kc : List (Nat × Value)) (n0 : Nat) (Fin : Option Value → List xL → xG → Prop) (V : XJ) : Prop :=
  ∃ (p : Program) (e : Env) (s : State) (m : MethodId) (args : Array Value) (below : List Frame) (meth : Method) (c : Code) (Q : State → Prop) (D : va_G) (ty ad0 : Nat → Nat) (A : Nat → Prop),
    V = XV p l e R s m args below meth c Q D vwCl ty ad0 n0 A nL ∧ XB p s m args c D ty A own cc nL xtb vwCl fl kc ∧ meth.name = nm ∧ XZ ad0 A s s.heap ∧ XRet p l e R s m args below meth c Q D ty ad0 n0 A cc mc ms Fin
section XCR
variable {l : Launch} {own nm : String} {cc : ByteArray} {nL : Nat} {R : Room} {mc ms : Nat} {fl : List xFl} {kc : List (Nat × Value)} {n0 : Nat} {Fin : Option Value → List xL → xG → Prop} {V : XJ}
variable {cells slots pc : Nat} {lay : List xL} {lv lv' : List (Nat × Value)} {st st' : List Value} {σ σ' : xG} {O : Prop}
/-- a straight stretch -/
def xrun (fl : List xFl) (kc : List (Nat × Value)) (nL : Nat) (lay : List xL) : List xI → Nat → List (Nat × Value) → List Value → xG → Option (Prop × Nat × List (Nat × Value) × List Value × xG)
  | [], pc, lv, st, σ => some (True, pc, lv, st, σ)
  | q :: qs, pc, lv, st, σ => if q.1 = pc then match x1 fl kc nL lay q lv st σ with
      | some (O, lv', st', σ') => match xrun fl kc nL lay qs (pc + q.2.2.1) lv' st' σ' with
        | some (O', r) => some (O ∧ O', r)
        | none => none
      | none => none
    else none
theorem x_run (C : XC l own nm cc nL R mc ms fl kc n0 Fin V) (qs : List xI) (hq : qs.all (fun q => xokB cc q && xokL q) = true) {pc' : Nat} (h : xrun fl kc nL lay qs pc lv st σ = some (O, pc', lv', st', σ')) (hO : O) (k : V cells slots pc' lv' st' lay σ') : V cells slots pc lv st lay σ := by
  obtain ⟨p, e, s, m, args, below, meth, c, Q, D, ty, ad0, A, rfl, B, -⟩ := C
  induction qs generalizing pc lv st σ O with
  | nil =>
    simp only [xrun, Option.some.injEq, Prod.mk.injEq] at h
    obtain ⟨-, rfl, rfl, rfl, rfl⟩ := h
    exact k
  | cons q qs ih =>
    simp only [List.all_cons, Bool.and_eq_true] at hq
    obtain ⟨⟨h1, h2⟩, h3⟩ := hq
    simp only [xrun] at h
    split at h
    · rename_i hpc
      split at h
      · rename_i O1 lv1 st1 σ1 hx1
        split at h
        · rename_i O2 r hx2
          simp only [Option.some.injEq, Prod.mk.injEq] at h
          obtain ⟨rfl, rfl⟩ := h
          obtain ⟨a, i, n, cv⟩ := q
          dsimp only at hpc hx2
          subst hpc
          exact XV.one B h1 h2 hx1 hO.1 (ih (by simpa using h3) hx2 hO.2)
        · cases h
      · cases h
    · cases h
/-- fewer locals, in any order -/
theorem x_lv (C : XC l own nm cc nL R mc ms fl kc n0 Fin V) (ks : List Nat) (h : lv_pick lv ks = lv') (k : V cells slots pc lv' st lay σ) : V cells slots pc lv st lay σ := by
  obtain ⟨p, e, s, m, args, below, meth, c, Q, D, ty, ad0, A, rfl, B, -⟩ := C
  intro ad hag H locs ls hP hD hS hl
  refine k ad hag H locs ls hP hD hS (lv_sub hl ks ?_)
  subst h
  simp only [lv_pick, xlm, List.map_filterMap, List.getElem?_map]
theorem x_goto (C : XC l own nm cc nL R mc ms fl kc n0 Fin V) {off : Int} {tgt : Nat} (hd : decode cc pc = .ok (.goto off, 3)) (ht : (pc : Int) + off = (tgt : Int)) (k : V cells slots tgt lv st lay σ) : V cells slots pc lv st lay σ := by
  obtain ⟨p, e, s, m, args, below, meth, c, Q, D, ty, ad0, A, rfl, B, -⟩ := C
  exact XV.step (fun ad H locs ls hl w => lv_goto B.1 B.2.1 hd ht w) k
theorem x_if_eq (C : XC l own nm cc nL R mc ms fl kc n0 Fin V) {x : Int32} {off : Int} {tgt : Nat} (hd : decode cc pc = .ok (.ifCond .eq off, 3)) (ht : (pc : Int) + off = (tgt : Int)) (kt : x = 0 → V cells slots tgt lv st lay σ) (kf : ¬ x = 0 → V cells slots (pc + 3) lv st lay σ) : V cells slots pc lv (.int x :: st) lay σ := by
  obtain ⟨p, e, s, m, args, below, meth, c, Q, D, ty, ad0, A, rfl, B, -⟩ := C
  intro ad hag H locs ls hP hD hS hl
  exact lv_if_eq B.1 B.2.1 hd ht (fun h => kt h ad hag H locs ls hP hD hS hl) (fun h => kf h ad hag H locs ls hP hD hS hl)
theorem x_icmp_eq (C : XC l own nm cc nL R mc ms fl kc n0 Fin V) {x y : Int32} {off : Int} {tgt : Nat} (hd : decode cc pc = .ok (.if_icmp .eq off, 3)) (ht : (pc : Int) + off = (tgt : Int)) (kt : x = y → V cells slots tgt lv st lay σ) (kf : ¬ x = y → V cells slots (pc + 3) lv st lay σ) : V cells slots pc lv (.int y :: .int x :: st) lay σ := by
  obtain ⟨p, e, s, m, args, below, meth, c, Q, D, ty, ad0, A, rfl, B, -⟩ := C
  intro ad hag H locs ls hP hD hS hl
  exact lv_icmp_eq B.1 B.2.1 hd ht (fun h => kt h ad hag H locs ls hP hD hS hl) (fun h => kf h ad hag H locs ls hP hD hS hl)
theorem x_if_ne (C : XC l own nm cc nL R mc ms fl kc n0 Fin V) {x : Int32} {off : Int} {tgt : Nat} (hd : decode cc pc = .ok (.ifCond .ne off, 3)) (ht : (pc : Int) + off = (tgt : Int)) (kt : ¬ x = 0 → V cells slots tgt lv st lay σ) (kf : x = 0 → V cells slots (pc + 3) lv st lay σ) : V cells slots pc lv (.int x :: st) lay σ := by
  obtain ⟨p, e, s, m, args, below, meth, c, Q, D, ty, ad0, A, rfl, B, -⟩ := C
  intro ad hag H locs ls hP hD hS hl
  exact lv_if_ne B.1 B.2.1 hd ht (fun h => kt h ad hag H locs ls hP hD hS hl) (fun h => kf h ad hag H locs ls hP hD hS hl)
theorem x_icmp_ne (C : XC l own nm cc nL R mc ms fl kc n0 Fin V) {x y : Int32} {off : Int} {tgt : Nat} (hd : decode cc pc = .ok (.if_icmp .ne off, 3)) (ht : (pc : Int) + off = (tgt : Int)) (kt : ¬ x = y → V cells slots tgt lv st lay σ) (kf : x = y → V cells slots (pc + 3) lv st lay σ) : V cells slots pc lv (.int y :: .int x :: st) lay σ := by
  obtain ⟨p, e, s, m, args, below, meth, c, Q, D, ty, ad0, A, rfl, B, -⟩ := C
  intro ad hag H locs ls hP hD hS hl
  exact lv_icmp_ne B.1 B.2.1 hd ht (fun h => kt h ad hag H locs ls hP hD hS hl) (fun h => kf h ad hag H locs ls hP hD hS hl)
theorem x_if_lt (C : XC l own nm cc nL R mc ms fl kc n0 Fin V) {x : Int32} {off : Int} {tgt : Nat} (hd : decode cc pc = .ok (.ifCond .lt off, 3)) (ht : (pc : Int) + off = (tgt : Int)) (kt : x < 0 → V cells slots tgt lv st lay σ) (kf : ¬ x < 0 → V cells slots (pc + 3) lv st lay σ) : V cells slots pc lv (.int x :: st) lay σ := by
  obtain ⟨p, e, s, m, args, below, meth, c, Q, D, ty, ad0, A, rfl, B, -⟩ := C
  intro ad hag H locs ls hP hD hS hl
  exact lv_if_lt B.1 B.2.1 hd ht (fun h => kt h ad hag H locs ls hP hD hS hl) (fun h => kf h ad hag H locs ls hP hD hS hl)
theorem x_icmp_lt (C : XC l own nm cc nL R mc ms fl kc n0 Fin V) {x y : Int32} {off : Int} {tgt : Nat} (hd : decode cc pc = .ok (.if_icmp .lt off, 3)) (ht : (pc : Int) + off = (tgt : Int)) (kt : x < y → V cells slots tgt lv st lay σ) (kf : ¬ x < y → V cells slots (pc + 3) lv st lay σ) : V cells slots pc lv (.int y :: .int x :: st) lay σ := by
  obtain ⟨p, e, s, m, args, below, meth, c, Q, D, ty, ad0, A, rfl, B, -⟩ := C
  intro ad hag H locs ls hP hD hS hl
  exact lv_icmp_lt B.1 B.2.1 hd ht (fun h => kt h ad hag H locs ls hP hD hS hl) (fun h => kf h ad hag H locs ls hP hD hS hl)
theorem x_if_ge (C : XC l own nm cc nL R mc ms fl kc n0 Fin V) {x : Int32} {off : Int} {tgt : Nat} (hd : decode cc pc = .ok (.ifCond .ge off, 3)) (ht : (pc : Int) + off = (tgt : Int)) (kt : 0 ≤ x → V cells slots tgt lv st lay σ) (kf : ¬ 0 ≤ x → V cells slots (pc + 3) lv st lay σ) : V cells slots pc lv (.int x :: st) lay σ := by
  obtain ⟨p, e, s, m, args, below, meth, c, Q, D, ty, ad0, A, rfl, B, -⟩ := C
  intro ad hag H locs ls hP hD hS hl
  exact lv_if_ge B.1 B.2.1 hd ht (fun h => kt h ad hag H locs ls hP hD hS hl) (fun h => kf h ad hag H locs ls hP hD hS hl)
theorem x_icmp_ge (C : XC l own nm cc nL R mc ms fl kc n0 Fin V) {x y : Int32} {off : Int} {tgt : Nat} (hd : decode cc pc = .ok (.if_icmp .ge off, 3)) (ht : (pc : Int) + off = (tgt : Int)) (kt : y ≤ x → V cells slots tgt lv st lay σ) (kf : ¬ y ≤ x → V cells slots (pc + 3) lv st lay σ) : V cells slots pc lv (.int y :: .int x :: st) lay σ := by
  obtain ⟨p, e, s, m, args, below, meth, c, Q, D, ty, ad0, A, rfl, B, -⟩ := C
  intro ad hag H locs ls hP hD hS hl
  exact lv_icmp_ge B.1 B.2.1 hd ht (fun h => kt h ad hag H locs ls hP hD hS hl) (fun h => kf h ad hag H locs ls hP hD hS hl)
theorem x_if_gt (C : XC l own nm cc nL R mc ms fl kc n0 Fin V) {x : Int32} {off : Int} {tgt : Nat} (hd : decode cc pc = .ok (.ifCond .gt off, 3)) (ht : (pc : Int) + off = (tgt : Int)) (kt : 0 < x → V cells slots tgt lv st lay σ) (kf : ¬ 0 < x → V cells slots (pc + 3) lv st lay σ) : V cells slots pc lv (.int x :: st) lay σ := by
  obtain ⟨p, e, s, m, args, below, meth, c, Q, D, ty, ad0, A, rfl, B, -⟩ := C
  intro ad hag H locs ls hP hD hS hl
  exact lv_if_gt B.1 B.2.1 hd ht (fun h => kt h ad hag H locs ls hP hD hS hl) (fun h => kf h ad hag H locs ls hP hD hS hl)
theorem x_icmp_gt (C : XC l own nm cc nL R mc ms fl kc n0 Fin V) {x y : Int32} {off : Int} {tgt : Nat} (hd : decode cc pc = .ok (.if_icmp .gt off, 3)) (ht : (pc : Int) + off = (tgt : Int)) (kt : y < x → V cells slots tgt lv st lay σ) (kf : ¬ y < x → V cells slots (pc + 3) lv st lay σ) : V cells slots pc lv (.int y :: .int x :: st) lay σ := by
  obtain ⟨p, e, s, m, args, below, meth, c, Q, D, ty, ad0, A, rfl, B, -⟩ := C
  intro ad hag H locs ls hP hD hS hl
  exact lv_icmp_gt B.1 B.2.1 hd ht (fun h => kt h ad hag H locs ls hP hD hS hl) (fun h => kf h ad hag H locs ls hP hD hS hl)
theorem x_if_le (C : XC l own nm cc nL R mc ms fl kc n0 Fin V) {x : Int32} {off : Int} {tgt : Nat} (hd : decode cc pc = .ok (.ifCond .le off, 3)) (ht : (pc : Int) + off = (tgt : Int)) (kt : x ≤ 0 → V cells slots tgt lv st lay σ) (kf : ¬ x ≤ 0 → V cells slots (pc + 3) lv st lay σ) : V cells slots pc lv (.int x :: st) lay σ := by
  obtain ⟨p, e, s, m, args, below, meth, c, Q, D, ty, ad0, A, rfl, B, -⟩ := C
  intro ad hag H locs ls hP hD hS hl
  exact lv_if_le B.1 B.2.1 hd ht (fun h => kt h ad hag H locs ls hP hD hS hl) (fun h => kf h ad hag H locs ls hP hD hS hl)
theorem x_icmp_le (C : XC l own nm cc nL R mc ms fl kc n0 Fin V) {x y : Int32} {off : Int} {tgt : Nat} (hd : decode cc pc = .ok (.if_icmp .le off, 3)) (ht : (pc : Int) + off = (tgt : Int)) (kt : x ≤ y → V cells slots tgt lv st lay σ) (kf : ¬ x ≤ y → V cells slots (pc + 3) lv st lay σ) : V cells slots pc lv (.int y :: .int x :: st) lay σ := by
  obtain ⟨p, e, s, m, args, below, meth, c, Q, D, ty, ad0, A, rfl, B, -⟩ := C
  intro ad hag H locs ls hP hD hS hl
  exact lv_icmp_le B.1 B.2.1 hd ht (fun h => kt h ad hag H locs ls hP hD hS hl) (fun h => kf h ad hag H locs ls hP hD hS hl)
theorem x_iret (C : XC l own nm cc nL R mc ms fl kc n0 Fin V) {x : Int32} (hd : decode cc pc = .ok (.ireturn, 1)) (hf : Fin (some (.int x)) lay σ) (hc : cells ≤ mc) (hs : slots ≤ ms) : V cells slots pc lv [.int x] lay σ := by
  obtain ⟨p, e, s, m, args, below, meth, c, Q, D, ty, ad0, A, rfl, B, -, -, hr⟩ := C
  intro ad hag H locs ls hP hD hS hl
  exact W.widen hc hs ((hr ad H locs ls lay σ pc hag hP hD hS).1 x hd hf)
theorem x_lret (C : XC l own nm cc nL R mc ms fl kc n0 Fin V) {x : Int64} (hd : decode cc pc = .ok (.lreturn, 1)) (hf : Fin (some (.long x)) lay σ) (hc : cells ≤ mc) (hs : slots ≤ ms) : V cells slots pc lv [.long x] lay σ := by
  obtain ⟨p, e, s, m, args, below, meth, c, Q, D, ty, ad0, A, rfl, B, -, -, hr⟩ := C
  intro ad hag H locs ls hP hD hS hl
  exact W.widen hc hs ((hr ad H locs ls lay σ pc hag hP hD hS).2.1 x hd hf)
theorem x_aret (C : XC l own nm cc nL R mc ms fl kc n0 Fin V) {x : Nat} (hd : decode cc pc = .ok (.areturn, 1)) (hf : Fin (some (.ref x)) lay σ) (hc : cells ≤ mc) (hs : slots ≤ ms) : V cells slots pc lv [.ref x] lay σ := by
  obtain ⟨p, e, s, m, args, below, meth, c, Q, D, ty, ad0, A, rfl, B, -, -, hr⟩ := C
  intro ad hag H locs ls hP hD hS hl
  exact W.widen hc hs ((hr ad H locs ls lay σ pc hag hP hD hS).2.2.1 x hd hf)
theorem x_vret (C : XC l own nm cc nL R mc ms fl kc n0 Fin V) (hd : decode cc pc = .ok (.return_, 1)) (hf : Fin none lay σ) (hc : cells ≤ mc) (hs : slots ≤ ms) : V cells slots pc lv [] lay σ := by
  obtain ⟨p, e, s, m, args, below, meth, c, Q, D, ty, ad0, A, rfl, B, -, -, hr⟩ := C
  intro ad hag H locs ls hP hD hS hl
  exact W.widen hc hs ((hr ad H locs ls lay σ pc hag hP hD hS).2.2.2 hd hf)
end XCR
