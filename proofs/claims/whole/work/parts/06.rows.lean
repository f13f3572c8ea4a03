/-! THE JUDGEMENT over places, and one instruction's row -/
abbrev XJ : Type := Nat → Nat → Nat → List (Nat × Value) → List Value → List xL → xG → Prop
def xtys (ty : Nat → Nat) : List (ClassId × FieldType) := [(ty 0, .int), (ty 1, .long)]
def XV (p : Program) (l : Launch) (e : Env) (R : Room) (s : State) (m : MethodId) (args : Array Value) (below : List Frame) (meth : Method) (c : Code) (Q : State → Prop) (D : va_G) (cl : List vw_C) (ty ad0 : Nat → Nat) (n0 : Nat) (A : Nat → Prop) (nL : Nat) : XJ :=
  fun cells slots pc lv st lay σ => ∀ (ad : Nat → Nat), (∀ i, (i < n0 ∨ 1000 ≤ i) → ad i = ad0 i) → ∀ (H : Heap) (locs : List Loc) (ls : Array Slot), va_P D cl (xw ad ty σ lay) H → va_D A (xw ad ty σ lay) → va_S A s.heap H locs → lv_has ls nL (xlm ad lv) →
    W p l e R s m args below meth c H locs cells slots Q (F0 m pc ls (st.map (xr ad)))
/-- the classes' tables -/
def xclOk (cl : List vw_C) (Ts : List Cond) : Prop := ∀ (ci : Nat) (q : vw_C), cl[ci]? = some q → (∀ w ∈ u_ws q.1 q.2.1 q.2.2, w ∈ Ts) ∧ (∃ t : Nat → FieldType, ∀ k, k < q.2.2 → parseFieldDescriptor (q.2.1 k).2.2.1 = some (t k)) ∧ ∀ a, a < q.2.2 → ∀ b, b < q.2.2 → a ≠ b → (q.2.1 a).2.1 ≠ (q.2.1 b).2.1
def xflOk (own : String) (cl : List vw_C) (Ts : List Cond) (fl : List xFl) : Prop := ∀ q ∈ fl, ∃ r : vw_C, cl[q.2.1]? = some r ∧ q.2.2.1 < r.2.2 ∧ Cond.fieldLink own q.1 r.1 (r.2.1 q.2.2.1).2.1 (r.2.1 q.2.2.1).2.2.1 ∈ Ts ∧ (r.2.1 q.2.2.1).1 = r.1 ∧ (r.2.1 q.2.2.1).2.2.2 = q.2.2.2.2 ∧ (q.2.2.2.1 = 0 → (r.2.1 q.2.2.1).2.2.1 = "I") ∧ (q.2.2.2.1 = 1 → (r.2.1 q.2.2.1).2.2.1 = "Z")
def xkcOk (own : String) (Ts : List Cond) (kc : List (Nat × Value)) : Prop := ∀ q ∈ kc, (∀ v, q.2 = .int v → Cond.constant own q.1 v ∈ Ts) ∧ ∀ v, q.2 = .long v → Cond.constantLong own q.1 v ∈ Ts
theorem xfl_at {own : String} {cl : List vw_C} {Ts : List Cond} {fl : List xFl} (h : xflOk own cl Ts fl) {idx ci j tc : Nat} {fin : Bool} (hq : xfl fl idx = some (ci, j, tc, fin)) : ∃ r : vw_C, cl[ci]? = some r ∧ j < r.2.2 ∧ Cond.fieldLink own idx r.1 (r.2.1 j).2.1 (r.2.1 j).2.2.1 ∈ Ts ∧ (r.2.1 j).1 = r.1 ∧ (r.2.1 j).2.2.2 = fin ∧ (tc = 0 → (r.2.1 j).2.2.1 = "I") ∧ (tc = 1 → (r.2.1 j).2.2.1 = "Z") := by
  simp only [xfl, Option.map_eq_some_iff] at hq
  obtain ⟨q, hq, hq2⟩ := hq
  have h1 := List.mem_of_find?_eq_some hq
  have h2 : q.1 = idx := by simpa using List.find?_some hq
  obtain ⟨a, b, d, t, f⟩ := q
  cases hq2
  subst h2
  exact h _ h1
theorem xkc_at {own : String} {Ts : List Cond} {kc : List (Nat × Value)} (h : xkcOk own Ts kc) {idx : Nat} {v : Value} (hq : xkc kc idx = some v) : (∀ x, v = .int x → Cond.constant own idx x ∈ Ts) ∧ ∀ x, v = .long x → Cond.constantLong own idx x ∈ Ts := by
  simp only [xkc, Option.map_eq_some_iff] at hq
  obtain ⟨q, hq, hq2⟩ := hq
  have h1 := List.mem_of_find?_eq_some hq
  have h2 : q.1 = idx := by simpa using List.find?_some hq
  obtain ⟨a, b⟩ := q
  cases hq2
  subst h2
  exact h _ h1
def xlen : Instr → Nat
  | .bipush _ => 2 | .sipush _ => 3 | .ldc _ => 2 | .ldc_w _ => 3 | .ldc2_w _ => 3
  | .iload _ => 2 | .lload _ => 2 | .aload _ => 2 | .istore _ => 2 | .lstore _ => 2 | .astore _ => 2
  | .iinc _ _ => 3 | .getfield _ => 3 | .putfield _ => 3
  | _ => 1
def xokL (q : xI) : Bool := decide (xlen q.2.1 = q.2.2.1)
section XROW
variable {p : Program} {l : Launch} {e : Env} {R : Room} {s : State} {m : MethodId} {args : Array Value} {below : List Frame} {meth : Method} {c : Code} {Q : State → Prop} {D : va_G} {cl : List vw_C} {ty ad0 : Nat → Nat} {n0 : Nat} {A : Nat → Prop} {nL : Nat}
variable {own : String} {cc : ByteArray} {Ts : List Cond} {fl : List xFl} {kc : List (Nat × Value)} {cells slots pc : Nat} {lay : List xL} {lv lv' : List (Nat × Value)} {st st' : List Value} {σ σ' : xG} {O : Prop}
theorem XV.step {pc' : Nat} (h : ∀ (ad : Nat → Nat) (H : Heap) (locs : List Loc) (ls : Array Slot), lv_has ls nL (xlm ad lv) → W p l e R s m args below meth c H locs cells slots Q (F0 m pc' ls (st'.map (xr ad))) → W p l e R s m args below meth c H locs cells slots Q (F0 m pc ls (st.map (xr ad))))
    (k : XV p l e R s m args below meth c Q D cl ty ad0 n0 A nL cells slots pc' lv st' lay σ) : XV p l e R s m args below meth c Q D cl ty ad0 n0 A nL cells slots pc lv st lay σ :=
  fun ad hag H locs ls hP hD hS hl => h ad H locs ls hl (k ad hag H locs ls hP hD hS hl)
theorem XV.stloc {pc' : Nat} (h : ∀ (ad : Nat → Nat) (H : Heap) (locs : List Loc) (ls : Array Slot), lv_has ls nL (xlm ad lv) → (∀ ls' : Array Slot, lv_has ls' nL (xlm ad lv') → W p l e R s m args below meth c H locs cells slots Q (F0 m pc' ls' (st'.map (xr ad)))) → W p l e R s m args below meth c H locs cells slots Q (F0 m pc ls (st.map (xr ad))))
    (k : XV p l e R s m args below meth c Q D cl ty ad0 n0 A nL cells slots pc' lv' st' lay σ) : XV p l e R s m args below meth c Q D cl ty ad0 n0 A nL cells slots pc lv st lay σ :=
  fun ad hag H locs ls hP hD hS hl => h ad H locs ls hl (fun ls' hl' => k ad hag H locs ls' hP hD hS hl')
def XB (p : Program) (s : State) (m : MethodId) (args : Array Value) (c : Code) (D : va_G) (ty : Nat → Nat) (A : Nat → Prop) (own : String) (cc : ByteArray) (nL : Nat) (Ts : List Cond) (cl : List vw_C) (fl : List xFl) (kc : List (Nat × Value)) : Prop :=
  p.tables.exec = Jvm.exec ∧ c.code = cc ∧ c.maxLocals = nL ∧ s.vm.findClass own = some m.cls ∧ (∀ w ∈ Ts, w.before args s = true) ∧ va_K D cl (xtys ty) s ∧ (∀ q, s.heap.size ≤ q → A q) ∧ xclOk cl Ts ∧ xflOk own cl Ts fl ∧ xkcOk own Ts kc
abbrev XN (p : Program) (l : Launch) (e : Env) (R : Room) (s : State) (m : MethodId) (args : Array Value) (below : List Frame) (meth : Method) (c : Code) (Q : State → Prop) (D : va_G) (cl : List vw_C) (ty ad0 : Nat → Nat) (n0 : Nat) (A : Nat → Prop) (nL : Nat) := XV p l e R s m args below meth c Q D cl ty ad0 n0 A nL
set_option maxHeartbeats 4000000 in
theorem XV.get (B : XB p s m args c D ty A own cc nL Ts cl fl kc) {k idx n : Nat} (hd : decode cc pc = .ok (.getfield idx, 3)) (h : xgetf fl lay lv st σ k idx = some (O, lv', st', σ'))
    (kk : XV p l e R s m args below meth c Q D cl ty ad0 n0 A nL cells slots (pc + 3) lv' st' lay σ') : XV p l e R s m args below meth c Q D cl ty ad0 n0 A nL cells slots pc lv (.ref k :: st) lay σ := by
  obtain ⟨hx, hb, hml, hown, hts, hK, hA, hcl, hfl, hkc⟩ := B
  unfold xgetf at h
  split at h
  · rename_i ci j tcf o hf hlk
    split at h
    · rename_i hci
      obtain ⟨tc, fin⟩ := tcf
      obtain ⟨r, h1, h2, h3, h4, h5, h6, h7⟩ := xfl_at hfl hf
      obtain ⟨C, T, N⟩ := r
      obtain ⟨oc, fs⟩ := o
      dsimp only at hci h1 h2 h3 h4 h5 h6 h7 h
      subst hci
      intro ad hag H locs ls hP hD hS hl
      have hat := xw_at (ad := ad) (ty := ty) (σ := σ) hlk
      split at h
      · rename_i hj
        simp only [Option.some.injEq, Prod.mk.injEq] at h
        obtain ⟨-, rfl, rfl, rfl⟩ := h
        exact va_get hx hb hts (hcl _ _ h1).1 hown hK hP k hat h1 j h2 (hts _ h3) (fun x hx => h4 ▸ hx) (v := .int (σ.1 k j)) (by simp [hj, xfv]) hd (kk ad hag H locs ls hP hD hS hl)
      · rename_i v hj
        simp only [Option.some.injEq, Prod.mk.injEq] at h
        obtain ⟨-, rfl, rfl, rfl⟩ := h
        exact va_get hx hb hts (hcl _ _ h1).1 hown hK hP k hat h1 j h2 (hts _ h3) (fun x hx => h4 ▸ hx) (v := xr ad v) (by simp [hj, xfv]) hd (kk ad hag H locs ls hP hD hS hl)
      · cases h
    · cases h
  · cases h
theorem x_bool {x : Int32} (h : x = 0 ∨ x = 1) : narrow .boolean (.int x) = .int x ∧ fits .boolean (.int x) = true := by
  rcases h with rfl | rfl <;> decide +kernel
set_option maxHeartbeats 4000000 in
theorem XV.put (B : XB p s m args c D ty A own cc nL Ts cl fl kc) {k idx n : Nat} {x : Int32} (hd : decode cc pc = .ok (.putfield idx, 3)) (h : xputf fl lay lv st σ k idx x = some (O, lv', st', σ')) (hO : O)
    (kk : XV p l e R s m args below meth c Q D cl ty ad0 n0 A nL cells slots (pc + 3) lv' st' lay σ') : XV p l e R s m args below meth c Q D cl ty ad0 n0 A nL cells slots pc lv (.int x :: .ref k :: st) lay σ := by
  obtain ⟨hx, hb, hml, hown, hts, hK, hA, hcl, hfl, hkc⟩ := B
  unfold xputf at h
  split at h
  · rename_i ci j tc fin o hf hlk
    split at h
    · rename_i hci
      obtain ⟨hci, hfin⟩ := hci
      subst hfin
      obtain ⟨r, h1, h2, h3, h4, h5, h6, h7⟩ := xfl_at hfl hf
      obtain ⟨C, T, N⟩ := r
      obtain ⟨oc, fs⟩ := o
      obtain ⟨M, L⟩ := σ
      dsimp only at hci h1 h2 h3 h4 h5 h6 h7 h
      subst hci
      intro ad hag H locs ls hP hD hS hl
      have hat := xw_at (ad := ad) (ty := ty) (σ := (M, L)) hlk
      obtain ⟨c1, ⟨t, c2⟩, c3⟩ := hcl _ _ h1
      split at h
      · rename_i hj
        simp only [Option.some.injEq, Prod.mk.injEq] at h
        obtain ⟨-, rfl, rfl, rfl⟩ := h
        have hjl : j < fs.length := (List.getElem?_eq_some_iff.mp hj).1
        refine va_put hx hb hts c1 t c2 c3 hown hK hP hD hS k hat h1 j h2 (hts _ h3) (fun x hx => h4 ▸ hx) h5 (ty := .int) (v := .int x) (by rw [h6 rfl]; decide +kernel) rfl rfl (by simp [hjl]) hd (fun H1 locs1 hP1 hD1 hS1 => ?_)
        rw [xw_put hlk hj] at hP1 hD1
        exact kk ad hag H1 locs1 ls hP1 hD1 hS1 hl
      · rename_i hj
        simp only [Option.some.injEq, Prod.mk.injEq] at h
        obtain ⟨rfl, rfl, rfl, rfl⟩ := h
        have hjl : j < fs.length := (List.getElem?_eq_some_iff.mp hj).1
        refine va_put hx hb hts c1 t c2 c3 hown hK hP hD hS k hat h1 j h2 (hts _ h3) (fun x hx => h4 ▸ hx) h5 (ty := .boolean) (v := .int x) (by rw [h7 rfl]; decide +kernel) (x_bool hO).1 (x_bool hO).2 (by simp [hjl]) hd (fun H1 locs1 hP1 hD1 hS1 => ?_)
        rw [xw_put hlk hj] at hP1 hD1
        exact kk ad hag H1 locs1 ls hP1 hD1 hS1 hl
      · cases h
    · cases h
  · cases h
set_option maxHeartbeats 4000000 in
theorem XV.iald (B : XB p s m args c D ty A own cc nL Ts cl fl kc) {k : Nat} {i : Int32} (hd : decode cc pc = .ok (.iaload, 1)) (h : xiald lay lv st σ k i = some (O, lv', st', σ')) (hO : O)
    (kk : XV p l e R s m args below meth c Q D cl ty ad0 n0 A nL cells slots (pc + 1) lv' st' lay σ') : XV p l e R s m args below meth c Q D cl ty ad0 n0 A nL cells slots pc lv (.int i :: .ref k :: st) lay σ := by
  obtain ⟨hx, hb, hml, hown, hts, hK, hA, hcl, hfl, hkc⟩ := B
  unfold xiald at h
  split at h
  · rename_i n hlk
    simp only [Option.some.injEq, Prod.mk.injEq] at h
    obtain ⟨rfl, rfl, rfl, rfl⟩ := h
    intro ad hag H locs ls hP hD hS hl
    have hat := xw_at (ad := ad) (ty := ty) (σ := σ) hlk
    exact va_iald hx hb hK hP k 0 (cA := ty 0) (n := n) (f := σ.1 k) (by rw [hat]; simp [xcell]) rfl hO hd (kk ad hag H locs ls hP hD hS hl)
  · cases h
set_option maxHeartbeats 4000000 in
theorem XV.iast (B : XB p s m args c D ty A own cc nL Ts cl fl kc) {k : Nat} {i x : Int32} (hd : decode cc pc = .ok (.iastore, 1)) (h : xiast lay lv st σ k i x = some (O, lv', st', σ')) (hO : O)
    (kk : XV p l e R s m args below meth c Q D cl ty ad0 n0 A nL cells slots (pc + 1) lv' st' lay σ') : XV p l e R s m args below meth c Q D cl ty ad0 n0 A nL cells slots pc lv (.int x :: .int i :: .ref k :: st) lay σ := by
  obtain ⟨hx, hb, hml, hown, hts, hK, hA, hcl, hfl, hkc⟩ := B
  unfold xiast at h
  split at h
  · rename_i n hlk
    simp only [Option.some.injEq, Prod.mk.injEq] at h
    obtain ⟨rfl, rfl, rfl, rfl⟩ := h
    intro ad hag H locs ls hP hD hS hl
    obtain ⟨M, L⟩ := σ
    have hat := xw_at (ad := ad) (ty := ty) (σ := (M, L)) hlk
    refine va_iast hx hb hK hP hD hS k 0 (cA := ty 0) (n := n) (f := M k) (by rw [hat]; simp [xcell]) rfl hO hd (fun H1 locs1 hP1 hD1 hS1 => ?_)
    rw [xw_ast hlk (by decide)] at hP1 hD1
    exact kk ad hag H1 locs1 ls hP1 hD1 hS1 hl
  · cases h
set_option maxHeartbeats 4000000 in
theorem XV.lald (B : XB p s m args c D ty A own cc nL Ts cl fl kc) {k : Nat} {i : Int32} (hd : decode cc pc = .ok (.laload, 1)) (h : xlald lay lv st σ k i = some (O, lv', st', σ')) (hO : O)
    (kk : XV p l e R s m args below meth c Q D cl ty ad0 n0 A nL cells slots (pc + 1) lv' st' lay σ') : XV p l e R s m args below meth c Q D cl ty ad0 n0 A nL cells slots pc lv (.int i :: .ref k :: st) lay σ := by
  obtain ⟨hx, hb, hml, hown, hts, hK, hA, hcl, hfl, hkc⟩ := B
  unfold xlald at h
  split at h
  · rename_i n hlk
    simp only [Option.some.injEq, Prod.mk.injEq] at h
    obtain ⟨rfl, rfl, rfl, rfl⟩ := h
    intro ad hag H locs ls hP hD hS hl
    have hat := xw_at (ad := ad) (ty := ty) (σ := σ) hlk
    exact va_lald hx hb hK hP k 1 (cA := ty 1) (n := n) (f := σ.2 k) (by rw [hat]; simp [xcell]) rfl hO hd (kk ad hag H locs ls hP hD hS hl)
  · cases h
set_option maxHeartbeats 4000000 in
theorem XV.last (B : XB p s m args c D ty A own cc nL Ts cl fl kc) {k : Nat} {i : Int32} {x : Int64} (hd : decode cc pc = .ok (.lastore, 1)) (h : xlast lay lv st σ k i x = some (O, lv', st', σ')) (hO : O)
    (kk : XV p l e R s m args below meth c Q D cl ty ad0 n0 A nL cells slots (pc + 1) lv' st' lay σ') : XV p l e R s m args below meth c Q D cl ty ad0 n0 A nL cells slots pc lv (.long x :: .int i :: .ref k :: st) lay σ := by
  obtain ⟨hx, hb, hml, hown, hts, hK, hA, hcl, hfl, hkc⟩ := B
  unfold xlast at h
  split at h
  · rename_i n hlk
    simp only [Option.some.injEq, Prod.mk.injEq] at h
    obtain ⟨rfl, rfl, rfl, rfl⟩ := h
    intro ad hag H locs ls hP hD hS hl
    obtain ⟨M, L⟩ := σ
    have hat := xw_at (ad := ad) (ty := ty) (σ := (M, L)) hlk
    refine va_last hx hb hK hP hD hS k 1 (cA := ty 1) (n := n) (f := L k) (by rw [hat]; simp [xcell]) rfl hO hd (fun H1 locs1 hP1 hD1 hS1 => ?_)
    rw [xw_lst hlk] at hP1 hD1
    exact kk ad hag H1 locs1 ls hP1 hD1 hS1 hl
  · cases h

theorem XV.iload_n (B : XB p s m args c D ty A own cc nL Ts cl fl kc) {i : Fin 4} (hd : decode cc pc = .ok (.iload_n i, 1)) (h : xloadI lv st σ i = some (O, lv', st', σ'))
    (kk : XV p l e R s m args below meth c Q D cl ty ad0 n0 A nL cells slots (pc + 1) lv' st' lay σ') : XV p l e R s m args below meth c Q D cl ty ad0 n0 A nL cells slots pc lv st lay σ := by
  unfold xloadI at h
  split at h
  · rename_i x hx
    simp only [Option.some.injEq, Prod.mk.injEq] at h
    obtain ⟨-, rfl, rfl, rfl⟩ := h
    exact XV.step (fun ad H locs ls hl w => lv_iload_n B.1 B.2.1 hd rfl (xld_at hl hx) w) kk
  · cases h
theorem XV.iload (B : XB p s m args c D ty A own cc nL Ts cl fl kc) {i : Nat} (hd : decode cc pc = .ok (.iload i, 2)) (h : xloadI lv st σ i = some (O, lv', st', σ'))
    (kk : XV p l e R s m args below meth c Q D cl ty ad0 n0 A nL cells slots (pc + 2) lv' st' lay σ') : XV p l e R s m args below meth c Q D cl ty ad0 n0 A nL cells slots pc lv st lay σ := by
  unfold xloadI at h
  split at h
  · rename_i x hx
    simp only [Option.some.injEq, Prod.mk.injEq] at h
    obtain ⟨-, rfl, rfl, rfl⟩ := h
    exact XV.step (fun ad H locs ls hl w => lv_iload B.1 B.2.1 hd (xld_at hl hx) w) kk
  · cases h
theorem XV.lload_n (B : XB p s m args c D ty A own cc nL Ts cl fl kc) {i : Fin 4} (hd : decode cc pc = .ok (.lload_n i, 1)) (h : xloadL lv st σ i = some (O, lv', st', σ'))
    (kk : XV p l e R s m args below meth c Q D cl ty ad0 n0 A nL cells slots (pc + 1) lv' st' lay σ') : XV p l e R s m args below meth c Q D cl ty ad0 n0 A nL cells slots pc lv st lay σ := by
  unfold xloadL at h
  split at h
  · rename_i x hx
    simp only [Option.some.injEq, Prod.mk.injEq] at h
    obtain ⟨-, rfl, rfl, rfl⟩ := h
    exact XV.step (fun ad H locs ls hl w => lv_lload_n B.1 B.2.1 hd rfl (xld_at hl hx) w) kk
  · cases h
theorem XV.lload (B : XB p s m args c D ty A own cc nL Ts cl fl kc) {i : Nat} (hd : decode cc pc = .ok (.lload i, 2)) (h : xloadL lv st σ i = some (O, lv', st', σ'))
    (kk : XV p l e R s m args below meth c Q D cl ty ad0 n0 A nL cells slots (pc + 2) lv' st' lay σ') : XV p l e R s m args below meth c Q D cl ty ad0 n0 A nL cells slots pc lv st lay σ := by
  unfold xloadL at h
  split at h
  · rename_i x hx
    simp only [Option.some.injEq, Prod.mk.injEq] at h
    obtain ⟨-, rfl, rfl, rfl⟩ := h
    exact XV.step (fun ad H locs ls hl w => lv_lload B.1 B.2.1 hd (xld_at hl hx) w) kk
  · cases h
theorem XV.aload_n (B : XB p s m args c D ty A own cc nL Ts cl fl kc) {i : Fin 4} (hd : decode cc pc = .ok (.aload_n i, 1)) (h : xloadA lv st σ i = some (O, lv', st', σ'))
    (kk : XV p l e R s m args below meth c Q D cl ty ad0 n0 A nL cells slots (pc + 1) lv' st' lay σ') : XV p l e R s m args below meth c Q D cl ty ad0 n0 A nL cells slots pc lv st lay σ := by
  unfold xloadA at h
  split at h
  · rename_i x hx
    simp only [Option.some.injEq, Prod.mk.injEq] at h
    obtain ⟨-, rfl, rfl, rfl⟩ := h
    exact XV.step (fun ad H locs ls hl w => lv_aload_n B.1 B.2.1 hd rfl (xld_at hl hx) w) kk
  · cases h
theorem XV.aload (B : XB p s m args c D ty A own cc nL Ts cl fl kc) {i : Nat} (hd : decode cc pc = .ok (.aload i, 2)) (h : xloadA lv st σ i = some (O, lv', st', σ'))
    (kk : XV p l e R s m args below meth c Q D cl ty ad0 n0 A nL cells slots (pc + 2) lv' st' lay σ') : XV p l e R s m args below meth c Q D cl ty ad0 n0 A nL cells slots pc lv st lay σ := by
  unfold xloadA at h
  split at h
  · rename_i x hx
    simp only [Option.some.injEq, Prod.mk.injEq] at h
    obtain ⟨-, rfl, rfl, rfl⟩ := h
    exact XV.step (fun ad H locs ls hl w => lv_aload B.1 B.2.1 hd (xld_at hl hx) w) kk
  · cases h
theorem XV.istore_n (B : XB p s m args c D ty A own cc nL Ts cl fl kc) {i : Fin 4} {x : Int32} (hd : decode cc pc = .ok (.istore_n i, 1)) (h : xstore1 nL lv (.int x) st σ i = some (O, lv', st', σ'))
    (kk : XV p l e R s m args below meth c Q D cl ty ad0 n0 A nL cells slots (pc + 1) lv' st' lay σ') : XV p l e R s m args below meth c Q D cl ty ad0 n0 A nL cells slots pc lv (.int x :: st) lay σ := by
  unfold xstore1 at h
  split at h
  · rename_i hn
    simp only [Option.some.injEq, Prod.mk.injEq] at h
    obtain ⟨-, rfl, rfl, rfl⟩ := h
    exact XV.stloc (fun ad H locs ls hl w => lv_istore_n B.1 B.2.1 hd rfl hl hn (xst1_map (v := .int x)) w) kk
  · cases h
theorem XV.istore (B : XB p s m args c D ty A own cc nL Ts cl fl kc) {i : Nat} {x : Int32} (hd : decode cc pc = .ok (.istore i, 2)) (h : xstore1 nL lv (.int x) st σ i = some (O, lv', st', σ'))
    (kk : XV p l e R s m args below meth c Q D cl ty ad0 n0 A nL cells slots (pc + 2) lv' st' lay σ') : XV p l e R s m args below meth c Q D cl ty ad0 n0 A nL cells slots pc lv (.int x :: st) lay σ := by
  unfold xstore1 at h
  split at h
  · rename_i hn
    simp only [Option.some.injEq, Prod.mk.injEq] at h
    obtain ⟨-, rfl, rfl, rfl⟩ := h
    exact XV.stloc (fun ad H locs ls hl w => lv_istore B.1 B.2.1 hd hl hn (xst1_map (v := .int x)) w) kk
  · cases h
theorem XV.lstore_n (B : XB p s m args c D ty A own cc nL Ts cl fl kc) {i : Fin 4} {x : Int64} (hd : decode cc pc = .ok (.lstore_n i, 1)) (h : xstore2 nL lv (.long x) st σ i = some (O, lv', st', σ'))
    (kk : XV p l e R s m args below meth c Q D cl ty ad0 n0 A nL cells slots (pc + 1) lv' st' lay σ') : XV p l e R s m args below meth c Q D cl ty ad0 n0 A nL cells slots pc lv (.long x :: st) lay σ := by
  unfold xstore2 at h
  split at h
  · rename_i hn
    simp only [Option.some.injEq, Prod.mk.injEq] at h
    obtain ⟨-, rfl, rfl, rfl⟩ := h
    exact XV.stloc (fun ad H locs ls hl w => lv_lstore_n B.1 B.2.1 hd rfl hl hn (xst2_map (v := .long x)) w) kk
  · cases h
theorem XV.lstore (B : XB p s m args c D ty A own cc nL Ts cl fl kc) {i : Nat} {x : Int64} (hd : decode cc pc = .ok (.lstore i, 2)) (h : xstore2 nL lv (.long x) st σ i = some (O, lv', st', σ'))
    (kk : XV p l e R s m args below meth c Q D cl ty ad0 n0 A nL cells slots (pc + 2) lv' st' lay σ') : XV p l e R s m args below meth c Q D cl ty ad0 n0 A nL cells slots pc lv (.long x :: st) lay σ := by
  unfold xstore2 at h
  split at h
  · rename_i hn
    simp only [Option.some.injEq, Prod.mk.injEq] at h
    obtain ⟨-, rfl, rfl, rfl⟩ := h
    exact XV.stloc (fun ad H locs ls hl w => lv_lstore B.1 B.2.1 hd hl hn (xst2_map (v := .long x)) w) kk
  · cases h
theorem XV.astore_n (B : XB p s m args c D ty A own cc nL Ts cl fl kc) {i : Fin 4} {x : Nat} (hd : decode cc pc = .ok (.astore_n i, 1)) (h : xstore1 nL lv (.ref x) st σ i = some (O, lv', st', σ'))
    (kk : XV p l e R s m args below meth c Q D cl ty ad0 n0 A nL cells slots (pc + 1) lv' st' lay σ') : XV p l e R s m args below meth c Q D cl ty ad0 n0 A nL cells slots pc lv (.ref x :: st) lay σ := by
  unfold xstore1 at h
  split at h
  · rename_i hn
    simp only [Option.some.injEq, Prod.mk.injEq] at h
    obtain ⟨-, rfl, rfl, rfl⟩ := h
    exact XV.stloc (fun ad H locs ls hl w => lv_astore_n B.1 B.2.1 hd rfl hl hn (xst1_map (v := .ref x)) w) kk
  · cases h
theorem XV.astore (B : XB p s m args c D ty A own cc nL Ts cl fl kc) {i : Nat} {x : Nat} (hd : decode cc pc = .ok (.astore i, 2)) (h : xstore1 nL lv (.ref x) st σ i = some (O, lv', st', σ'))
    (kk : XV p l e R s m args below meth c Q D cl ty ad0 n0 A nL cells slots (pc + 2) lv' st' lay σ') : XV p l e R s m args below meth c Q D cl ty ad0 n0 A nL cells slots pc lv (.ref x :: st) lay σ := by
  unfold xstore1 at h
  split at h
  · rename_i hn
    simp only [Option.some.injEq, Prod.mk.injEq] at h
    obtain ⟨-, rfl, rfl, rfl⟩ := h
    exact XV.stloc (fun ad H locs ls hl w => lv_astore B.1 B.2.1 hd hl hn (xst1_map (v := .ref x)) w) kk
  · cases h
theorem XV.iinc (B : XB p s m args c D ty A own cc nL Ts cl fl kc) {i : Nat} {n : Int} {x : Int32} (hd : decode cc pc = .ok (.iinc i n, 3)) (hv : xld lv i = some (.int x)) (h : xstore1 nL lv (.int (x + Int32.ofInt n)) st σ i = some (O, lv', st', σ'))
    (kk : XV p l e R s m args below meth c Q D cl ty ad0 n0 A nL cells slots (pc + 3) lv' st' lay σ') : XV p l e R s m args below meth c Q D cl ty ad0 n0 A nL cells slots pc lv st lay σ := by
  unfold xstore1 at h
  split at h
  · rename_i hn
    simp only [Option.some.injEq, Prod.mk.injEq] at h
    obtain ⟨-, rfl, rfl, rfl⟩ := h
    refine XV.stloc (fun ad H locs ls hl w => ?_) kk
    obtain ⟨q, hq⟩ : ∃ q, (xlm ad lv)[q]? = some (i, Value.int x) := by
      simp only [xld, Option.map_eq_some_iff] at hv
      obtain ⟨q, hq, hq2⟩ := hv
      have h1 := List.mem_of_find?_eq_some hq
      have h2 : q.1 = i := by simpa using List.find?_some hq
      obtain ⟨k, hk⟩ := List.getElem?_of_mem h1
      refine ⟨k, ?_⟩
      obtain ⟨a, b⟩ := q
      dsimp only at hq2 h2
      subst hq2
      subst h2
      show (List.map (fun q : Nat × Value => (q.1, xr ad q.2)) lv)[k]? = _
      rw [List.getElem?_map, hk]
      rfl
    exact lv_iinc B.1 B.2.1 hd hl hq rfl hn (xst1_map (v := .int (x + Int32.ofInt n))) w
  · cases h
set_option maxHeartbeats 16000000 in
set_option maxRecDepth 20000 in
theorem XV.one (B : XB p s m args c D ty A own cc nL Ts cl fl kc) {i : Instr} {n : Nat} {cv : Value} (hq : xokB cc (pc, i, n, cv) = true) (hn : xokL (pc, i, n, cv) = true) (h : x1 fl kc nL lay (pc, i, n, cv) lv st σ = some (O, lv', st', σ')) (hO : O)
    (kk : XV p l e R s m args below meth c Q D cl ty ad0 n0 A nL cells slots (pc + n) lv' st' lay σ') : XV p l e R s m args below meth c Q D cl ty ad0 n0 A nL cells slots pc lv st lay σ := by
  simp only [xokB, Bool.and_eq_true, decide_eq_true_eq] at hq
  simp only [xokL, decide_eq_true_eq] at hn
  obtain ⟨hd, hv⟩ := hq
  unfold x1 at h
  dsimp only at h
  split at h
  · simp only [Option.some.injEq, Prod.mk.injEq] at h
    obtain ⟨-, rfl, rfl, rfl⟩ := h
    simp only [xlen] at hn
    subst hn
    cases cv <;> first | (simp at hv; done) | exact XV.step (fun ad H locs ls hl w => lv_iconst B.1 B.2.1 hd (by simpa using hv) w) kk
  · simp only [Option.some.injEq, Prod.mk.injEq] at h
    obtain ⟨-, rfl, rfl, rfl⟩ := h
    simp only [xlen] at hn
    subst hn
    cases cv <;> first | (simp at hv; done) | exact XV.step (fun ad H locs ls hl w => lv_bipush B.1 B.2.1 hd (by simpa using hv) w) kk
  · simp only [Option.some.injEq, Prod.mk.injEq] at h
    obtain ⟨-, rfl, rfl, rfl⟩ := h
    simp only [xlen] at hn
    subst hn
    cases cv <;> first | (simp at hv; done) | exact XV.step (fun ad H locs ls hl w => lv_sipush B.1 B.2.1 hd (by simpa using hv) w) kk
  · simp only [Option.some.injEq, Prod.mk.injEq] at h
    obtain ⟨-, rfl, rfl, rfl⟩ := h
    simp only [xlen] at hn
    subst hn
    cases cv <;> first | (simp at hv; done) | exact XV.step (fun ad H locs ls hl w => lv_lconst B.1 B.2.1 hd (by simpa using hv) w) kk
  · split at h
    · rename_i v hk
      simp only [Option.some.injEq, Prod.mk.injEq] at h
      obtain ⟨-, rfl, rfl, rfl⟩ := h
      simp only [xlen] at hn
      subst hn
      exact XV.step (fun ad H locs ls hl w => lv_ldc B.1 B.2.1 B.2.2.2.1 (B.2.2.2.2.1 _ ((xkc_at B.2.2.2.2.2.2.2.2.2 hk).1 v rfl)) hd w) kk
    · cases h
  · split at h
    · rename_i v hk
      simp only [Option.some.injEq, Prod.mk.injEq] at h
      obtain ⟨-, rfl, rfl, rfl⟩ := h
      simp only [xlen] at hn
      subst hn
      exact XV.step (fun ad H locs ls hl w => lv_ldcw B.1 B.2.1 B.2.2.2.1 (B.2.2.2.2.1 _ ((xkc_at B.2.2.2.2.2.2.2.2.2 hk).1 v rfl)) hd w) kk
    · cases h
  · split at h
    · rename_i v hk
      simp only [Option.some.injEq, Prod.mk.injEq] at h
      obtain ⟨-, rfl, rfl, rfl⟩ := h
      simp only [xlen] at hn
      subst hn
      exact XV.step (fun ad H locs ls hl w => lv_ldc2 B.1 B.2.1 B.2.2.2.1 (B.2.2.2.2.1 _ ((xkc_at B.2.2.2.2.2.2.2.2.2 hk).2 v rfl)) hd w) kk
    · cases h
  · simp only [xlen] at hn
    subst hn
    exact XV.iload_n B hd h kk
  · simp only [xlen] at hn
    subst hn
    exact XV.iload B hd h kk
  · simp only [xlen] at hn
    subst hn
    exact XV.lload_n B hd h kk
  · simp only [xlen] at hn
    subst hn
    exact XV.lload B hd h kk
  · simp only [xlen] at hn
    subst hn
    exact XV.aload_n B hd h kk
  · simp only [xlen] at hn
    subst hn
    exact XV.aload B hd h kk
  · simp only [xlen] at hn
    subst hn
    exact XV.istore_n B hd h kk
  · simp only [xlen] at hn
    subst hn
    exact XV.istore B hd h kk
  · simp only [xlen] at hn
    subst hn
    exact XV.lstore_n B hd h kk
  · simp only [xlen] at hn
    subst hn
    exact XV.lstore B hd h kk
  · simp only [xlen] at hn
    subst hn
    exact XV.astore_n B hd h kk
  · simp only [xlen] at hn
    subst hn
    exact XV.astore B hd h kk
  · split at h
    · rename_i x hx
      simp only [xlen] at hn
      subst hn
      exact XV.iinc B hd hx h kk
    · cases h
  · simp only [Option.some.injEq, Prod.mk.injEq] at h
    obtain ⟨-, rfl, rfl, rfl⟩ := h
    simp only [xlen] at hn
    subst hn
    exact XV.step (fun ad H locs ls hl w => lv_iadd B.1 B.2.1 hd w) kk
  · simp only [Option.some.injEq, Prod.mk.injEq] at h
    obtain ⟨-, rfl, rfl, rfl⟩ := h
    simp only [xlen] at hn
    subst hn
    exact XV.step (fun ad H locs ls hl w => lv_isub B.1 B.2.1 hd w) kk
  · simp only [Option.some.injEq, Prod.mk.injEq] at h
    obtain ⟨-, rfl, rfl, rfl⟩ := h
    simp only [xlen] at hn
    subst hn
    exact XV.step (fun ad H locs ls hl w => lv_imul B.1 B.2.1 hd w) kk
  · simp only [Option.some.injEq, Prod.mk.injEq] at h
    obtain ⟨-, rfl, rfl, rfl⟩ := h
    simp only [xlen] at hn
    subst hn
    exact XV.step (fun ad H locs ls hl w => lv_iand B.1 B.2.1 hd w) kk
  · simp only [Option.some.injEq, Prod.mk.injEq] at h
    obtain ⟨-, rfl, rfl, rfl⟩ := h
    simp only [xlen] at hn
    subst hn
    exact XV.step (fun ad H locs ls hl w => lv_ior B.1 B.2.1 hd w) kk
  · simp only [Option.some.injEq, Prod.mk.injEq] at h
    obtain ⟨-, rfl, rfl, rfl⟩ := h
    simp only [xlen] at hn
    subst hn
    exact XV.step (fun ad H locs ls hl w => lv_ixor B.1 B.2.1 hd w) kk
  · simp only [Option.some.injEq, Prod.mk.injEq] at h
    obtain ⟨-, rfl, rfl, rfl⟩ := h
    simp only [xlen] at hn
    subst hn
    exact XV.step (fun ad H locs ls hl w => lv_ineg B.1 B.2.1 hd w) kk
  · simp only [Option.some.injEq, Prod.mk.injEq] at h
    obtain ⟨-, rfl, rfl, rfl⟩ := h
    simp only [xlen] at hn
    subst hn
    exact XV.step (fun ad H locs ls hl w => lv_ishl B.1 B.2.1 hd w) kk
  · simp only [Option.some.injEq, Prod.mk.injEq] at h
    obtain ⟨-, rfl, rfl, rfl⟩ := h
    simp only [xlen] at hn
    subst hn
    exact XV.step (fun ad H locs ls hl w => lv_ishr B.1 B.2.1 hd w) kk
  · simp only [Option.some.injEq, Prod.mk.injEq] at h
    obtain ⟨-, rfl, rfl, rfl⟩ := h
    simp only [xlen] at hn
    subst hn
    exact XV.step (fun ad H locs ls hl w => lv_iushr B.1 B.2.1 hd rfl w) kk
  · simp only [Option.some.injEq, Prod.mk.injEq] at h
    obtain ⟨rfl, rfl, rfl, rfl⟩ := h
    simp only [xlen] at hn
    subst hn
    exact XV.step (fun ad H locs ls hl w => lv_idiv B.1 B.2.1 hd hO w) kk
  · simp only [Option.some.injEq, Prod.mk.injEq] at h
    obtain ⟨rfl, rfl, rfl, rfl⟩ := h
    simp only [xlen] at hn
    subst hn
    exact XV.step (fun ad H locs ls hl w => lv_irem B.1 B.2.1 hd hO w) kk
  · simp only [Option.some.injEq, Prod.mk.injEq] at h
    obtain ⟨-, rfl, rfl, rfl⟩ := h
    simp only [xlen] at hn
    subst hn
    exact XV.step (fun ad H locs ls hl w => lv_ladd B.1 B.2.1 hd w) kk
  · simp only [Option.some.injEq, Prod.mk.injEq] at h
    obtain ⟨-, rfl, rfl, rfl⟩ := h
    simp only [xlen] at hn
    subst hn
    exact XV.step (fun ad H locs ls hl w => lv_lsub B.1 B.2.1 hd w) kk
  · simp only [Option.some.injEq, Prod.mk.injEq] at h
    obtain ⟨-, rfl, rfl, rfl⟩ := h
    simp only [xlen] at hn
    subst hn
    exact XV.step (fun ad H locs ls hl w => lv_lmul B.1 B.2.1 hd w) kk
  · simp only [Option.some.injEq, Prod.mk.injEq] at h
    obtain ⟨-, rfl, rfl, rfl⟩ := h
    simp only [xlen] at hn
    subst hn
    exact XV.step (fun ad H locs ls hl w => lv_land B.1 B.2.1 hd w) kk
  · simp only [Option.some.injEq, Prod.mk.injEq] at h
    obtain ⟨-, rfl, rfl, rfl⟩ := h
    simp only [xlen] at hn
    subst hn
    exact XV.step (fun ad H locs ls hl w => lv_lor B.1 B.2.1 hd w) kk
  · simp only [Option.some.injEq, Prod.mk.injEq] at h
    obtain ⟨-, rfl, rfl, rfl⟩ := h
    simp only [xlen] at hn
    subst hn
    exact XV.step (fun ad H locs ls hl w => lv_lxor B.1 B.2.1 hd w) kk
  · simp only [Option.some.injEq, Prod.mk.injEq] at h
    obtain ⟨-, rfl, rfl, rfl⟩ := h
    simp only [xlen] at hn
    subst hn
    exact XV.step (fun ad H locs ls hl w => lv_lneg B.1 B.2.1 hd w) kk
  · simp only [Option.some.injEq, Prod.mk.injEq] at h
    obtain ⟨rfl, rfl, rfl, rfl⟩ := h
    simp only [xlen] at hn
    subst hn
    exact XV.step (fun ad H locs ls hl w => lv_ldiv B.1 B.2.1 hd hO w) kk
  · simp only [Option.some.injEq, Prod.mk.injEq] at h
    obtain ⟨rfl, rfl, rfl, rfl⟩ := h
    simp only [xlen] at hn
    subst hn
    exact XV.step (fun ad H locs ls hl w => lv_lrem B.1 B.2.1 hd hO w) kk
  · simp only [Option.some.injEq, Prod.mk.injEq] at h
    obtain ⟨-, rfl, rfl, rfl⟩ := h
    simp only [xlen] at hn
    subst hn
    exact XV.step (fun ad H locs ls hl w => lv_lshl B.1 B.2.1 hd rfl w) kk
  · simp only [Option.some.injEq, Prod.mk.injEq] at h
    obtain ⟨-, rfl, rfl, rfl⟩ := h
    simp only [xlen] at hn
    subst hn
    exact XV.step (fun ad H locs ls hl w => lv_lshr B.1 B.2.1 hd rfl w) kk
  · simp only [Option.some.injEq, Prod.mk.injEq] at h
    obtain ⟨-, rfl, rfl, rfl⟩ := h
    simp only [xlen] at hn
    subst hn
    exact XV.step (fun ad H locs ls hl w => lv_lushr B.1 B.2.1 hd rfl w) kk
  · simp only [Option.some.injEq, Prod.mk.injEq] at h
    obtain ⟨-, rfl, rfl, rfl⟩ := h
    simp only [xlen] at hn
    subst hn
    exact XV.step (fun ad H locs ls hl w => W.lcmp B.1 B.2.1 hd w) kk
  · simp only [Option.some.injEq, Prod.mk.injEq] at h
    obtain ⟨-, rfl, rfl, rfl⟩ := h
    simp only [xlen] at hn
    subst hn
    exact XV.step (fun ad H locs ls hl w => lv_i2l B.1 B.2.1 hd rfl w) kk
  · simp only [Option.some.injEq, Prod.mk.injEq] at h
    obtain ⟨-, rfl, rfl, rfl⟩ := h
    simp only [xlen] at hn
    subst hn
    exact XV.step (fun ad H locs ls hl w => lv_l2i B.1 B.2.1 hd rfl w) kk
  · simp only [Option.some.injEq, Prod.mk.injEq] at h
    obtain ⟨-, rfl, rfl, rfl⟩ := h
    simp only [xlen] at hn
    subst hn
    exact XV.step (fun ad H locs ls hl w => lv_i2b B.1 B.2.1 hd rfl w) kk
  · simp only [Option.some.injEq, Prod.mk.injEq] at h
    obtain ⟨-, rfl, rfl, rfl⟩ := h
    simp only [xlen] at hn
    subst hn
    exact XV.step (fun ad H locs ls hl w => lv_i2s B.1 B.2.1 hd rfl w) kk
  · simp only [Option.some.injEq, Prod.mk.injEq] at h
    obtain ⟨-, rfl, rfl, rfl⟩ := h
    simp only [xlen] at hn
    subst hn
    exact XV.step (fun ad H locs ls hl w => lv_i2c B.1 B.2.1 hd rfl w) kk
  · split at h
    · rename_i h1
      simp only [Option.some.injEq, Prod.mk.injEq] at h
      obtain ⟨-, rfl, rfl, rfl⟩ := h
      simp only [xlen] at hn
      subst hn
      exact XV.step (fun ad H locs ls hl w => lv_dup B.1 B.2.1 hd ((xr_cat _ _).trans h1) w) kk
    · cases h
  · split at h
    · rename_i h1
      simp only [Option.some.injEq, Prod.mk.injEq] at h
      obtain ⟨-, rfl, rfl, rfl⟩ := h
      simp only [xlen] at hn
      subst hn
      exact XV.step (fun ad H locs ls hl w => lv_pop B.1 B.2.1 hd ((xr_cat _ _).trans h1) w) kk
    · cases h
  · split at h
    · rename_i h1
      simp only [Option.some.injEq, Prod.mk.injEq] at h
      obtain ⟨-, rfl, rfl, rfl⟩ := h
      simp only [xlen] at hn
      subst hn
      exact XV.step (fun ad H locs ls hl w => lv_dup_x1 B.1 B.2.1 hd ((xr_cat _ _).trans h1.1) ((xr_cat _ _).trans h1.2) w) kk
    · cases h
  · split at h
    · rename_i h1
      simp only [Option.some.injEq, Prod.mk.injEq] at h
      obtain ⟨-, rfl, rfl, rfl⟩ := h
      simp only [xlen] at hn
      subst hn
      exact XV.step (fun ad H locs ls hl w => lv_dup_x2 B.1 B.2.1 hd ((xr_cat _ _).trans h1.1) ((xr_cat _ _).trans h1.2.1) ((xr_cat _ _).trans h1.2.2) w) kk
    · cases h
  · split at h
    · rename_i h1
      simp only [Option.some.injEq, Prod.mk.injEq] at h
      obtain ⟨-, rfl, rfl, rfl⟩ := h
      simp only [xlen] at hn
      subst hn
      exact XV.step (fun ad H locs ls hl w => lv_dup2_11 B.1 B.2.1 hd ((xr_cat _ _).trans h1.1) ((xr_cat _ _).trans h1.2) w) kk
    · split at h
      · rename_i h1
        simp only [Option.some.injEq, Prod.mk.injEq] at h
        obtain ⟨-, rfl, rfl, rfl⟩ := h
        simp only [xlen] at hn
        subst hn
        exact XV.step (fun ad H locs ls hl w => lv_dup2_2 B.1 B.2.1 hd ((xr_cat _ _).trans h1) w) kk
      · cases h
  · simp only [xlen] at hn
    subst hn
    exact XV.get (n := 3) B hd h kk
  · simp only [xlen] at hn
    subst hn
    exact XV.put (n := 3) B hd h hO kk
  · simp only [xlen] at hn
    subst hn
    exact XV.iald B hd h hO kk
  · simp only [xlen] at hn
    subst hn
    exact XV.iast B hd h hO kk
  · simp only [xlen] at hn
    subst hn
    exact XV.lald B hd h hO kk
  · simp only [xlen] at hn
    subst hn
    exact XV.last B hd h hO kk
  · split at h
    · rename_i n1 hlk
      simp only [Option.some.injEq, Prod.mk.injEq] at h
      obtain ⟨-, rfl, rfl, rfl⟩ := h
      simp only [xlen] at hn
      subst hn
      intro ad hag H locs ls hP hD hS hl
      have hat := xw_at (ad := ad) (ty := ty) (σ := σ) hlk
      exact va_alen B.1 B.2.1 B.2.2.2.2.2.1 hP _ 0 (cA := ty 0) (x := (n1, .inl (σ.1 _))) (by rw [hat]; rfl) rfl rfl hd (kk ad hag H locs ls hP hD hS hl)
    · cases h
  · cases h
end XROW
