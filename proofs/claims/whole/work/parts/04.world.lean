/-! A WORLD BY PLACES. Every object and array that the walk meets has a place (a number); a value's reference is a place, 'ad' tells the address.
Int fields and int elements lie in one store: σ.1 place index; long elements: σ.2 place index. -/
def xr (ad : Nat → Nat) : Value → Value
  | .ref k => .ref (ad k)
  | .int x => .int x
  | .long x => .long x
  | .null => .null
  | .float x => .float x
  | .double x => .double x
  | .retAddr x => .retAddr x
theorem xr_cat (ad : Nat → Nat) (v : Value) : (xr ad v).category = v.category := by cases v <;> rfl
/-- an array: its type's number, its length; an object: its class's number, its fields (none: an int of the store) -/
abbrev xL : Type := (Nat × Nat) ⊕ (Nat × List (Option Value))
abbrev xG : Type := (Nat → Nat → Int32) × (Nat → Nat → Int64)
def xfv (ad : Nat → Nat) (M : Nat → Int32) (j : Nat) : Option Value → Value
  | none => .int (M j)
  | some v => xr ad v
def xcell (ad ty : Nat → Nat) (σ : xG) (i : Nat) : xL → va_E
  | .inl q => .inl (ty q.1, q.2, if q.1 = 1 then .inr (.inl (σ.2 i)) else .inl (σ.1 i))
  | .inr o => .inr (o.1, o.2.mapIdx (xfv ad (σ.1 i)))
def xw (ad ty : Nat → Nat) (σ : xG) (lay : List xL) : va_W := lay.mapIdx fun i c => (ad i, xcell ad ty σ i c)
theorem xw_at {ad ty : Nat → Nat} {σ : xG} {lay : List xL} {k : Nat} {c : xL} (h : lay[k]? = some c) : (xw ad ty σ lay)[k]? = some (ad k, xcell ad ty σ k c) := by
  simp [xw, h]
/-- the store with one number changed -/
def xup (M : Nat → Nat → Int32) (i j : Nat) (v : Int32) : Nat → Nat → Int32 := va_up M i (upd (M i) j v)
theorem xup_other {M : Nat → Nat → Int32} {i j k : Nat} {v : Int32} (h : k ≠ i) : xup M i j v k = M k := va_up_ne M _ h
theorem xup_self {M : Nat → Nat → Int32} {i j : Nat} {v : Int32} : xup M i j v i = upd (M i) j v := va_up_self M _ _
theorem xcell_other {ad ty : Nat → Nat} {M : Nat → Nat → Int32} {L : Nat → Nat → Int64} {i j k : Nat} {v : Int32} {c : xL} (h : k ≠ i) : xcell ad ty (xup M i j v, L) k c = xcell ad ty (M, L) k c := by
  cases c <;> simp [xcell, xup_other h]
theorem xw_put {ad ty : Nat → Nat} {M : Nat → Nat → Int32} {L : Nat → Nat → Int64} {lay : List xL} {i j : Nat} {ci : Nat} {fs : List (Option Value)} {x : Int32} (h : lay[i]? = some (.inr (ci, fs))) (hj : fs[j]? = some none) :
    (xw ad ty (M, L) lay).set i (ad i, .inr (ci, (fs.mapIdx (xfv ad (M i))).set j (.int x))) = xw ad ty (xup M i j x, L) lay := by
  apply List.ext_getElem?
  intro k
  by_cases hk : i = k
  · subst hk
    have hl : i < lay.length := (List.getElem?_eq_some_iff.mp h).1
    have hl2 : i < (xw ad ty (M, L) lay).length := by simp [xw, hl]
    rw [List.getElem?_set_self hl2, xw_at h]
    simp only [xcell, xup_self]
    congr 3
    congr 1
    apply List.ext_getElem?
    intro q
    have hjl : j < fs.length := (List.getElem?_eq_some_iff.mp hj).1
    by_cases hq : j = q
    · subst hq
      rw [List.getElem?_set_self (by simp [hjl])]
      simp [hj, xfv, upd]
    · rw [List.getElem?_set_ne hq]
      simp only [List.getElem?_mapIdx]
      cases hf : fs[q]? with
      | none => rfl
      | some f =>
        have hq' : ¬ q = j := fun z => hq z.symm
        cases f <;> simp [xfv, upd, hq']
  · rw [List.getElem?_set_ne hk]
    simp only [xw, List.getElem?_mapIdx]
    cases hc : lay[k]? with
    | none => rfl
    | some c => simp [xcell_other (fun z => hk z.symm)]
theorem xw_ast {ad ty : Nat → Nat} {M : Nat → Nat → Int32} {L : Nat → Nat → Int64} {lay : List xL} {i j n t : Nat} {x : Int32} (h : lay[i]? = some (.inl (t, n))) (ht : t ≠ 1) :
    (xw ad ty (M, L) lay).set i (ad i, .inl (ty t, n, .inl (upd (M i) j x))) = xw ad ty (xup M i j x, L) lay := by
  apply List.ext_getElem?
  intro k
  by_cases hk : i = k
  · subst hk
    have hl : i < lay.length := (List.getElem?_eq_some_iff.mp h).1
    have hl2 : i < (xw ad ty (M, L) lay).length := by simp [xw, hl]
    rw [List.getElem?_set_self hl2, xw_at h]
    simp [xcell, xup_self, ht]
  · rw [List.getElem?_set_ne hk]
    simp only [xw, List.getElem?_mapIdx]
    cases hc : lay[k]? with
    | none => rfl
    | some c => simp [xcell_other (fun z => hk z.symm)]
/-- .. of longs -/
def xupL (L : Nat → Nat → Int64) (i j : Nat) (v : Int64) : Nat → Nat → Int64 := va_up L i (vp_updL (L i) j v)
theorem xupL_other {L : Nat → Nat → Int64} {i j k : Nat} {v : Int64} (h : k ≠ i) : xupL L i j v k = L k := va_up_ne L _ h
theorem xupL_self {L : Nat → Nat → Int64} {i j : Nat} {v : Int64} : xupL L i j v i = vp_updL (L i) j v := va_up_self L _ _
theorem xw_lst {ad ty : Nat → Nat} {M : Nat → Nat → Int32} {L : Nat → Nat → Int64} {lay : List xL} {i j n : Nat} {x : Int64} (h : lay[i]? = some (.inl (1, n))) :
    (xw ad ty (M, L) lay).set i (ad i, .inl (ty 1, n, .inr (.inl (vp_updL (L i) j x)))) = xw ad ty (M, xupL L i j x) lay := by
  apply List.ext_getElem?
  intro k
  by_cases hk : i = k
  · subst hk
    have hl : i < lay.length := (List.getElem?_eq_some_iff.mp h).1
    have hl2 : i < (xw ad ty (M, L) lay).length := by simp [xw, hl]
    rw [List.getElem?_set_self hl2, xw_at h]
    simp [xcell, xupL_self]
  · rw [List.getElem?_set_ne hk]
    simp only [xw, List.getElem?_mapIdx]
    cases hc : lay[k]? with
    | none => rfl
    | some c =>
      have hk' : k ≠ i := fun z => hk z.symm
      cases c <;> simp [xcell, xupL_other hk']
/-! locals -/
def xlm (ad : Nat → Nat) (lv : List (Nat × Value)) : List (Nat × Value) := lv.map fun q => (q.1, xr ad q.2)
def xld (lv : List (Nat × Value)) (i : Nat) : Option Value := (lv.find? (fun q => q.1 == i)).map (·.2)
theorem xld_at {ad : Nat → Nat} {ls : Array Slot} {nL : Nat} {lv : List (Nat × Value)} {i : Nat} {v : Value} (h : lv_has ls nL (xlm ad lv)) (hv : xld lv i = some v) : ls[i]? = some (.val (xr ad v)) := by
  simp only [xld, Option.map_eq_some_iff] at hv
  obtain ⟨q, hq, rfl⟩ := hv
  have h1 := List.mem_of_find?_eq_some hq
  have h2 := List.find?_some hq
  have h3 : q.1 = i := by simpa using h2
  subst h3
  exact h.2.2 (q.1, xr ad q.2) (List.mem_map.mpr ⟨q, h1, rfl⟩)
def xst1 (i : Nat) (v : Value) (lv : List (Nat × Value)) : List (Nat × Value) := (i, v) :: lv.filter (fun q => !(q.1 == i) && !(q.1 + 1 == i && q.2.category == 2))
def xst2 (i : Nat) (v : Value) (lv : List (Nat × Value)) : List (Nat × Value) := (i, v) :: lv.filter (fun q => !(q.1 == i) && (!(q.1 == i + 1) && !(q.1 + 1 == i && q.2.category == 2)))
theorem xst1_map {ad : Nat → Nat} {i : Nat} {v : Value} {lv : List (Nat × Value)} : (i, xr ad v) :: (xlm ad lv).filter (fun q => !(q.1 == i) && !(q.1 + 1 == i && q.2.category == 2)) = xlm ad (xst1 i v lv) := by
  simp only [xst1, xlm, List.map_cons, List.filter_map]
  congr 2
  apply List.filter_congr
  intro q _
  simp [xr_cat]
theorem xst2_map {ad : Nat → Nat} {i : Nat} {v : Value} {lv : List (Nat × Value)} : (i, xr ad v) :: (xlm ad lv).filter (fun q => !(q.1 == i) && (!(q.1 == i + 1) && !(q.1 + 1 == i && q.2.category == 2))) = xlm ad (xst2 i v lv) := by
  simp only [xst2, xlm, List.map_cons, List.filter_map]
  congr 2
  apply List.filter_congr
  intro q _
  simp [xr_cat]
