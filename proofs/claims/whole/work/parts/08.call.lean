/-! CONTRACTS over places: the entry, the calls -/
def XP (D : va_G) (ty ad : Nat → Nat) (lay : List xL) (σ : xG) (sz : Nat) (avs : List Value) : Array Value → State → Prop :=
  va_Pc (avs.map (xr ad)) (fun U => U.heap.size = sz ∧ va_P D vwCl (xw ad ty σ lay) U.heap ∧ va_K D vwCl (xtys ty) U ∧ va_D (fun _ => True) (xw ad ty σ lay) ∧ XZ ad (va_A (xw ad ty σ lay) sz) U U.heap)
def XQ (D : va_G) (ty ad : Nat → Nat) (lay : List xL) (σ : xG) (sz : Nat) (Po : Option Value → xG → Prop) : Array Value → State → Outcome → State → Prop := fun _ st oc t =>
  (∃ (v : Option Value) (σ' : xG), oc = .returned (v.map (xr ad)) ∧ Po v σ' ∧ va_P D vwCl (xw ad ty σ' lay) t.heap ∧ va_D (va_A (xw ad ty σ lay) sz) (xw ad ty σ' lay)) ∧ va_F (va_A (xw ad ty σ lay) sz) st t
def xws (y : MethodName) (cc : ByteArray) (nL : Nat) (ret : Option FieldType) : List Cond := .code y cc nL ret :: lw_tbl.filter goodWord
def XM (l : Launch) (y : MethodName) (cc : ByteArray) (nL : Nat) (ret : Option FieldType) (rm : Room) (lay : List xL) (avs : List Value) (σ : xG) (Po : Option Value → xG → Prop) : Prop :=
  ∀ (D : va_G) (ty ad : Nat → Nat) (sz : Nat), Met l y (xws y cc nL ret) rm (XP D ty ad lay σ sz avs) (XQ D ty ad lay σ sz Po) 0 0 (va_A (xw ad ty σ lay) sz)
/-- what is returned is of the method's type -/
def xrok (ret : Option FieldType) (v : Option Value) : Prop := match ret, v with
  | some ty, some (.int x) => narrow ty (.int x) = .int x
  | some .long, some (.long _) => True
  | some (.object _), some (.ref _) => True
  | none, none => True
  | _, _ => False
theorem xargs_map (ad : Nat → Nat) : ∀ (i : Nat) (avs : List Value), lv_args i (avs.map (xr ad)) = xlm ad (lv_args i avs)
  | _, [] => rfl
  | i, v :: vs => by
    simp only [List.map_cons, lv_args, xlm, xr_cat]
    congr 1
    exact xargs_map ad _ vs
theorem xsl_len (ad : Nat → Nat) (avs : List Value) : (lg_sl (avs.map (xr ad))).length = (lg_sl avs).length := by
  induction avs with
  | nil => rfl
  | cons v vs ih =>
    simp only [lg_sl, List.map_cons, List.flatMap_cons, List.length_append, xr_cat] at ih ⊢
    rw [ih]
    split <;> rfl
theorem x_good {y : MethodName} {cc : ByteArray} {nL : Nat} {ret : Option FieldType} (h : Cond.code y cc nL ret ∈ lw_tbl) : GoodIn lw_tbl (xws y cc nL ret) := by
  intro w hw
  rcases List.mem_cons.mp hw with rfl | hw
  · exact ⟨h, Or.inl rfl⟩
  · obtain ⟨h1, h2⟩ := List.mem_filter.mp hw
    exact ⟨h1, good_of_word h2⟩
