/-! Math's words, some ranges -/
def fl_J9 : List xFl := []
def kc_J9 : List (Nat × Value) := []
theorem fl_J9_ok : xflOk RJ9 vwCl xtb fl_J9 := fun q h => nomatch h
theorem kc_J9_ok : xkcOk RJ9 xtb kc_J9 := fun q h => nomatch h
set_option maxRecDepth 50000 in
theorem yoJ9_max_7cf53 : XY yJ9_max_7cf53 cJ9_max_7cf53 2 (some .int) 2 0 := ⟨List.mem_of_getElem? (i := 584) rfl, x_in 145 (by decide +kernel) rfl, by decide +kernel, fun _ => x_in 583 (by decide +kernel) rfl, fun h => absurd h (by decide), fun h => absurd h (by decide)⟩
theorem x_1shl_all : ∀ j : Fin 32, -2147483648 ≤ ((1 : Int32) <<< (nI j.val)).toInt ∧ ((1 : Int32) <<< (nI j.val)).toInt ≤ 1073741824 := by decide +kernel
theorem x_1shl2_all : ∀ j : Fin 3, 1 ≤ ((1 : Int32) <<< (nI j.val &&& 31)).toInt ∧ ((1 : Int32) <<< (nI j.val &&& 31)).toInt ≤ 4 := by decide +kernel
theorem x_rg_1shl (y : Int32) : xrg (-2147483648) 1073741824 ((1 : Int32) <<< (y &&& 31)) := by
  have h := x_rg_and (x := y) (m := 31) (k := 31) (by decide) (by decide)
  obtain ⟨j, hj, e⟩ := vp_in_of (x := y &&& 31) (n := 32) (x_rgv h (by decide) (by decide)) (by decide)
  rw [e]
  exact x_1shl_all ⟨j, hj⟩
theorem x_rg_1shl2 {y : Int32} (h : xrg 0 2 y) : xrg 1 4 ((1 : Int32) <<< (y &&& 31)) := by
  obtain ⟨j, hj, rfl⟩ := vp_in_of (x := y) (n := 3) (x_rgv h (by decide) (by decide)) (by decide)
  exact x_1shl2_all ⟨j, hj⟩
theorem x_mease {k b : Int32} {n : Nat} {lo hi : Int} (hle : ¬ b < k) (hb : xrg lo hi b) (h : (b.toInt + 1 - k.toInt).toNat < n + 1) (hh : hi ≤ 2147483646 := by decide) : (b.toInt + 1 - (k + 1).toInt).toNat < n := by
  rw [x_lt] at hle
  obtain ⟨b1, b2⟩ := hb
  have hk := x_rgt k
  obtain ⟨a1, a2⟩ := hk
  have h1 : (k + 1).toInt = k.toInt + 1 := by
    have e1 : (1 : Int32).toInt = 1 := by decide
    rw [Int32.toInt_add, e1]
    apply Int.bmod_eq_of_le <;> omega
  rw [h1]
  omega
