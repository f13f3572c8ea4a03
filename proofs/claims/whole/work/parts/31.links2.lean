/-! Math's words, some ranges -/
def xmax (x y : Int32) : Int32 := if x < y then y else x
theorem x_max7 {x y : Int32} (h : xrg 0 7 x) (h' : xrg 0 7 y) : xrg 0 7 (xmax x y) := by
  unfold xmax
  split
  · exact h'
  · exact h
section XMX
variable {l : Launch} {own nm : String} {cc : ByteArray} {nL : Nat} {R : Room} {mc ms : Nat} {fl : List xFl} {kc : List (Nat × Value)} {n0 : Nat} {Fin : Option Value → List xL → xG → Prop} {V : XJ}
variable {cells slots pc : Nat} {lay : List xL} {lv : List (Nat × Value)} {σ : xG} {idx : Nat}
theorem x_max (C : XC l own nm cc nL R mc ms fl kc n0 Fin V) {x y : Int32} (hw : Cond.methodLink own idx Lib.Math.max.name ∈ xtb ∧ Cond.static Lib.Math.max.name ∈ xtb ∧ Cond.initialized "java/lang/Math" ∈ xtb ∧ Cond.code Lib.Math.max.name Lib.Math.max.code 2 (some .int) ∈ xtb) (hR : 1 ≤ R.frames ∧ 13 ≤ R.locals) (hcs : cells ≤ R.cells ∧ slots ≤ R.slots) (hd : decode cc pc = .ok (.invokestatic idx, 3)) (kk : V cells slots (pc + 3) lv [.int (xmax x y)] lay σ) : V cells slots pc lv [.int y, .int x] lay σ := by
  obtain ⟨p, e, s, m, args, below, meth, c, Q, D, ty, ad0, A, rfl, B, -, hZ, -⟩ := C
  obtain ⟨hx, hb, hml, hown, hts, hK, hA, hcl, hfl, hkc⟩ := B
  intro ad hag H locs ls hP hD hS hl
  exact va_mmax hx hb (hml.trans hl.1.symm) hown (hts _ hw.1) (hts _ hw.2.1) (hts _ hw.2.2.1) (hts _ hw.2.2.2) hR.1 (by simpa using hR.2) hcs.1 hcs.2 hd (kk ad hag H locs ls hP hD hS hl)
end XMX
theorem max_code : prog_19_method_65_code = Lib.Math.max.code := by decide +kernel
set_option maxRecDepth 50000 in
theorem max_cw : Cond.code ⟨"java/lang/Math", "max", "(II)I"⟩ prog_19_method_65_code 2 (some .int) ∈ lw_tbl := List.mem_of_getElem? (i := 584) rfl
theorem max_ws : Cond.methodLink RX7 93 Lib.Math.max.name ∈ xtb ∧ Cond.static Lib.Math.max.name ∈ xtb ∧ Cond.initialized "java/lang/Math" ∈ xtb ∧ Cond.code Lib.Math.max.name Lib.Math.max.code 2 (some .int) ∈ xtb :=
  ⟨x_in 582 (by decide +kernel) rfl, x_in 583 (by decide +kernel) rfl, x_in 145 (by decide +kernel) rfl, List.mem_filter.mpr ⟨by rw [← max_code]; exact max_cw, rfl⟩⟩
theorem x_1shl_all : ∀ j : Fin 32, -2147483648 ≤ ((1 : Int32) <<< (nI j.val)).toInt ∧ ((1 : Int32) <<< (nI j.val)).toInt ≤ 1073741824 := by decide +kernel
theorem x_1shl2_all : ∀ j : Fin 3, 1 ≤ ((1 : Int32) <<< (nI j.val &&& 31)).toInt ∧ ((1 : Int32) <<< (nI j.val &&& 31)).toInt ≤ 4 := by decide +kernel
theorem x_rg_1shl (y : Int32) : xrg (-2147483648) 1073741824 ((1 : Int32) <<< (y &&& 31)) := by
  have h := x_rg_and (x := y) (m := 31) (k := 31) (by decide) (by decide)
  obtain ⟨j, hj, e⟩ := vp_in_of (x := y &&& 31) (n := 32) (x_rgv h (by decide) (by decide)) (by decide)
  rw [e]
  exact x_1shl_all ⟨j, hj⟩
theorem x_rg_1shl2 {y : Int32} (h : xrg 0 2 y) : xrg 1 4 ((1 : Int32) <<< (y &&& 31)) := by
  obtain ⟨j, hj, rfl⟩ := vp_in_of (x := y) (n := 3) (x_rgv h (by decide) (by decide)) (by decide)
  exact x_1shl2_all ⟨j, hj⟩
theorem x_mease {k b : Int32} {n : Nat} {lo hi : Int} (hle : ¬ b < k) (hb : xrg lo hi b) (h : (b.toInt + 1 - k.toInt).toNat < n + 1) (hh : hi ≤ 2147483646 := by decide) : (b.toInt + 1 - (k + 1).toInt).toNat < n := by
  rw [x_lt] at hle
  obtain ⟨b1, b2⟩ := hb
  have hk := x_rgt k
  obtain ⟨a1, a2⟩ := hk
  have h1 : (k + 1).toInt = k.toInt + 1 := by
    have e1 : (1 : Int32).toInt = 1 := by decide
    rw [Int32.toInt_add, e1]
    apply Int.bmod_eq_of_le <;> omega
  rw [h1]
  omega
