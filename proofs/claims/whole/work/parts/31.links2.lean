/-! Math's words, some ranges -/
def xmax (x y : Int32) : Int32 := if x < y then y else x
theorem x_max7 {x y : Int32} (h : xrg 0 7 x) (h' : xrg 0 7 y) : xrg 0 7 (xmax x y) := by
  unfold xmax
  split
  · exact h'
  · exact h
section XMX
variable {l : Launch} {own nm : String} {cc : ByteArray} {nL : Nat} {R : Room} {mc ms : Nat} {fl : List xFl} {kc : List (Nat × Value)} {n0 : Nat} {Fin : Option Value → List xL → xG → Prop} {V : XJ}
variable {cells slots pc : Nat} {lay : List xL} {lv : List (Nat × Value)} {σ : xG} {idx : Nat}
theorem x_max (C : XC l own nm cc nL R mc ms fl kc n0 Fin V) {x y : Int32} (hw : Cond.methodLink own idx Lib.Math.max.name ∈ xtb ∧ Cond.static Lib.Math.max.name ∈ xtb ∧ Cond.initialized "java/lang/Math" ∈ xtb ∧ Cond.code Lib.Math.max.name Lib.Math.max.code 2 (some .int) ∈ xtb) (hR : 1 ≤ R.frames ∧ 13 ≤ R.locals) (hcs : cells ≤ R.cells ∧ slots ≤ R.slots) (hd : decode cc pc = .ok (.invokestatic idx, 3)) (kk : V cells slots (pc + 3) lv [.int (xmax x y)] lay σ) : V cells slots pc lv [.int y, .int x] lay σ := by
  obtain ⟨p, e, s, m, args, below, meth, c, Q, D, ty, ad0, A, rfl, B, -, hZ, -⟩ := C
  obtain ⟨hx, hb, hml, hown, hts, hK, hA, hcl, hfl, hkc⟩ := B
  intro ad hag H locs ls hP hD hS hl
  exact va_mmax hx hb (hml.trans hl.1.symm) hown (hts _ hw.1) (hts _ hw.2.1) (hts _ hw.2.2.1) (hts _ hw.2.2.2) hR.1 (by simpa using hR.2) hcs.1 hcs.2 hd (kk ad hag H locs ls hP hD hS hl)
end XMX
theorem max_code : prog_19_method_65_code = Lib.Math.max.code := by decide +kernel
set_option maxRecDepth 50000 in
theorem max_cw : Cond.code ⟨"java/lang/Math", "max", "(II)I"⟩ prog_19_method_65_code 2 (some .int) ∈ lw_tbl := List.mem_of_getElem? (i := 584) rfl
theorem max_ws : Cond.methodLink RX7 93 Lib.Math.max.name ∈ xtb ∧ Cond.static Lib.Math.max.name ∈ xtb ∧ Cond.initialized "java/lang/Math" ∈ xtb ∧ Cond.code Lib.Math.max.name Lib.Math.max.code 2 (some .int) ∈ xtb :=
  ⟨x_in 582 (by decide +kernel) rfl, x_in 583 (by decide +kernel) rfl, x_in 145 (by decide +kernel) rfl, List.mem_filter.mpr ⟨by rw [← max_code]; exact max_cw, rfl⟩⟩
theorem x_1shl_all : ∀ j : Fin 32, -2147483648 ≤ ((1 : Int32) <<< (nI j.val)).toInt ∧ ((1 : Int32) <<< (nI j.val)).toInt ≤ 1073741824 := by decide +kernel
theorem x_1shl2_all : ∀ j : Fin 3, 1 ≤ ((1 : Int32) <<< (nI j.val &&& 31)).toInt ∧ ((1 : Int32) <<< (nI j.val &&& 31)).toInt ≤ 4 := by decide +kernel
theorem x_rg_1shl (y : Int32) : xrg (-2147483648) 1073741824 ((1 : Int32) <<< (y &&& 31)) := by
  have h := x_rg_and (x := y) (m := 31) (k := 31) (by decide) (by decide)
  obtain ⟨j, hj, e⟩ := vp_in_of (x := y &&& 31) (n := 32) (x_rgv h (by decide) (by decide)) (by decide)
  rw [e]
  exact x_1shl_all ⟨j, hj⟩
theorem x_rg_1shl2 {y : Int32} (h : xrg 0 2 y) : xrg 1 4 ((1 : Int32) <<< (y &&& 31)) := by
  obtain ⟨j, hj, rfl⟩ := vp_in_of (x := y) (n := 3) (x_rgv h (by decide) (by decide)) (by decide)
  exact x_1shl2_all ⟨j, hj⟩
theorem x_mease {k b : Int32} {n : Nat} {lo hi : Int} (hle : ¬ b < k) (hb : xrg lo hi b) (h : (b.toInt + 1 - k.toInt).toNat < n + 1) (hh : hi ≤ 2147483646 := by decide) : (b.toInt + 1 - (k + 1).toInt).toNat < n := by
  rw [x_lt] at hle
  obtain ⟨b1, b2⟩ := hb
  have hk := x_rgt k
  obtain ⟨a1, a2⟩ := hk
  have h1 : (k + 1).toInt = k.toInt + 1 := by
    have e1 : (1 : Int32).toInt = 1 := by decide
    rw [Int32.toInt_add, e1]
    apply Int.bmod_eq_of_le <;> omega
  rw [h1]
  omega
theorem x_sl_all : ∀ n : Fin 32, ((nI n.val &&& 31).toBitVec.smod 32).toNat = n.val := by decide +kernel
theorem x_su_all : ∀ n : Fin 32, (((nI n.val).toUInt32 &&& Int32.toUInt32 31).toBitVec % 32).toNat = n.val := by decide +kernel
theorem x_rg_nI {b : Int} {x : Int32} (h : xrg 0 b x) : ∃ j : Nat, j < 2 ^ 31 ∧ (j : Int) ≤ b ∧ x = nI j := by
  have hn : ¬ x < 0 := by
    rw [x_lt]
    have e0 : (0 : Int32).toInt = 0 := by decide
    rw [e0]
    have := h.1
    omega
  obtain ⟨j, hj, rfl⟩ := nI_of hn
  refine ⟨j, hj, ?_, rfl⟩
  have := h.2
  rw [nI_toInt hj] at this
  exact this
theorem x_rg_shl {x c : Int32} {k : Nat} {b hi : Int} (h : xrg 0 b x) (hk : k < 32 ∧ hi < 2147483648) (hb : b * 2 ^ k = hi) (hc : c = nI k) : xrg 0 hi (x <<< (c &&& 31)) := by
  obtain ⟨j, hj, hjb, rfl⟩ := x_rg_nI h
  subst hc
  have h1 : (j : Int) * 2 ^ k ≤ b * 2 ^ k := Int.mul_le_mul_of_nonneg_right hjb (Int.le_of_lt (Int.pow_pos (by decide)))
  have h2 : ((j * 2 ^ k : Nat) : Int) = (j : Int) * 2 ^ k := by push_cast; rfl
  have h3 : j * 2 ^ k < 2 ^ 31 := by omega
  rw [pk_shlN _ k (x_sl_all ⟨k, hk.1⟩) (by omega)]
  have e := nI_toInt h3
  exact ⟨by rw [e]; omega, by rw [e]; omega⟩
theorem x_rg_ush {x c : Int32} {k : Nat} {b hi : Int} (h : xrg 0 b x) (hk : k < 32) (hb : b / 2 ^ k = hi) (hc : c = nI k) : xrg 0 hi (ius x c) := by
  obtain ⟨j, hj, hjb, rfl⟩ := x_rg_nI h
  subst hc
  unfold ius
  rw [pk_ushrN (by omega) _ k (x_su_all ⟨k, hk⟩)]
  have h1 : j / 2 ^ k ≤ j := Nat.div_le_self _ _
  have e := nI_toInt (n := j / 2 ^ k) (by omega)
  have h2 : ((j / 2 ^ k : Nat) : Int) = (j : Int) / 2 ^ k := by push_cast; rfl
  have h3 : (j : Int) / 2 ^ k ≤ b / 2 ^ k := Int.ediv_le_ediv (by exact_mod_cast Nat.pos_of_ne_zero (by simp)) hjb
  exact ⟨by rw [e]; exact Int.natCast_nonneg _, by rw [e, h2]; omega⟩
theorem dv_all : ∀ a : Fin 66, opS.getD a.val 0 = 17 → a.val = 17 := by decide +kernel
theorem dv_op {a : Nat} (ha : a < 66) (h : opS.getD a 0 = 17) : a = 17 := dv_all ⟨a, ha⟩ h
