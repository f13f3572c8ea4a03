/-! shifts, bit by bit -/
def bt (x : Int32) (i : Nat) : Bool := x.toBitVec.getLsbD i
theorem bt_ext {x y : Int32} (h : ∀ i, i < 32 → bt x i = bt y i) : x = y := i32_ext h
theorem bt_and (x y : Int32) (i : Nat) : bt (x &&& y) i = (bt x i && bt y i) := by unfold bt; rw [Int32.toBitVec_and, BitVec.getLsbD_and]
theorem bt_or (x y : Int32) (i : Nat) : bt (x ||| y) i = (bt x i || bt y i) := by unfold bt; rw [Int32.toBitVec_or, BitVec.getLsbD_or]
theorem bt_xor (x y : Int32) (i : Nat) : bt (x ^^^ y) i = (bt x i ^^ bt y i) := by unfold bt; rw [Int32.toBitVec_xor, BitVec.getLsbD_xor]
theorem bt_hi {x : Int32} {i : Nat} (h : 32 ≤ i) : bt x i = false := by unfold bt; exact BitVec.getLsbD_of_ge _ _ h
theorem bt_ius (x : Int32) (k i : Nat) (hk : k < 32) : bt (ius x (nI k)) i = bt x (k + i) := by
  unfold bt; rw [ius_nI x k hk, BitVec.getLsbD_ushiftRight]
theorem bt_shl (x : Int32) (k i : Nat) (hk : k < 32) (hi : i < 32) : bt (x <<< (nI k &&& 31)) i = (decide (k ≤ i) && bt x (i - k)) := by
  unfold bt; rw [shl_nI x k hk, BitVec.getLsbD_shiftLeft]
  by_cases c : i < k
  · have : ¬ k ≤ i := by omega
    simp [c, this]
  · have : k ≤ i := by omega
    simp [hi, c, this]
theorem bt_b2i (c : Bool) (i : Nat) : bt (b2i c) i = (c && decide (i = 0)) := by
  cases c
  · show (0#32).getLsbD i = _; simp
  · show (1#32).getLsbD i = _
    rw [show (1#32) = BitVec.twoPow 32 0 from rfl, BitVec.getLsbD_twoPow]
    by_cases h : i = 0
    · subst h; rfl
    · have : ¬ 0 = i := fun e => h e.symm
      simp [h, this]
theorem and1_b (x : Int32) : x &&& 1 = b2i (bt x 0) := by
  rw [andp (x := x) (p := 1) (k := 0) (by decide) (by decide)]
  unfold b2i bt
  cases x.toBitVec.getLsbD 0 <;> simp
/-- the sizes' top bits -/
def topN (s : Int32) : Nat := if s = 0 then 7 else if s = 1 then 15 else 31
def topM (s : Int32) : Int32 := if s = 0 then 128 else if s = 1 then 32768 else (-2147483648)
theorem topN_lt (s : Int32) : topN s < 32 := by unfold topN; split <;> (try split) <;> decide
theorem topM_tp {s : Int32} (hs : s = 0 ∨ s = 1 ∨ s = 2) : (topM s).toBitVec = BitVec.twoPow 32 (topN s) := by
  rcases hs with rfl | rfl | rfl <;> decide
theorem bits_top {s : Int32} (hs : s = 0 ∨ s = 1 ∨ s = 2) : f_X10_bitsOf s - 1 = nI (topN s) := by
  rcases hs with rfl | rfl | rfl <;> decide
theorem bt_top {s : Int32} (hs : s = 0 ∨ s = 1 ∨ s = 2) (i : Nat) : bt (topM s) i = decide (i = topN s) := by
  unfold bt; rw [topM_tp hs, BitVec.getLsbD_twoPow]
  have := topN_lt s
  by_cases c : i = topN s
  · subst c; simp [this]
  · have : ¬ topN s = i := fun e => c e.symm
    simp [c, this]
theorem bt_mask {s : Int32} (hs : s = 0 ∨ s = 1 ∨ s = 2) (i : Nat) (hi : i < 32) : bt (f_X10_maskOf s) i = decide (i ≤ topN s) := by
  have : ∀ i : Fin 32, bt (f_X10_maskOf 0) i.val = decide (i.val ≤ topN 0) ∧ bt (f_X10_maskOf 1) i.val = decide (i.val ≤ topN 1) ∧ bt (f_X10_maskOf 2) i.val = decide (i.val ≤ topN 2) := by decide
  obtain ⟨h0, h1, h2⟩ := this ⟨i, hi⟩
  rcases hs with rfl | rfl | rfl
  · exact h0
  · exact h1
  · exact h2
theorem and_top {s x : Int32} (hs : s = 0 ∨ s = 1 ∨ s = 2) : (x &&& topM s = 0) ↔ bt x (topN s) = false := by
  rw [andp (topN_lt s) (topM_tp hs)]
  unfold bt
  have ht : ¬ topM s = 0 := by rcases hs with rfl | rfl | rfl <;> decide
  cases x.toBitVec.getLsbD (topN s) <;> simp [ht]
theorem high_b {s x : Int32} : (ius x (nI (topN s))) &&& 1 = b2i (bt x (topN s)) := by
  rw [and1_b, bt_ius _ _ _ (topN_lt s)]; rfl
def sIn (kind left : Int32) (X H O : Bool) : Bool := if kind = 2 then X else if kind = 3 then O else if kind = 0 ∧ left = 0 then H else false
def sOut (left : Int32) (H L : Bool) : Bool := if left = 0 then L else H
def nxC (s left : Int32) (x : Int32) (i : Bool) : Int32 := if left = 0 then (ius x 1) ||| (b2i i <<< (nI (topN s) &&& 31)) else ((x <<< ((1 : Int32) &&& 31)) ||| b2i i) &&& f_X10_maskOf s
def nxM (s left : Int32) (v : Int32) (i : Bool) : Int32 := if left = 0 then ((ius (v &&& f_X10_maskOf s) 1) &&& (topM s ^^^ (-1))) ||| (if i then topM s else 0) else (v <<< ((1 : Int32) &&& 31)) ||| b2i i
theorem stepC {m : Nat} {s kind left n x8 x9 x10 x11 : Int32} {X : Bool} {A : St} (hk : ¬ n ≤ x11) : f_X1_shifted_36 (m + 1) s kind left n (nI (topN s)) (b2i X) x8 x9 x10 x11 A = f_X1_shifted_36 m s kind left n (nI (topN s)) (b2i (if kind = 3 then X else sOut left (bt x9 (topN s)) (bt x9 0))) (b2i (sOut left (bt x9 (topN s)) (bt x9 0))) (nxC s left x9 (sIn kind left X (bt x9 (topN s)) (sOut left (bt x9 (topN s)) (bt x9 0)))) (x10 ||| (x9 ^^^ nxC s left x9 (sIn kind left X (bt x9 (topN s)) (sOut left (bt x9 (topN s)) (bt x9 0))))) (x11 + 1) A := by
  conv => lhs; unfold f_X1_shifted_36
  rw [if_neg hk]
  unfold f_X1_shifted_66 f_X1_shifted_102 f_X1_shifted_103 f_X1_shifted_135 f_X1_shifted_167 sIn sOut nxC
  rw [high_b, and1_b]
  have n23 : ¬ (2 : Int32) = 3 := by decide
  have n32 : ¬ (3 : Int32) = 2 := by decide
  have n02 : ¬ (0 : Int32) = 2 := by decide
  have n03 : ¬ (0 : Int32) = 3 := by decide
  have z : (0 : Int32) = b2i false := rfl
  by_cases c1 : left = 0 <;> by_cases c2 : kind = 2 <;> by_cases c3 : kind = 3 <;> by_cases c4 : kind = 0 <;> simp only [c1, c2, c3, c4, n23, n32, n02, n03, if_true, if_false, and_true, and_false, true_and, and_self, false_and] <;> first | rfl | (exfalso; simp_all)
theorem stepM {m : Nat} {s kind left n x8 v x10 : Int32} {X Tn : Bool} {B : St} (hs : s = 0 ∨ s = 1 ∨ s = 2) (hkd : kind = 0 ∨ kind = 1 ∨ kind = 2 ∨ kind = 3) (hX : f_X11_has 16 B = b2i X) (hk : ¬ n ≤ x10) : f_X11_shifted_61 (m + 1) s kind left n v (topM s) x8 (b2i Tn) x10 B = f_X11_shifted_61 m s kind left n (nxM s left v (sIn kind left X (bt v (topN s)) (sOut left (bt v (topN s)) (bt v 0)))) (topM s) (b2i (sOut left (bt v (topN s)) (bt v 0))) (b2i (Tn || (bt (nxM s left v (sIn kind left X (bt v (topN s)) (sOut left (bt v (topN s)) (bt v 0)))) (topN s) != bt v (topN s)))) (x10 + 1) (if kind = 3 then B else xup B 14 2 (fl (B 14 2) 16 (bZ (sOut left (bt v (topN s)) (bt v 0)) 16))) := by
  conv => lhs; unfold f_X11_shifted_61
  rw [if_neg hk]
  have h1 : (v &&& 1 = 0) ↔ bt v 0 = false := by
    rw [and1_b]; cases bt v 0 <;> decide
  unfold f_X11_shifted_81 f_X11_shifted_90 f_X11_shifted_105 f_X11_shifted_125 f_X11_shifted_157 f_X11_shifted_158 f_X11_shifted_179 f_X11_shifted_208 f_X11_shifted_209 f_X11_shifted_229 f_X11_shifted_234 f_X11_shifted_239 f_X11_shifted_254 sIn sOut nxM
  have n10 : ¬ (1 : Int32) = 0 := by decide
  have n01 : ¬ (0 : Int32) = 1 := by decide
  have n02 : ¬ (0 : Int32) = 2 := by decide
  have n03 : ¬ (0 : Int32) = 3 := by decide
  have n12 : ¬ (1 : Int32) = 2 := by decide
  have n13 : ¬ (1 : Int32) = 3 := by decide
  have n20 : ¬ (2 : Int32) = 0 := by decide
  have n23 : ¬ (2 : Int32) = 3 := by decide
  have n30 : ¬ (3 : Int32) = 0 := by decide
  have n32 : ¬ (3 : Int32) = 2 := by decide
  have l0 : ¬ (3 : Int32) ≤ 0 := by decide
  have l1 : ¬ (3 : Int32) ≤ 1 := by decide
  have l2 : ¬ (3 : Int32) ≤ 2 := by decide
  have l3 : (3 : Int32) ≤ 3 := by decide
  simp only [hX, and_top hs, h1, mask_eq]
  rcases hkd with rfl | rfl | rfl | rfl <;> by_cases c1 : left = 0 <;> cases hH : bt v (topN s) <;> cases hL : bt v 0 <;> cases X <;> cases Tn <;> simp only [c1, n10, n01, n02, n03, n12, n13, n20, n23, n30, n32, l0, l1, l2, l3, b2i_t, b2i_f, if_true, if_false, and_true, and_false, true_and, and_self, false_and, Bool.true_eq_false, Bool.false_eq_true, Bool.false_or, Bool.true_or, reduceCtorEq] <;> first | rfl | (split <;> simp_all [flag_eq, xb_l, bZ, b2i]) | (simp_all [flag_eq, xb_l, bZ, b2i])
