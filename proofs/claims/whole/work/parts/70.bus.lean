/-! THE TWO SIDES: the bus. A: the class's store, B: the reference's -/
def b2i (x : Bool) : Int32 := if x then 1 else 0
theorem b2i_t : b2i true = 1 := rfl
theorem b2i_f : b2i false = 0 := rfl
def devB (b : Int32) : Bool := decide (4096 ≤ b) && decide (b ≤ 4103)
def badB (S w : Bool) (fence b : Int32) : Bool := (decide (2047 < b) && !devB b) || (devB b && !S) || (w && decide (b < fence))
theorem x_nlt' {x y : Int32} : ¬ x < y ↔ y ≤ x := by rw [x_lt, x_le]; omega
theorem x_nle' {x y : Int32} : ¬ x ≤ y ↔ y < x := by rw [x_lt, x_le]; omega
theorem dev_eq (b : Int32) : f_X11_isDevice b = b2i (devB b) := by
  unfold f_X11_isDevice devB b2i
  by_cases h1 : b < 4096
  · have h2 : ¬ 4096 ≤ b := by rw [x_nle']; exact h1
    simp [h1, h2]
  · have h2 : 4096 ≤ b := x_nlt'.mp h1
    by_cases h3 : 4103 < b
    · have h4 : ¬ b ≤ 4103 := by rw [x_nle']; exact h3
      simp [h1, h2, h3, h4]
    · have h4 : b ≤ 4103 := x_nlt'.mp h3
      simp [h1, h2, h3, h4]
def supB (B : St) : Bool := !decide ((B 14 2) &&& 8192 = 0)
theorem sup_eq (B : St) : f_X11_has 8192 B = b2i (supB B) := by
  unfold f_X11_has supB b2i
  by_cases h : (B 14 2) &&& 8192 = 0 <;> simp [h]
theorem b2i_0 {x : Bool} : b2i x = 0 ↔ x = false := by cases x <;> simp [b2i] 
theorem fails_u (n : Nat) (x1 x2 x3 x4 x5 x6 x7 : Int32) (M : St) : f_X11_fails_33 (n + 1) x1 x2 x3 x4 x5 x6 x7 M = (if ((1 : Int32) <<< (x2 &&& 31)) ≤ x7 then (if x5 = 0 then (if x6 = 0 then f_X11_fails_135 x1 x4 0 M else f_X11_fails_135 x1 x4 2 M) else f_X11_fails_135 x1 x4 3 M) else (if x6 = 0 then (if ((x1 + x7) &&& 16777215) ≤ 2047 then f_X11_fails_71 (f_X11_fails_33 n) x1 x2 x3 x4 x5 x7 ((x1 + x7) &&& 16777215) M else (if (f_X11_isDevice ((x1 + x7) &&& 16777215)) = 0 then f_X11_fails_102 (f_X11_fails_33 n) x1 x2 x3 x4 x5 x7 M else f_X11_fails_71 (f_X11_fails_33 n) x1 x2 x3 x4 x5 x7 ((x1 + x7) &&& 16777215) M)) else f_X11_fails_102 (f_X11_fails_33 n) x1 x2 x3 x4 x5 x7 M)) := rfl
theorem fails_step {n : Nat} {a s how odd k : Int32} {w acc : Bool} {M : St} (hk : ¬ ((1 : Int32) <<< (s &&& 31)) ≤ k) : f_X11_fails_33 (n + 1) a s (b2i w) how odd (b2i acc) k M = f_X11_fails_33 n a s (b2i w) how odd (b2i (acc || badB (supB M) w (M 14 8) ((a + k) &&& 16777215))) (k + 1) M := by
  rw [fails_u, if_neg hk]
  generalize (a + k) &&& 16777215 = b
  unfold f_X11_fails_71 f_X11_fails_89 f_X11_fails_102 f_X11_fails_106 f_X11_fails_107
  rw [dev_eq, sup_eq]
  cases acc with
  | true => simp [b2i]
  | false =>
    have e1 : (b ≤ 2047) ↔ ¬ (2047 < b) := x_nlt'.symm
    have e2 : ((M 14 8) ≤ b) ↔ ¬ (b < M 14 8) := x_nlt'.symm
    by_cases h1 : 2047 < b <;> by_cases h2 : b < M 14 8 <;> cases h3 : devB b <;> cases h4 : supB M <;> cases w <;> simp [badB, b2i, e1, e2, h1, h2, h3, h4]
theorem fails_end {n : Nat} {a s w how k : Int32} {odd acc : Bool} {M : St} (hk : ((1 : Int32) <<< (s &&& 31)) ≤ k) : f_X11_fails_33 (n + 1) a s w how (b2i odd) (b2i acc) k M = f_X11_fails_135 a how (if odd then 3 else if acc then 2 else 0) M := by
  rw [fails_u, if_pos hk]
  cases odd <;> cases acc <;> simp [b2i]
def bad1 (M : St) (w : Bool) (a : Int32) : Bool := badB (supB M) w (M 14 8) ((a + 0) &&& 16777215)
def bad2 (M : St) (w : Bool) (a : Int32) : Bool := bad1 M w a || badB (supB M) w (M 14 8) ((a + (0 + 1)) &&& 16777215)
def bad4 (M : St) (w : Bool) (a : Int32) : Bool := (bad2 M w a || badB (supB M) w (M 14 8) ((a + (0 + 1 + 1)) &&& 16777215)) || badB (supB M) w (M 14 8) ((a + (0 + 1 + 1 + 1)) &&& 16777215)
def badS (M : St) (w : Bool) (a s : Int32) : Bool := if s = 0 then bad1 M w a else if s = 1 then bad2 M w a else bad4 M w a
theorem fails_loop {a s how : Int32} {w odd : Bool} {M : St} (hs : s = 0 ∨ s = 1 ∨ s = 2) : f_X11_fails_25 a s (b2i w) how (b2i odd) M = f_X11_fails_135 a how (if odd then 3 else if badS M w a s then 2 else 0) M := by
  unfold f_X11_fails_25
  rcases hs with rfl | rfl | rfl
  · have e : (((1 : Int32) <<< ((0 : Int32) &&& 31)).toInt - (0 : Int32).toInt).toNat + 1 = 2 := by decide
    rw [e, show (0 : Int32) = b2i false from rfl]
    rw [show f_X11_fails_33 2 a (b2i false) (b2i w) how (b2i odd) (b2i false) (b2i false) M = f_X11_fails_33 2 a 0 (b2i w) how (b2i odd) (b2i false) 0 M from rfl]
    rw [fails_step (by decide), fails_end (by decide)]
    rfl
  · have e : (((1 : Int32) <<< ((1 : Int32) &&& 31)).toInt - (0 : Int32).toInt).toNat + 1 = 3 := by decide
    rw [e]
    rw [show f_X11_fails_33 3 a 1 (b2i w) how (b2i odd) 0 0 M = f_X11_fails_33 3 a 1 (b2i w) how (b2i odd) (b2i false) 0 M from rfl]
    rw [fails_step (by decide), fails_step (by decide), fails_end (by decide)]
    rfl
  · have e : (((1 : Int32) <<< ((2 : Int32) &&& 31)).toInt - (0 : Int32).toInt).toNat + 1 = 5 := by decide
    rw [e]
    rw [show f_X11_fails_33 5 a 2 (b2i w) how (b2i odd) 0 0 M = f_X11_fails_33 5 a 2 (b2i w) how (b2i odd) (b2i false) 0 M from rfl]
    rw [fails_step (by decide), fails_step (by decide), fails_step (by decide), fails_step (by decide), fails_end (by decide)]
    rfl
/-- the reference's check, closed -/
def mfault (M : St) (w : Bool) (a s : Int32) : Int32 := if ¬ s = 0 ∧ (a &&& 1) = 1 then 3 else if badS M w a s then 2 else 0
theorem fails_eq {a s how : Int32} {w : Bool} {M : St} (hs : s = 0 ∨ s = 1 ∨ s = 2) (h0 : M 14 20 = 0) : f_X11_fails a s (b2i w) how M = f_X11_fails_135 a how (mfault M w a s) M := by
  unfold f_X11_fails f_X11_fails_24 mfault
  rw [if_pos h0]
  have e0 : f_X11_fails_25 a s (b2i w) how 0 M = f_X11_fails_135 a how (if badS M w a s then 2 else 0) M := by
    rw [show (0 : Int32) = b2i false from rfl, fails_loop hs]
    rfl
  have e1 : f_X11_fails_25 a s (b2i w) how 1 M = f_X11_fails_135 a how 3 M := by
    rw [show (1 : Int32) = b2i true from rfl, fails_loop hs]
    rfl
  by_cases h1 : s = 0
  · subst h1
    simp [e0]
  · have h2 : ¬ s ≤ 0 := by rcases hs with rfl | rfl | rfl <;> first | exact absurd rfl h1 | decide
    rw [if_neg h2]
    by_cases h3 : (a &&& 1) = 1
    · simp [h1, h3, e1]
    · simp [h1, h3, e0]
/-! the class's check, closed; the two agree -/
def supC (A : St) : Bool := !decide ((A 2 18) &&& 8192 = 0)
def okC (A : St) (at_ n way : Int32) : Bool := (decide (at_ + n - 1 < 2048) && (decide (¬ way = 0) || decide (A 4 6 ≤ at_))) || (decide (4096 ≤ at_) && decide (at_ + n - 1 < 4104) && supC A)
def errC (A : St) (at_ way e : Int32) : St := xup (xup (xup A 4 10 e) 4 11 at_) 4 12 way
theorem allows_eq {at_ n way : Int32} {A : St} (h0 : A 4 10 = 0) : f_X2_allows at_ n way A = if 1 < n ∧ ¬ (at_ &&& 1) = 0 then (0, errC A at_ way 3) else if okC A at_ n way then (1, A) else (0, errC A at_ way 2) := by
  unfold f_X2_allows f_X2_allows_52 f_X2_allows_48 f_X2_allows_53 f_X2_allows_83 f_X2_allows_84 f_X2_allows_105 f_X2_allows_125
  rw [if_pos h0]
  have e1 : (2048 ≤ at_ + n - 1) ↔ ¬ (at_ + n - 1 < 2048) := x_nlt'.symm
  have e2 : (at_ < A 4 6) ↔ ¬ (A 4 6 ≤ at_) := x_nle'.symm
  have e3 : (at_ < 4096) ↔ ¬ (4096 ≤ at_) := x_nle'.symm
  have e4 : (4104 ≤ at_ + n - 1) ↔ ¬ (at_ + n - 1 < 4104) := x_nlt'.symm
  have e5 : (n ≤ 1) ↔ ¬ (1 < n) := x_nlt'.symm
  by_cases h1 : at_ + n - 1 < 2048 <;> by_cases h2 : A 4 6 ≤ at_ <;> by_cases h3 : 4096 ≤ at_ <;> by_cases h4 : at_ + n - 1 < 4104 <;> by_cases h5 : 1 < n <;> by_cases h6 : (at_ &&& 1) = 0 <;> by_cases h7 : way = 0 <;> by_cases h8 : (A 2 18) &&& 8192 = 0 <;> simp [okC, supC, errC, e1, e2, e3, e4, e5, h1, h2, h3, h4, h5, h6, h7, h8]
theorem an24 (a : Int32) : (a &&& 16777215).toInt = ((a.toBitVec.toNat % 16777216 : Nat) : Int) := by
  rw [pk_and a 24 (by decide)]
  exact nI_toInt (by omega)
theorem an24k (a : Int32) (k : Nat) (hk : k < 4) : ((a + nI k) &&& 16777215).toInt = (((a.toBitVec.toNat % 16777216 + k) % 16777216 : Nat) : Int) := by
  rw [an24]
  congr 1
  show (a.toBitVec + (nI k).toBitVec).toNat % 16777216 = _
  rw [BitVec.toNat_add, pk_tn (by omega)]
  omega
theorem an1 (a : Int32) : (a &&& 1) = 1 ↔ a.toBitVec.toNat % 2 = 1 := by
  rw [pk_and a 1 (by decide), show (1 : Int32) = nI 1 from rfl, nI_eq (by omega) (by decide)]
theorem an10 (a : Int32) : (a &&& 1) = 0 ↔ a.toBitVec.toNat % 2 = 0 := by
  rw [pk_and a 1 (by decide), show (0 : Int32) = nI 0 from rfl, nI_eq (by omega) (by decide)]
theorem an24n (a : Int32) : (a &&& 16777215).toBitVec.toNat = a.toBitVec.toNat % 16777216 := by
  rw [pk_and a 24 (by decide), pk_tn (by omega)]
def badP (S w : Bool) (f b : Int) : Prop := (2047 < b ∧ ¬ (4096 ≤ b ∧ b ≤ 4103)) ∨ ((4096 ≤ b ∧ b ≤ 4103) ∧ S = false) ∨ (w = true ∧ b < f)
theorem badB_iff {S w : Bool} {f b : Int32} : badB S w f b = true ↔ badP S w f.toInt b.toInt := by
  have e1 : (2047 : Int32).toInt = 2047 := by decide
  have e2 : (4096 : Int32).toInt = 4096 := by decide
  have e3 : (4103 : Int32).toInt = 4103 := by decide
  simp only [badB, devB, badP, Bool.or_eq_true, Bool.and_eq_true, decide_eq_true_eq, Bool.not_eq_true', Bool.and_eq_false_iff, decide_eq_false_iff_not, x_lt, x_le, e1, e2, e3]
  cases S <;> cases w <;> simp <;> omega
theorem okC_iff {A : St} {j n : Nat} {way : Int32} (hj : j < 16777216) (hn : n ≤ 4) (h1 : 1 ≤ n) : okC A (nI j) (nI n) way = true ↔ ((j + n - 1 < 2048 ∧ (way ≠ 0 ∨ (A 4 6).toInt ≤ j)) ∨ (4096 ≤ j ∧ j + n - 1 < 4104 ∧ supC A = true)) := by
  have e0 : nI j + nI n - 1 = nI (j + n - 1) := by
    rw [nI_add, show (1 : Int32) = nI 1 from rfl, pk_sub (by omega)]
  have e1 : (2048 : Int32) = nI 2048 := rfl
  have e2 : (4096 : Int32) = nI 4096 := rfl
  have e3 : (4104 : Int32) = nI 4104 := rfl
  have e4 : (A 4 6 ≤ nI j) ↔ (A 4 6).toInt ≤ j := by rw [x_le, nI_toInt (by omega)]
  simp only [okC, e0, e1, e2, e3, Bool.or_eq_true, Bool.and_eq_true, decide_eq_true_eq, e4]
  rw [nI_ltI (by omega) (by decide), nI_leI (by decide) (by omega), nI_ltI (by omega) (by decide)]
  constructor
  · rintro (⟨p, q⟩ | ⟨⟨p, q⟩, r⟩)
    · exact Or.inl ⟨p, q⟩
    · exact Or.inr ⟨p, q, r⟩
  · rintro (⟨p, q⟩ | ⟨p, q, r⟩)
    · exact Or.inl ⟨p, q⟩
    · exact Or.inr ⟨⟨p, q⟩, r⟩
/-- where no address is odd, the two checks are one -/
theorem bad_ok {A B : St} {a s way : Int32} {w : Bool} (hs : s = 0 ∨ s = 1 ∨ s = 2) (hS : supC A = supB B) (hf : A 4 6 = B 14 8) (hr : xrg 0 2048 (B 14 8)) (hw : w = decide (way = 0)) (hodd : s = 0 ∨ ¬ (a &&& 1) = 1) : badS B w a s = !okC A (a &&& 16777215) (f_X10_bytesOf s) way := by
  obtain ⟨r1, r2⟩ := hr
  have hj : a.toBitVec.toNat % 16777216 < 16777216 := Nat.mod_lt _ (by decide)
  have ea : a &&& 16777215 = nI (a.toBitVec.toNat % 16777216) := pk_and a 24 (by decide)
  have k0 := an24k a 0 (by decide)
  have k1 := an24k a 1 (by decide)
  have k2 := an24k a 2 (by decide)
  have k3 := an24k a 3 (by decide)
  have z0 : (0 : Int32) = nI 0 := rfl
  have z1 : (0 + 1 : Int32) = nI 1 := by decide
  have z2 : (0 + 1 + 1 : Int32) = nI 2 := by decide
  have z3 : (0 + 1 + 1 + 1 : Int32) = nI 3 := by decide
  have hodd' : s = 0 ∨ (a.toBitVec.toNat % 16777216) % 2 = 0 := by
    rcases hodd with h | h
    · exact Or.inl h
    · rw [an1] at h
      exact Or.inr (by omega)
  have hw' : (way ≠ 0) ↔ w = false := by rw [hw]; simp
  have iff2 : ∀ {x y : Bool}, (x = true ↔ ¬ y = true) → x = !y := by intro x y h; cases x <;> cases y <;> simp_all
  apply iff2
  rw [ea]
  generalize a.toBitVec.toNat % 16777216 = j at hj k0 k1 k2 k3 hodd'
  have hf' : (A 4 6).toInt = (B 14 8).toInt := by rw [hf]
  rcases hs with rfl | rfl | rfl
  · rw [show f_X10_bytesOf 0 = nI 1 by decide, okC_iff hj (by decide) (by decide), hw', hS, hf']
    simp only [badS, if_pos, bad1]
    rw [z0, badB_iff, k0]
    simp only [badP]
    cases supB B <;> cases w <;> simp <;> omega
  · rw [show f_X10_bytesOf 1 = nI 2 by decide, okC_iff hj (by decide) (by decide), hw', hS, hf']
    have hev : j % 2 = 0 := by rcases hodd' with h | h; exact absurd h (by decide); exact h
    simp only [badS, if_neg (show ¬ (1 : Int32) = 0 by decide), if_pos, bad2, bad1, Bool.or_eq_true]
    rw [z1, z0, badB_iff, badB_iff, k0, k1]
    simp only [badP]
    cases supB B <;> cases w <;> simp <;> omega
  · rw [show f_X10_bytesOf 2 = nI 4 by decide, okC_iff hj (by decide) (by decide), hw', hS, hf']
    have hev : j % 2 = 0 := by rcases hodd' with h | h; exact absurd h (by decide); exact h
    simp only [badS, if_neg (show ¬ (2 : Int32) = 0 by decide), if_neg (show ¬ (2 : Int32) = 1 by decide), bad4, bad2, bad1, Bool.or_eq_true]
    rw [z3, z2, z1, z0, badB_iff, badB_iff, badB_iff, badB_iff, k0, k1, k2, k3]
    simp only [badP]
    cases supB B <;> cases w <;> simp <;> omega
