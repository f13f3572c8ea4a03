/-! tens, shifts -/
theorem settled_eq (s : Int32) (c : Bool) (A : St) : f_X1_settledInTens s (b2i c) A = (s &&& 255, xup A 2 18 (fl (A 2 18) (if s &&& 255 = 0 then 27 else 31) (bZ (decide (¬ s &&& 128 = 0)) 8 ||| bZ c 17))) := by
  unfold f_X1_settledInTens f_X1_settledInTens_17 f_X1_settledInTens_39 f_X1_settledInTens_49
  have e : (s &&& 255) &&& 128 = s &&& 128 := by rw [Int32.and_assoc]; rfl
  rw [e]
  generalize s &&& 128 = g
  by_cases c1 : s &&& 255 = 0 <;> by_cases c2 : g = 0 <;> cases c <;> simp [c1, c2, b2i, bZ, xb_l, changeFlags_eq]
theorem t171_eq (s : Int32) (c : Bool) (B : St) : f_X11_tens_171 (b2i c) s B = (s &&& 255, xup B 14 2 (fl (B 14 2) (if s &&& 255 = 0 then 27 else 31) (bZ (decide (¬ s &&& 128 = 0)) 8 ||| bZ c 17))) := by
  unfold f_X11_tens_171 f_X11_tens_198
  generalize s &&& 128 = g
  by_cases c1 : s &&& 255 = 0 <;> by_cases c2 : g = 0 <;> cases c <;> simp only [c1, c2, b2i, bZ, xb_l, flag_eq, xup_xup, xs4, fl_fl, if_true, if_false, not_true, not_false_iff, decide_true, decide_false, Bool.false_eq_true] <;> rfl
def tA (x a b : Int32) : Int32 := (if ((a &&& 15) + (b &&& 15)) + x ≤ 9 then ((a &&& 15) + (b &&& 15)) + x else ((a &&& 15) + (b &&& 15)) + x + 6) + (a &&& 240) + (b &&& 240)
def tS (x a b : Int32) : Int32 := (if 0 ≤ ((b &&& 15) - (a &&& 15)) - x then ((b &&& 15) - (a &&& 15)) - x else ((b &&& 15) - (a &&& 15)) - x - 6) - (a &&& 240) + (b &&& 240)
theorem addT (b a : Int32) (A : St) : f_X1_addedInTens b a A = f_X1_settledInTens (if tA (f_X1_x A) a b ≤ 159 then tA (f_X1_x A) a b else tA (f_X1_x A) a b + 96) (b2i (decide (¬ tA (f_X1_x A) a b ≤ 159))) A := by
  unfold f_X1_addedInTens f_X1_addedInTens_28 f_X1_addedInTens_56 f_X1_addedInTens_72
  have e : ∀ s0 : Int32, ((a &&& 15) + (b &&& 15) + f_X1_x A + s0) + ((a &&& 240) + (b &&& 240)) = ((a &&& 15) + (b &&& 15) + f_X1_x A + s0) + (a &&& 240) + (b &&& 240) := fun s0 => (Int32.add_assoc _ _ _).symm
  unfold tA
  by_cases c1 : ((a &&& 15) + (b &&& 15)) + f_X1_x A ≤ 9
  · rw [if_pos c1]
    rw [e 0, Int32.add_zero]
    simp only [if_pos c1]
    generalize (a &&& 15) + (b &&& 15) + f_X1_x A + (a &&& 240) + (b &&& 240) = t
    by_cases c2 : t ≤ 159 <;> simp [c2, b2i, xb_l]
  · rw [if_neg c1]
    rw [e 6]
    simp only [if_neg c1]
    generalize (a &&& 15) + (b &&& 15) + f_X1_x A + 6 + (a &&& 240) + (b &&& 240) = t
    by_cases c2 : t ≤ 159 <;> simp [c2, b2i, xb_l]
theorem subT (b a : Int32) (A : St) : f_X1_subtractedInTens b a A = f_X1_settledInTens (if 0 ≤ tS (f_X1_x A) a b then tS (f_X1_x A) a b else tS (f_X1_x A) a b - 96) (b2i (decide (¬ 0 ≤ tS (f_X1_x A) a b))) A := by
  unfold f_X1_subtractedInTens f_X1_subtractedInTens_26 f_X1_subtractedInTens_51 f_X1_subtractedInTens_67
  have e : ∀ s1 p q : Int32, s1 + (p - q) = s1 - q + p := by
    intro s1 p q
    rw [Int32.sub_eq_add_neg p q, Int32.sub_eq_add_neg s1 q, Int32.add_assoc, Int32.add_comm p]
  unfold tS
  by_cases c1 : 0 ≤ ((b &&& 15) - (a &&& 15)) - f_X1_x A
  · rw [if_pos c1]
    rw [e, Int32.sub_zero]
    simp only [if_pos c1]
    generalize (b &&& 15) - (a &&& 15) - f_X1_x A - (a &&& 240) + (b &&& 240) = t
    by_cases c2 : 0 ≤ t <;> simp only [c2, b2i, xb_l, if_true, if_false, not_true, not_false_iff, decide_true, decide_false, Bool.false_eq_true, if_neg (show ¬ (1 : Int32) = 0 by decide)]
  · rw [if_neg c1]
    rw [e]
    simp only [if_neg c1]
    generalize (b &&& 15) - (a &&& 15) - f_X1_x A - 6 - (a &&& 240) + (b &&& 240) = t
    by_cases c2 : 0 ≤ t <;> simp only [c2, b2i, xb_l, if_true, if_false, not_true, not_false_iff, decide_true, decide_false, Bool.false_eq_true, if_neg (show ¬ (1 : Int32) = 0 by decide)]
theorem tens0 (a b : Int32) (B : St) : f_X11_tens a b 0 B = f_X11_tens_171 (b2i (decide (¬ tA (f_X11_has 16 B) a b ≤ 159))) (if tA (f_X11_has 16 B) a b ≤ 159 then tA (f_X11_has 16 B) a b else tA (f_X11_has 16 B) a b + 96) B := by
  have h01 : f_X11_has 16 B = 0 ∨ f_X11_has 16 B = 1 := by unfold f_X11_has; split <;> simp
  have e : f_X11_tens a b 0 B = f_X11_tens_14 a b 0 (f_X11_has 16 B) B := by
    unfold f_X11_tens
    rcases h01 with h | h
    · rw [if_pos h, h]
    · rw [if_neg (by rw [h]; decide), h]
  rw [e]
  generalize f_X11_has 16 B = x
  unfold f_X11_tens_14 f_X11_tens_47 f_X11_tens_94 f_X11_tens_100 f_X11_tens_142 tA
  by_cases c1 : ((a &&& 15) + (b &&& 15)) + x ≤ 9
  · simp only [if_pos c1, if_true]
    generalize (a &&& 15) + (b &&& 15) + x + (a &&& 240) + (b &&& 240) = t
    by_cases c2 : t ≤ 159 <;> simp [c2, b2i]
  · simp only [if_neg c1, if_true]
    generalize (a &&& 15) + (b &&& 15) + x + 6 + (a &&& 240) + (b &&& 240) = t
    by_cases c2 : t ≤ 159 <;> simp [c2, b2i]
theorem tens1 (a b : Int32) (B : St) : f_X11_tens a b 1 B = f_X11_tens_171 (b2i (decide (¬ 0 ≤ tS (f_X11_has 16 B) a b))) (if 0 ≤ tS (f_X11_has 16 B) a b then tS (f_X11_has 16 B) a b else tS (f_X11_has 16 B) a b - 96) B := by
  have h01 : f_X11_has 16 B = 0 ∨ f_X11_has 16 B = 1 := by unfold f_X11_has; split <;> simp
  have e : f_X11_tens a b 1 B = f_X11_tens_14 a b 1 (f_X11_has 16 B) B := by
    unfold f_X11_tens
    rcases h01 with h | h
    · rw [if_pos h, h]
    · rw [if_neg (by rw [h]; decide), h]
  rw [e]
  generalize f_X11_has 16 B = x
  have n10 : ¬ (1 : Int32) = 0 := by decide
  unfold f_X11_tens_14 f_X11_tens_47 f_X11_tens_68 f_X11_tens_100 f_X11_tens_142 tS
  by_cases c1 : 0 ≤ ((b &&& 15) - (a &&& 15)) - x
  · simp only [if_pos c1, if_neg n10]
    generalize (b &&& 15) - (a &&& 15) - x - (a &&& 240) + (b &&& 240) = t
    by_cases c2 : 0 ≤ t <;> simp only [c2, b2i, n10, if_true, if_false, not_true, not_false_iff, decide_true, decide_false, Bool.false_eq_true]
  · simp only [if_neg c1, if_neg n10]
    generalize (b &&& 15) - (a &&& 15) - x - 6 - (a &&& 240) + (b &&& 240) = t
    by_cases c2 : 0 ≤ t <;> simp only [c2, b2i, n10, if_true, if_false, not_true, not_false_iff, decide_true, decide_false, Bool.false_eq_true]
theorem x_has (A : St) : f_X1_x A = f_X8_has 16 A := by
  unfold f_X1_x f_X8_has; split <;> simp_all
theorem tensA {D : Nat → Int32} {A B : St} {a a' b b' : Int32} (h : R id D A B) (hab : A 4 10 = 0 → a = a' ∧ b = b') : R id D (f_X1_addedInTens b a A).2 (f_X11_tens a' b' 0 B).2 ∧ ((f_X1_addedInTens b a A).2 4 10 = 0 → A 4 10 = 0 ∧ (f_X1_addedInTens b a A).1 = (f_X11_tens a' b' 0 B).1 ∧ rgS 0 (f_X1_addedInTens b a A).1) := by
  rw [addT, tens0, settled_eq, t171_eq]
  refine ⟨h.sets (fun e => ?_), fun e => ?_⟩
  · obtain ⟨rfl, rfl⟩ := hab e
    have g := h.g e
    rw [x_has, has_eq 16 g.s0, g.s0]
    refine ⟨rfl, fl_ok (g.s0 ▸ g.sr) ?_⟩
    split <;> split <;> decide
  · dsimp only at e ⊢
    rw [xo4 rfl] at e
    obtain ⟨rfl, rfl⟩ := hab e
    have g := h.g e
    rw [x_has, has_eq 16 g.s0]
    exact ⟨e, rfl, rgS_and (s := 0)⟩
theorem tensS {D : Nat → Int32} {A B : St} {a a' b b' : Int32} (h : R id D A B) (hab : A 4 10 = 0 → a = a' ∧ b = b') : R id D (f_X1_subtractedInTens b a A).2 (f_X11_tens a' b' 1 B).2 ∧ ((f_X1_subtractedInTens b a A).2 4 10 = 0 → A 4 10 = 0 ∧ (f_X1_subtractedInTens b a A).1 = (f_X11_tens a' b' 1 B).1 ∧ rgS 0 (f_X1_subtractedInTens b a A).1) := by
  rw [subT, tens1, settled_eq, t171_eq]
  refine ⟨h.sets (fun e => ?_), fun e => ?_⟩
  · obtain ⟨rfl, rfl⟩ := hab e
    have g := h.g e
    rw [x_has, has_eq 16 g.s0, g.s0]
    refine ⟨rfl, fl_ok (g.s0 ▸ g.sr) ?_⟩
    split <;> split <;> decide
  · dsimp only at e ⊢
    rw [xo4 rfl] at e
    obtain ⟨rfl, rfl⟩ := hab e
    have g := h.g e
    rw [x_has, has_eq 16 g.s0]
    exact ⟨e, rfl, rgS_and (s := 0)⟩
