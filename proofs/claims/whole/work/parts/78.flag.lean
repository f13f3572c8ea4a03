/-! flags and arithmetic -/
theorem xup_xup {M : St} {i j : Nat} {v w : Int32} : xup (xup M i j v) i j w = xup M i j w := by
  funext p k
  rw [xup_ite, xup_ite, xup_ite]
  by_cases h : p = i ∧ k = j
  · rw [if_pos h, if_pos h]
  · rw [if_neg h, if_neg h, if_neg h]
theorem changeFlags_eq (m b : Int32) (A : St) : f_X8_changeFlags m b A = xup A 2 18 (fl (A 2 18) m b) := rfl
theorem flag_eq (m on : Int32) (B : St) : f_X11_flag m on B = xup B 14 2 (fl (B 14 2) m (if on = 0 then 0 else m)) := by
  unfold f_X11_flag f_X11_flag_22
  by_cases h : on = 0
  · rw [if_pos h, if_pos h, fl_off]
  · rw [if_neg h, if_neg h, fl_on]
theorem test_eq (s v : Int32) (B : St) : f_X11_test s v B = xup B 14 2 (fl (B 14 2) 15 (f_X1_signs v s)) := by
  unfold f_X11_test f_X11_test_18 f_X11_test_32 f_X1_signs f_X1_signs_16
  rw [ext_eq]
  simp only [flag_eq, xb_l, xup_xup, xs4]
  by_cases h1 : 0 ≤ f_X10_extended v s <;> by_cases h2 : f_X10_extended v s = 0 <;> simp only [h1, h2, if_true, if_false, xup_xup, xs4, fl_fl] <;> (congr 1)
theorem tested_eq (v s : Int32) (A : St) : f_X1_tested v s A = (v, xup A 2 18 (fl (A 2 18) 15 (f_X1_signs v s))) := rfl
theorem has_eq {A B : St} (k : Int32) (h : A 2 18 = B 14 2) : f_X8_has k A = f_X11_has k B := by unfold f_X8_has f_X11_has; rw [h]
/-- the status changed by flags on both sides -/
theorem R.flags {D : Nat → Int32} {A B : St} {m b b' : Int32} (h : R id D A B) (hm : m &&& 42783 = m) (hb : A 4 10 = 0 → b &&& m = b' &&& m) : R id D (xup A 2 18 (fl (A 2 18) m b)) (xup B 14 2 (fl (B 14 2) m b')) := by
  refine h.sets (fun e => ?_)
  have g := h.g e
  rw [← g.s0, fl_cong (hb e)]
  exact ⟨rfl, fl_ok g.sr hm⟩
theorem R.test {D : Nat → Int32} {A B : St} {v v' s : Int32} (h : R id D A B) (hv : A 4 10 = 0 → f_X10_extended v s = f_X10_extended v' s) : R id D (f_X1_tested v s A).2 (f_X11_test s v' B) := by
  rw [tested_eq, test_eq]
  refine h.flags (by decide) (fun e => ?_)
  unfold f_X1_signs
  rw [hv e]
theorem and_orL (x y z : Int32) : x &&& (y ||| z) = (x &&& y) ||| (x &&& z) := by
  apply i32_ext
  intro i hi
  simp only [Int32.toBitVec_or, Int32.toBitVec_and, BitVec.getLsbD_or, BitVec.getLsbD_and]
  cases x.toBitVec.getLsbD i <;> cases y.toBitVec.getLsbD i <;> cases z.toBitVec.getLsbD i <;> rfl
theorem holds_eq {A B : St} {k : Nat} (hk : k < 16) (h : A 2 18 = B 14 2) : f_X8_holds (nI k) A = f_X11_holds (nI k) B := by
  have a1 := has_eq 1 h
  have a2 := has_eq 2 h
  have a4 := has_eq 4 h
  have a8 := has_eq 8 h
  have a5 : f_X8_has 5 A = if f_X11_has 1 B = 0 then f_X11_has 4 B else 1 := by
    unfold f_X8_has f_X11_has
    rw [h]
    have e5 : B 14 2 &&& 5 = 0 ↔ (B 14 2 &&& 1 = 0 ∧ B 14 2 &&& 4 = 0) := by
      have e : B 14 2 &&& 5 = (B 14 2 &&& 1) ||| (B 14 2 &&& 4) := by
        exact and_orL _ 1 4
      rw [e]
      constructor
      · intro g
        have g' : ∀ x y : Int32, x ||| y = 0 → x = 0 := by
          intro x y q
          apply i32_ext
          intro i hi
          have q1 := congrArg (fun z : Int32 => z.toBitVec.getLsbD i) q
          simp only [Int32.toBitVec_or, BitVec.getLsbD_or] at q1
          have : (0 : Int32).toBitVec.getLsbD i = false := by
            show (0#32).getLsbD i = false
            simp
          rw [this] at q1 ⊢
          cases hx : x.toBitVec.getLsbD i
          · rfl
          · rw [hx] at q1; simp at q1
        exact ⟨g' _ _ g, g' _ _ (Int32.or_comm _ _ ▸ g)⟩
      · rintro ⟨p, q⟩; rw [p, q]; rfl
    by_cases c1 : B 14 2 &&& 1 = 0 <;> by_cases c4 : B 14 2 &&& 4 = 0 <;> simp [e5, c1, c4]
  have b1 : f_X11_has 1 B = 0 ∨ f_X11_has 1 B = 1 := by unfold f_X11_has; split <;> simp
  have b2 : f_X11_has 2 B = 0 ∨ f_X11_has 2 B = 1 := by unfold f_X11_has; split <;> simp
  have b4 : f_X11_has 4 B = 0 ∨ f_X11_has 4 B = 1 := by unfold f_X11_has; split <;> simp
  have b8 : f_X11_has 8 B = 0 ∨ f_X11_has 8 B = 1 := by unfold f_X11_has; split <;> simp
  unfold f_X8_holds f_X8_holds_19 f_X11_holds f_X11_holds_23 f_X11_holds_49 f_X11_holds_62 f_X11_holds_75 f_X11_holds_88 f_X11_holds_102 f_X11_holds_112 f_X11_holds_134 f_X11_holds_130 f_X11_holds_135 f_X11_holds_150
  rw [a1, a2, a4, a5, a8]
  rcases b1 with b1 | b1 <;> rcases b2 with b2 | b2 <;> rcases b4 with b4 | b4 <;> rcases b8 with b8 | b8 <;> rw [b1, b2, b4, b8] <;> (revert k; decide)
theorem changeStatus {D : Nat → Int32} {A B : St} {w w' : Int32} (h : R id D A B) (hw : A 4 10 = 0 → w &&& 42783 = w' &&& 42783) : R id D (f_X8_changeStatus w A) (f_X11_setStatus w' B) := by
  refine h.rg (fun p hp => fr_X8_changeStatus (xnot_sub hp rfl)) (fun p k hp => g_X11_setStatus (x2_sub hp rfl)) (fun e g => ?_)
  have hx : R id D A B := h
  unfold f_X8_changeStatus f_X8_changeStatus_51 f_X11_setStatus f_X11_setStatus_48
  rw [hw e]
  have ok : (w' &&& 42783) &&& 42783 = w' &&& 42783 := by rw [Int32.and_assoc, Int32.and_self]
  rw [g.s0, Int32.xor_comm (w' &&& 42783)]
  by_cases c : (B 14 2 ^^^ (w' &&& 42783)) &&& 8192 = 0
  · rw [if_pos c, if_pos c]
    exact (h.sets (v := w' &&& 42783) (v' := w' &&& 42783) (fun _ => ⟨rfl, ok⟩)).g (by rw [xo4 rfl]; exact e)
  · rw [if_neg c, if_neg c]
    have r1 := h.setr (j := 15) (v := A 2 16) (v' := B 15 16) (by decide) (fun e => (h.g e).reg 16 (by decide))
    have r2 := r1.setr (j := 16) (v := A 2 15) (v' := B 15 15) (by decide) (fun _ => g.reg 15 (by decide))
    exact (r2.sets (v := w' &&& 42783) (v' := w' &&& 42783) (fun _ => ⟨rfl, ok⟩)).g (by rw [xo4 rfl, xo4 rfl, xo4 rfl]; exact e)
