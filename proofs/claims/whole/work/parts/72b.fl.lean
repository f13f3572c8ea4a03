/-! flags of a status -/
def fl (st m b : Int32) : Int32 := (st &&& (m ^^^ (-1))) ||| (b &&& m)
theorem i32_ext {x y : Int32} (h : ∀ i, i < 32 → x.toBitVec.getLsbD i = y.toBitVec.getLsbD i) : x = y := by
  apply Int32.toBitVec_inj.mp
  exact BitVec.eq_of_getLsbD_eq h
theorem i32_m1 (i : Nat) (h : i < 32) : (-1 : Int32).toBitVec.getLsbD i = true := by
  show (BitVec.allOnes 32).getLsbD i = true
  rw [BitVec.getLsbD_allOnes]
  simpa using h
theorem fl_fl (st m1 b1 m2 b2 : Int32) : fl (fl st m1 b1) m2 b2 = fl st (m1 ||| m2) ((b1 &&& (m2 ^^^ (-1))) ||| (b2 &&& m2)) := by
  apply i32_ext
  intro i hi
  unfold fl
  simp only [Int32.toBitVec_or, Int32.toBitVec_and, Int32.toBitVec_xor, BitVec.getLsbD_or, BitVec.getLsbD_and, BitVec.getLsbD_xor, i32_m1 i hi]
  cases st.toBitVec.getLsbD i <;> cases m1.toBitVec.getLsbD i <;> cases m2.toBitVec.getLsbD i <;> cases b1.toBitVec.getLsbD i <;> cases b2.toBitVec.getLsbD i <;> rfl
theorem fl_cong {st m b b' : Int32} (h : b &&& m = b' &&& m) : fl st m b = fl st m b' := by unfold fl; rw [h]
theorem fl_0 (st b : Int32) : fl st 0 b = st := by
  apply i32_ext
  intro i hi
  unfold fl
  simp only [Int32.toBitVec_or, Int32.toBitVec_and, Int32.toBitVec_xor, BitVec.getLsbD_or, BitVec.getLsbD_and, BitVec.getLsbD_xor, i32_m1 i hi]
  have : (0 : Int32).toBitVec.getLsbD i = false := by
    show (0#32).getLsbD i = false
    simp
  rw [this]
  cases st.toBitVec.getLsbD i <;> cases b.toBitVec.getLsbD i <;> rfl
theorem fl_ok {st m b : Int32} (h : st &&& 42783 = st) (hm : m &&& 42783 = m) : fl st m b &&& 42783 = fl st m b := by
  apply i32_ext
  intro i hi
  have h1 := congrArg (fun x : Int32 => x.toBitVec.getLsbD i) h
  have h2 := congrArg (fun x : Int32 => x.toBitVec.getLsbD i) hm
  revert h1 h2
  unfold fl
  simp only [Int32.toBitVec_or, Int32.toBitVec_and, Int32.toBitVec_xor, BitVec.getLsbD_or, BitVec.getLsbD_and, BitVec.getLsbD_xor, i32_m1 i hi]
  cases st.toBitVec.getLsbD i <;> cases m.toBitVec.getLsbD i <;> cases b.toBitVec.getLsbD i <;> cases (42783 : Int32).toBitVec.getLsbD i <;> simp
theorem fl_self (st m : Int32) : fl st m st = st := by
  apply i32_ext
  intro i hi
  unfold fl
  simp only [Int32.toBitVec_or, Int32.toBitVec_and, Int32.toBitVec_xor, BitVec.getLsbD_or, BitVec.getLsbD_and, BitVec.getLsbD_xor, i32_m1 i hi]
  cases st.toBitVec.getLsbD i <;> cases m.toBitVec.getLsbD i <;> rfl
theorem fl_on (st m : Int32) : st ||| m = fl st m m := by
  apply i32_ext
  intro i hi
  unfold fl
  simp only [Int32.toBitVec_or, Int32.toBitVec_and, Int32.toBitVec_xor, BitVec.getLsbD_or, BitVec.getLsbD_and, BitVec.getLsbD_xor, i32_m1 i hi]
  cases st.toBitVec.getLsbD i <;> cases m.toBitVec.getLsbD i <;> rfl
theorem fl_off (st m : Int32) : st &&& (m ^^^ (-1)) = fl st m 0 := by
  apply i32_ext
  intro i hi
  unfold fl
  have : (0 : Int32).toBitVec.getLsbD i = false := by
    show (0#32).getLsbD i = false
    simp
  simp only [Int32.toBitVec_or, Int32.toBitVec_and, Int32.toBitVec_xor, BitVec.getLsbD_or, BitVec.getLsbD_and, BitVec.getLsbD_xor, i32_m1 i hi, this]
  cases st.toBitVec.getLsbD i <;> cases m.toBitVec.getLsbD i <;> rfl
theorem fl_S {x m : Int32} (h : m &&& 8192 = 0) : (fl x m 0) &&& 8192 = x &&& 8192 := by
  apply i32_ext
  intro i hi
  have h1 := congrArg (fun x : Int32 => x.toBitVec.getLsbD i) h
  revert h1
  have : (0 : Int32).toBitVec.getLsbD i = false := by
    show (0#32).getLsbD i = false
    simp
  unfold fl
  simp only [Int32.toBitVec_or, Int32.toBitVec_and, Int32.toBitVec_xor, BitVec.getLsbD_or, BitVec.getLsbD_and, BitVec.getLsbD_xor, i32_m1 i hi, this]
  cases x.toBitVec.getLsbD i <;> cases m.toBitVec.getLsbD i <;> cases (8192 : Int32).toBitVec.getLsbD i <;> simp
