/-! find, load, store -/
theorem stk_rd {A : St} {a s w : Int32} (h : (f_X2_read a s w A).2 4 10 = 0) : A 4 10 = 0 := by
  by_cases c : A 4 10 = 0
  · exact c
  · exfalso
    have e1 : f_X2_read a s w A = (0, A) := by
      unfold f_X2_read f_X2_allows
      simp only [xb_l, if_neg c, if_true]
    rw [e1] at h
    exact c h
theorem stk_wr {A : St} {a s v : Int32} (h : (f_X2_write a s v A) 4 10 = 0) : A 4 10 = 0 := by
  by_cases c : A 4 10 = 0
  · exact c
  · exfalso
    have e1 : f_X2_write a s v A = A := by
      unfold f_X2_write f_X2_allows
      simp only [xb_l, if_neg c, if_true]
    rw [e1] at h
    exact c h
theorem stk_f1 {A : St} (h : (f_X6_fetch 1 A).2 4 10 = 0) : A 4 10 = 0 := by
  rw [fetchC1] at h
  dsimp only at h
  rw [xo4 rfl] at h
  exact stk_rd h
theorem stk_ft {A : St} {s : Int32} (hs : s = 0 ∨ s = 1 ∨ s = 2) (h : (f_X6_fetch s A).2 4 10 = 0) : A 4 10 = 0 := by
  rcases hs with rfl | rfl | rfl
  · rw [fetchC0] at h; exact stk_f1 h
  · exact stk_f1 h
  · rw [fetchC2] at h; exact stk_f1 (stk_f1 h)
theorem stk_push {A : St} {s v : Int32} (h : (f_X6_push s v A) 4 10 = 0) : A 4 10 = 0 := by
  unfold f_X6_push at h
  rw [xb_l] at h
  have := stk_wr h
  rwa [xo4 rfl] at this
theorem stk_pull {A : St} {s : Int32} (h : (f_X6_pull s A).2 4 10 = 0) : A 4 10 = 0 := by
  unfold f_X6_pull at h
  rw [xb_l] at h
  dsimp only at h
  rw [xo4 rfl] at h
  exact stk_rd h
/-- an operand's six bits -/
def eB (m r : Nat) : Int32 := nI (8 * m + r)
theorem eB_of : ∀ m r : Fin 8, f_X9_of (eB m.val r.val) = nI (if m.val < 7 then m.val else 7 + r.val) := by decide
theorem eB_m : ∀ m r : Fin 8, (eB m.val r.val) >>> ((3 : Int32) &&& 31) = nI m.val := by decide
theorem eB_r : ∀ m r : Fin 8, (eB m.val r.val) &&& 7 = nI r.val := by decide
theorem n8r (r : Nat) : (8 : Int32) + nI r = nI (8 + r) := nI_add 8 r
theorem find35 {m r : Nat} {s : Int32} {B : St} (hm : m < 8) (hr : r < 8) : f_X11_find (eB m r) s B = f_X11_find_35 s (nI m) (nI r) (nI (8 + r)) (f_X6_stride (nI r) s) B := by
  unfold f_X11_find f_X11_find_32
  rw [eB_r ⟨m, hm⟩ ⟨r, hr⟩, eB_m ⟨m, hm⟩ ⟨r, hr⟩, n8r]
  unfold f_X6_stride f_X6_stride_14 f_X10_bytesOf
  by_cases h1 : s = 0
  · rw [if_pos h1, if_pos h1]
    by_cases h2 : nI r = 7
    · rw [if_pos h2, if_pos h2]
    · rw [if_neg h2, if_neg h2]
  · rw [if_neg h1, if_neg h1]
theorem fmo0 {s x4 x5 y : Int32} {B : St} : f_X11_find_35 s (nI 0) x4 x5 y B = xup (xup B 14 25 x4) 14 26 ((xup B 14 25 x4) 15 x5.toNatClampNeg) := by
  simp only [f_X11_find_35, f_X11_find_59, f_X11_find_79, f_X11_find_95, f_X11_find_112, f_X11_find_134, f_X11_find_156, show nI 0 = 0 from rfl, if_true]
  rw [if_neg (by decide), if_neg (by decide), if_neg (by decide), if_neg (by decide), if_neg (by decide), if_neg (by decide)]
theorem fmo1 {s x4 x5 y : Int32} {B : St} : f_X11_find_35 s (nI 1) x4 x5 y B = xup (xup B 14 25 x5) 14 26 ((xup B 14 25 x5) 15 x5.toNatClampNeg) := by
  simp only [f_X11_find_35, f_X11_find_59, f_X11_find_79, f_X11_find_95, f_X11_find_112, f_X11_find_134, f_X11_find_156, show nI 1 = 1 from rfl, if_true]
  rw [if_neg (by decide), if_neg (by decide), if_neg (by decide), if_neg (by decide), if_neg (by decide), if_neg (by decide), if_neg (by decide)]
theorem fmo2 {s x4 x5 y : Int32} {B : St} : f_X11_find_35 s (nI 2) x4 x5 y B = xup (xup B 14 25 16) 14 26 ((xup B 14 25 16) 15 x5.toNatClampNeg) := by
  simp only [f_X11_find_35, f_X11_find_59, f_X11_find_79, f_X11_find_95, f_X11_find_112, f_X11_find_134, f_X11_find_156, show nI 2 = 2 from rfl, if_true]
  rw [if_neg (by decide), if_neg (by decide), if_neg (by decide), if_neg (by decide), if_neg (by decide), if_neg (by decide), if_neg (by decide), if_neg (by decide)]
theorem fmo3 {s x4 x5 y : Int32} {B : St} : f_X11_find_35 s (nI 3) x4 x5 y B = (xb (xup (xup B 14 25 16) 14 26 ((xup B 14 25 16) 15 x5.toNatClampNeg)) fun q => xup q 15 x5.toNatClampNeg (q 15 x5.toNatClampNeg + y)) := by
  simp only [f_X11_find_35, f_X11_find_59, f_X11_find_79, f_X11_find_95, f_X11_find_112, f_X11_find_134, f_X11_find_156, show nI 3 = 3 from rfl, if_true, xb_l]
  rw [if_neg (by decide), if_neg (by decide), if_neg (by decide), if_neg (by decide), if_neg (by decide), if_neg (by decide), if_neg (by decide)]
theorem fmo4 {s x4 x5 y : Int32} {B : St} : f_X11_find_35 s (nI 4) x4 x5 y B = (xb (xup (xup B 14 25 16) 15 x5.toNatClampNeg (B 15 x5.toNatClampNeg - y)) fun q => xup q 14 26 (q 15 x5.toNatClampNeg)) := by
  simp only [f_X11_find_35, f_X11_find_59, f_X11_find_79, f_X11_find_95, f_X11_find_112, f_X11_find_134, f_X11_find_156, show nI 4 = 4 from rfl, if_true, xb_l]
  rw [if_neg (by decide), if_neg (by decide), if_neg (by decide), if_neg (by decide), if_neg (by decide), if_neg (by decide), if_neg (by decide)]
theorem fmo5 {s x4 x5 y : Int32} {B : St} : f_X11_find_35 s (nI 5) x4 x5 y B = (xb (f_X11_fetch (xup B 14 25 16)) fun q => xup q.2 14 26 ((xup B 14 25 16) 15 x5.toNatClampNeg + q.1.toInt16.toInt32)) := by
  simp only [f_X11_find_35, f_X11_find_59, f_X11_find_79, f_X11_find_95, f_X11_find_112, f_X11_find_134, f_X11_find_156, show nI 5 = 5 from rfl, if_true, xb_l]
  rw [if_neg (by decide), if_neg (by decide), if_neg (by decide), if_pos (by decide), if_neg (by decide), if_neg (by decide), if_neg (by decide)]
theorem fmo6 {s x4 x5 y : Int32} {B : St} : f_X11_find_35 s (nI 6) x4 x5 y B = (xb (f_X11_index (xup B 14 25 16)) fun q => xup q.2 14 26 ((xup B 14 25 16) 15 x5.toNatClampNeg + q.1)) := by
  simp only [f_X11_find_35, f_X11_find_59, f_X11_find_79, f_X11_find_95, f_X11_find_112, f_X11_find_134, f_X11_find_156, show nI 6 = 6 from rfl, if_true, xb_l]
  rw [if_neg (by decide), if_neg (by decide), if_neg (by decide), if_pos (by decide), if_neg (by decide), if_neg (by decide), if_neg (by decide)]
theorem fmo7 {s x4 x5 y : Int32} {B : St} : f_X11_find_35 s (nI 7) x4 x5 y B = f_X11_findMore x4 s (xup B 14 25 16) := by
  simp only [f_X11_find_35, f_X11_find_59, f_X11_find_79, f_X11_find_95, f_X11_find_112, f_X11_find_134, f_X11_find_156, show nI 7 = 7 from rfl, if_true, xb_l]
  rw [if_neg (by decide), if_neg (by decide), if_neg (by decide), if_pos (by decide), if_neg (by decide), if_neg (by decide), if_neg (by decide)]
theorem fn0 {s : Int32} {B : St} : f_X11_findMore (nI 0) s B = (xb (f_X11_fetch B) fun q => xup q.2 14 26 q.1.toInt16.toInt32) := by
  simp only [f_X11_findMore, f_X11_findMore_21, f_X11_findMore_35, f_X11_findMore_51, f_X11_findMore_66, show nI 0 = 0 from rfl, if_true, xb_l]
  rw [if_neg (by decide), if_neg (by decide), if_neg (by decide), if_neg (by decide)]
theorem fn1 {s : Int32} {B : St} : f_X11_findMore (nI 1) s B = (xb (f_X11_number 2 B) fun q => xup q.2 14 26 q.1) := by
  simp only [f_X11_findMore, f_X11_findMore_21, f_X11_findMore_35, f_X11_findMore_51, f_X11_findMore_66, show nI 1 = 1 from rfl, if_true, xb_l]
  rw [if_neg (by decide), if_neg (by decide), if_neg (by decide), if_neg (by decide)]
theorem fn2 {s : Int32} {B : St} : f_X11_findMore (nI 2) s B = (xb (f_X11_fetch B) fun q => xup q.2 14 26 ((B 15 17) + q.1.toInt16.toInt32)) := by
  simp only [f_X11_findMore, f_X11_findMore_21, f_X11_findMore_35, f_X11_findMore_51, f_X11_findMore_66, show nI 2 = 2 from rfl, if_true, xb_l]
  rw [if_neg (by decide), if_neg (by decide), if_neg (by decide), if_neg (by decide)]
theorem fn3 {s : Int32} {B : St} : f_X11_findMore (nI 3) s B = (xb (f_X11_index B) fun q => xup q.2 14 26 ((B 15 17) + q.1)) := by
  simp only [f_X11_findMore, f_X11_findMore_21, f_X11_findMore_35, f_X11_findMore_51, f_X11_findMore_66, show nI 3 = 3 from rfl, if_true, xb_l]
  rw [if_neg (by decide), if_neg (by decide), if_neg (by decide), if_neg (by decide)]
theorem fn4 {s : Int32} {B : St} : f_X11_findMore (nI 4) s B = (xb (f_X11_number s (xup B 14 25 17)) fun q => xup q.2 14 26 q.1) := by
  simp only [f_X11_findMore, f_X11_findMore_21, f_X11_findMore_35, f_X11_findMore_51, f_X11_findMore_66, show nI 4 = 4 from rfl, if_true, xb_l]
  rw [if_neg (by decide), if_neg (by decide), if_neg (by decide), if_neg (by decide)]
def ROreg (k : Nat) (A B : St) : Prop := xrg 0 1 (A 10 2) ∧ A 10 3 = nI k ∧ B 14 25 = nI k
def ROmem (A B : St) : Prop := 1 < A 10 2 ∧ ¬ A 10 2 = 11 ∧ B 14 25 = 16 ∧ A 10 3 = B 14 26
def ROnum (s : Int32) (A B : St) : Prop := A 10 2 = 11 ∧ B 14 25 = 17 ∧ A 10 3 = B 14 26 ∧ rgS s (A 10 3)
def RO (s : Int32) (m r : Nat) (A B : St) : Prop := if m ≤ 1 then ROreg (8 * m + r) A B else if m = 7 ∧ r = 4 then ROnum s A B else ROmem A B
def okE (m r : Nat) : Prop := m < 7 ∧ r < 8 ∨ m = 7 ∧ r ≤ 4
/-- index: the word of the second -/
theorem nib12 {x : Int32} (h : xrg 0 65535 x) : (ius x 12) &&& 15 = (x >>> ((12 : Int32) &&& 31)) &&& 15 ∧ ((ius x 12) &&& 15).toNatClampNeg < 16 := by
  obtain ⟨j, hj, rfl⟩ := xrg_nat (n := 65536) h (by decide) (by decide)
  have e1 : ius (nI j) 12 = nI (j / 4096) := by
    apply Int32.toBitVec_inj.mp
    apply BitVec.eq_of_toNat_eq
    rw [show (12 : Int32) = nI 12 from rfl, ius_nI _ 12 (by decide), BitVec.toNat_ushiftRight, pk_tn (by omega), pk_tn (by omega), Nat.shiftRight_eq_div_pow]
  have e2 : (nI j) >>> ((12 : Int32) &&& 31) = nI (j / 4096) := by
    apply Int32.toInt_inj.mp
    rw [nI_toInt (by omega)]
    show ((nI j) >>> ((nI 12) &&& 31)).toBitVec.toInt = _
    rw [sar_nI _ 12 (by decide), BitVec.toInt_sshiftRight, Int.shiftRight_eq_div_pow]
    have : (nI j).toBitVec.toInt = (j : Int) := nI_toInt (by omega)
    rw [this]
    omega
  rw [e1, e2]
  refine ⟨rfl, ?_⟩
  rw [pk_andN (by omega) 4 (by decide), nI_clamp (by omega)]
  omega
theorem index {F : Int32 → Int32} {D : Nat → Int32} {A B : St} (h : R F D A B) : R F D (f_X6_fetch 1 A).2 (f_X11_index B).2 ∧ ((f_X6_fetch 1 A).2 4 10 = 0 → f_X6_index (f_X6_fetch 1 A).1 (f_X6_fetch 1 A).2 = (f_X11_index B).1) := by
  obtain ⟨h1, h2⟩ := fetch1 h
  unfold f_X11_index
  rw [xb_l]
  generalize f_X6_fetch 1 A = qa at *
  generalize f_X11_fetch B = qb at *
  refine ⟨?_, fun e => ?_⟩
  · split <;> exact h1
  · obtain ⟨g1, g2⟩ := h2 e
    rw [← g1]
    obtain ⟨n1, n2⟩ := nib12 g2
    unfold f_X6_index f_X6_index_26 f_X10_extended
    have hr := (h1.g e).reg _ (show ((ius qa.1 12) &&& 15).toNatClampNeg < 18 by omega)
    rw [hr, n1]
    by_cases c : (qa.1 &&& 2048) = 0
    · rw [if_pos c, if_pos c, if_pos rfl, if_pos rfl, if_neg (by decide), if_pos rfl]
    · rw [if_neg c, if_neg c, if_neg (by decide), if_pos rfl]
theorem RO.w {s : Int32} {m r : Nat} {A B A' B' : St} (h : RO s m r A B) (hA : A' 10 = A 10) (h25 : B' 14 25 = B 14 25) (h26 : B' 14 26 = B 14 26) : RO s m r A' B' := by
  unfold RO ROreg ROnum ROmem at *
  rw [hA, h25, h26]
  exact h
theorem ext1 (x : Int32) : f_X10_extended x 1 = x.toInt16.toInt32 := rfl
theorem fcl0 {e s : Int32} {A : St} (h : f_X9_of e = 0) : f_X6_find e s A = xup (xup A 10 2 0) 10 3 (e &&& 7) := by
  unfold f_X6_find f_X6_find_297
  rw [h, if_pos rfl]
theorem fcl1 {e s : Int32} {A : St} (h : f_X9_of e = 1) : f_X6_find e s A = xup (xup A 10 2 1) 10 3 (8 + (e &&& 7)) := by
  unfold f_X6_find f_X6_find_297
  rw [h, if_neg (by decide), if_pos rfl]
theorem fcl2 {e s : Int32} {A : St} (h : f_X9_of e = 2) : f_X6_find e s A = xup (xup A 10 2 2) 10 3 ((xup A 10 2 2) 2 (8 + (e &&& 7)).toNatClampNeg) := by
  unfold f_X6_find f_X6_find_297
  rw [h, if_neg (by decide), if_neg (by decide), if_pos rfl]
theorem fcl3 {e s : Int32} {A : St} (h : f_X9_of e = 3) : f_X6_find e s A = xup (xup (xup A 10 2 3) 10 3 (A 2 (8 + (e &&& 7)).toNatClampNeg)) 2 (8 + (e &&& 7)).toNatClampNeg (A 2 (8 + (e &&& 7)).toNatClampNeg + f_X6_stride (e &&& 7) s) := by
  unfold f_X6_find f_X6_find_297
  rw [h, if_neg (by decide), if_neg (by decide), if_neg (by decide), if_pos rfl]
theorem fcl4 {e s : Int32} {A : St} (h : f_X9_of e = 4) : f_X6_find e s A = xup (xup (xup A 10 2 4) 2 (8 + (e &&& 7)).toNatClampNeg (A 2 (8 + (e &&& 7)).toNatClampNeg - f_X6_stride (e &&& 7) s)) 10 3 ((xup (xup A 10 2 4) 2 (8 + (e &&& 7)).toNatClampNeg (A 2 (8 + (e &&& 7)).toNatClampNeg - f_X6_stride (e &&& 7) s)) 2 (8 + (e &&& 7)).toNatClampNeg) := by
  unfold f_X6_find f_X6_find_297
  rw [h, if_neg (by decide), if_neg (by decide), if_neg (by decide), if_neg (by decide), if_pos rfl]
theorem fcl5 {e s : Int32} {A : St} (h : f_X9_of e = 5) : f_X6_find e s A = xup (f_X6_fetch 1 (xup A 10 2 5)).2 10 3 (A 2 (8 + (e &&& 7)).toNatClampNeg + f_X10_extended (f_X6_fetch 1 (xup A 10 2 5)).1 1) := by
  unfold f_X6_find f_X6_find_297
  rw [h, if_neg (by decide), if_neg (by decide), if_neg (by decide), if_neg (by decide), if_neg (by decide), if_pos rfl, xb_l]
theorem fcl6 {e s : Int32} {A : St} (h : f_X9_of e = 6) : f_X6_find e s A = xup (f_X6_fetch 1 (xup A 10 2 6)).2 10 3 (A 2 (8 + (e &&& 7)).toNatClampNeg + f_X6_index (f_X6_fetch 1 (xup A 10 2 6)).1 (f_X6_fetch 1 (xup A 10 2 6)).2) := by
  unfold f_X6_find f_X6_find_297
  rw [h, if_neg (by decide), if_neg (by decide), if_neg (by decide), if_neg (by decide), if_neg (by decide), if_neg (by decide), if_pos rfl, xb_l]
theorem fcl7 {e s : Int32} {A : St} (h : f_X9_of e = 7) : f_X6_find e s A = xup (f_X6_fetch 1 (xup A 10 2 7)).2 10 3 (f_X10_extended (f_X6_fetch 1 (xup A 10 2 7)).1 1) := by
  unfold f_X6_find f_X6_find_297
  rw [h, if_neg (by decide), if_neg (by decide), if_neg (by decide), if_neg (by decide), if_neg (by decide), if_neg (by decide), if_neg (by decide), if_pos rfl, xb_l]
theorem fcl8 {e s : Int32} {A : St} (h : f_X9_of e = 8) : f_X6_find e s A = xup (f_X6_fetch 2 (xup A 10 2 8)).2 10 3 (f_X6_fetch 2 (xup A 10 2 8)).1 := by
  unfold f_X6_find f_X6_find_297
  rw [h, if_neg (by decide), if_neg (by decide), if_neg (by decide), if_neg (by decide), if_neg (by decide), if_neg (by decide), if_neg (by decide), if_neg (by decide), if_pos rfl, xb_l]
theorem fcl9 {e s : Int32} {A : St} (h : f_X9_of e = 9) : f_X6_find e s A = xup (f_X6_fetch 1 (xup A 10 2 9)).2 10 3 (A 2 17 + f_X10_extended (f_X6_fetch 1 (xup A 10 2 9)).1 1) := by
  unfold f_X6_find f_X6_find_297
  rw [h, if_neg (by decide), if_neg (by decide), if_neg (by decide), if_neg (by decide), if_neg (by decide), if_neg (by decide), if_neg (by decide), if_neg (by decide), if_neg (by decide), if_pos rfl, xb_l]
theorem fcl10 {e s : Int32} {A : St} (h : f_X9_of e = 10) : f_X6_find e s A = xup (f_X6_fetch 1 (xup A 10 2 10)).2 10 3 (A 2 17 + f_X6_index (f_X6_fetch 1 (xup A 10 2 10)).1 (f_X6_fetch 1 (xup A 10 2 10)).2) := by
  unfold f_X6_find f_X6_find_297
  rw [h, if_neg (by decide), if_neg (by decide), if_neg (by decide), if_neg (by decide), if_neg (by decide), if_neg (by decide), if_neg (by decide), if_neg (by decide), if_neg (by decide), if_neg (by decide), if_pos rfl, xb_l]
theorem fcl11 {e s : Int32} {A : St} (h : f_X9_of e = 11) : f_X6_find e s A = xup (f_X6_fetch s (xup A 10 2 11)).2 10 3 (f_X6_fetch s (xup A 10 2 11)).1 := by
  unfold f_X6_find f_X6_find_297
  rw [h, if_neg (by decide), if_neg (by decide), if_neg (by decide), if_neg (by decide), if_neg (by decide), if_neg (by decide), if_neg (by decide), if_neg (by decide), if_neg (by decide), if_neg (by decide), if_neg (by decide), if_pos rfl, xb_l]
theorem find {F : Int32 → Int32} {D : Nat → Int32} {A B : St} {s : Int32} {m r : Nat} (h : R F D A B) (hs : s = 0 ∨ s = 1 ∨ s = 2) (he : okE m r) : R F D (f_X6_find (eB m r) s A) (f_X11_find (eB m r) s B) ∧ ((f_X6_find (eB m r) s A) 4 10 = 0 → A 4 10 = 0 ∧ RO s m r (f_X6_find (eB m r) s A) (f_X11_find (eB m r) s B)) := by
  have hm : m < 8 := by unfold okE at he; omega
  have hr : r < 8 := by unfold okE at he; omega
  have hof := eB_of ⟨m, hm⟩ ⟨r, hr⟩
  have her := eB_r ⟨m, hm⟩ ⟨r, hr⟩
  dsimp only at hof her
  rw [find35 hm hr]
  have hreg : A 4 10 = 0 → A 2 (8 + r) = B 15 (8 + r) := fun e => (h.g e).reg _ (by omega)
  have hcl : (nI (8 + r)).toNatClampNeg = 8 + r := nI_clamp (by omega)
  rcases (show m = 0 ∨ m = 1 ∨ m = 2 ∨ m = 3 ∨ m = 4 ∨ m = 5 ∨ m = 6 ∨ m = 7 by omega) with rfl | rfl | rfl | rfl | rfl | rfl | rfl | rfl
  · rw [fcl0 hof, her, fmo0, hcl]
    refine ⟨(h.setA.setA.set25).set26, fun e => ⟨?_, ?_⟩⟩
    · rwa [xo4 rfl, xo4 rfl] at e
    · unfold RO ROreg
      rw [if_pos (by decide)]
      refine ⟨?_, ?_, ?_⟩
      · rw [xo4 rfl, xs4]; exact ⟨by decide, by decide⟩
      · rw [xs4]; congr 1; omega
      · rw [xo4 rfl, xs4]; congr 1; omega
  · rw [fcl1 hof, her, n8r, fmo1, hcl]
    refine ⟨(h.setA.setA.set25).set26, fun e => ⟨?_, ?_⟩⟩
    · rwa [xo4 rfl, xo4 rfl] at e
    · unfold RO ROreg
      rw [if_pos (by decide)]
      refine ⟨?_, ?_, ?_⟩
      · rw [xo4 rfl, xs4]; exact ⟨by decide, by decide⟩
      · rw [xs4]
      · rw [xo4 rfl, xs4]
  · rw [fcl2 hof, her, n8r, fmo2, hcl]
    refine ⟨(h.setA.setA.set25).set26, fun e => ?_⟩
    rw [xo4 rfl, xo4 rfl] at e
    refine ⟨e, ?_⟩
    unfold RO
    rw [if_neg (by decide), if_neg (by omega)]
    refine ⟨?_, ?_, ?_, ?_⟩
    · rw [xo4 rfl, xs4]; decide
    · rw [xo4 rfl, xs4]; decide
    · rw [xo4 rfl, xs4]
    · rw [xs4, xs4, xo4 rfl, xo4 rfl]; exact hreg e
  · rw [fcl3 hof, her, n8r, fmo3, hcl, xb_l]
    refine ⟨R.setr (h.setA.setA.set25).set26 (by omega) (fun e => ?_), fun e => ?_⟩
    · rw [xo4 rfl, xo4 rfl] at e
      rw [xo4 rfl, xo4 rfl, hreg e]
    · rw [xo4 rfl, xo4 rfl, xo4 rfl] at e
      refine ⟨e, ?_⟩
      unfold RO
      rw [if_neg (by decide), if_neg (by omega)]
      refine ⟨?_, ?_, ?_, ?_⟩
      · rw [xo4 rfl, xo4 rfl, xs4]; decide
      · rw [xo4 rfl, xo4 rfl, xs4]; decide
      · rw [xo4 rfl, xo4 rfl, xs4]
      · rw [xo4 rfl, xs4, xo4 rfl, xs4, xo4 rfl]; exact hreg e
  · rw [fcl4 hof, her, n8r, fmo4, hcl, xb_l]
    refine ⟨(R.setr h.setA.set25 (by omega) (fun e => ?_)).setA.set26, fun e => ?_⟩
    · rw [xo4 rfl] at e
      rw [hreg e]
    · rw [xo4 rfl, xo4 rfl, xo4 rfl] at e
      refine ⟨e, ?_⟩
      unfold RO
      rw [if_neg (by decide), if_neg (by omega)]
      refine ⟨?_, ?_, ?_, ?_⟩
      · rw [xo4 rfl, xo4 rfl, xs4]; decide
      · rw [xo4 rfl, xo4 rfl, xs4]; decide
      · rw [xo4 rfl, xo4 rfl, xs4]
      · rw [xs4, xs4, xs4, xs4, hreg e]
  · rw [fcl5 hof, her, n8r, fmo5, hcl, xb_l]
    obtain ⟨f1, f2⟩ := fetch1 ((h.setA (k := 2) (v := 5)).set25 (v := 16))
    refine ⟨f1.setA.set26, fun e => ?_⟩
    rw [xo4 rfl] at e
    have e0 := stk_f1 e
    rw [xo4 rfl] at e0
    refine ⟨e0, ?_⟩
    unfold RO
    rw [if_neg (by decide), if_neg (by omega)]
    refine ⟨?_, ?_, ?_, ?_⟩
    · rw [xo4 rfl, fr_X6_fetch rfl, xs4]; decide
    · rw [xo4 rfl, fr_X6_fetch rfl, xs4]; decide
    · rw [xo4 rfl, g_X11_fetch rfl, xs4]
    · rw [xs4, xs4, (f2 e).1, ext1, hreg e0, xo4 rfl]
  · rw [fcl6 hof, her, n8r, fmo6, hcl, xb_l]
    obtain ⟨f1, f2⟩ := index ((h.setA (k := 2) (v := 6)).set25 (v := 16))
    refine ⟨f1.setA.set26, fun e => ?_⟩
    rw [xo4 rfl] at e
    have e0 := stk_f1 e
    rw [xo4 rfl] at e0
    refine ⟨e0, ?_⟩
    unfold RO
    rw [if_neg (by decide), if_neg (by omega)]
    refine ⟨?_, ?_, ?_, ?_⟩
    · rw [xo4 rfl, fr_X6_fetch rfl, xs4]; decide
    · rw [xo4 rfl, fr_X6_fetch rfl, xs4]; decide
    · rw [xo4 rfl, g_X11_index rfl, xs4]
    · rw [xs4, xs4, f2 e, hreg e0, xo4 rfl]
  · rw [fmo7]
    have hr4 : r ≤ 4 := by unfold okE at he; omega
    rcases (show r = 0 ∨ r = 1 ∨ r = 2 ∨ r = 3 ∨ r = 4 by omega) with rfl | rfl | rfl | rfl | rfl
    · rw [fcl7 hof, fn0, xb_l]
      obtain ⟨f1, f2⟩ := fetch1 ((h.setA (k := 2) (v := 7)).set25 (v := 16))
      refine ⟨f1.setA.set26, fun e => ?_⟩
      rw [xo4 rfl] at e
      have e0 := stk_f1 e
      rw [xo4 rfl] at e0
      refine ⟨e0, ?_⟩
      unfold RO
      rw [if_neg (by decide), if_neg (by omega)]
      refine ⟨?_, ?_, ?_, ?_⟩
      · rw [xo4 rfl, fr_X6_fetch rfl, xs4]; decide
      · rw [xo4 rfl, fr_X6_fetch rfl, xs4]; decide
      · rw [xo4 rfl, g_X11_fetch rfl, xs4]
      · rw [xs4, xs4, (f2 e).1, ext1]
    · rw [fcl8 hof, fn1, xb_l]
      obtain ⟨f1, f2⟩ := number (s := 2) ((h.setA (k := 2) (v := 8)).set25 (v := 16)) (Or.inr (Or.inr rfl))
      refine ⟨f1.setA.set26, fun e => ?_⟩
      rw [xo4 rfl] at e
      have e0 := stk_ft (Or.inr (Or.inr rfl)) e
      rw [xo4 rfl] at e0
      refine ⟨e0, ?_⟩
      unfold RO
      rw [if_neg (by decide), if_neg (by omega)]
      refine ⟨?_, ?_, ?_, ?_⟩
      · rw [xo4 rfl, fr_X6_fetch rfl, xs4]; decide
      · rw [xo4 rfl, fr_X6_fetch rfl, xs4]; decide
      · rw [xo4 rfl, g_X11_number rfl, xs4]
      · rw [xs4, xs4, (f2 e).1]
    · rw [fcl9 hof, fn2, xb_l]
      obtain ⟨f1, f2⟩ := fetch1 ((h.setA (k := 2) (v := 9)).set25 (v := 16))
      refine ⟨f1.setA.set26, fun e => ?_⟩
      rw [xo4 rfl] at e
      have e0 := stk_f1 e
      rw [xo4 rfl] at e0
      refine ⟨e0, ?_⟩
      unfold RO
      rw [if_neg (by decide), if_neg (by omega)]
      refine ⟨?_, ?_, ?_, ?_⟩
      · rw [xo4 rfl, fr_X6_fetch rfl, xs4]; decide
      · rw [xo4 rfl, fr_X6_fetch rfl, xs4]; decide
      · rw [xo4 rfl, g_X11_fetch rfl, xs4]
      · rw [xs4, xs4, (f2 e).1, ext1, (h.g e0).reg 17 (by decide), xo4 rfl]
    · rw [fcl10 hof, fn3, xb_l]
      obtain ⟨f1, f2⟩ := index ((h.setA (k := 2) (v := 10)).set25 (v := 16))
      refine ⟨f1.setA.set26, fun e => ?_⟩
      rw [xo4 rfl] at e
      have e0 := stk_f1 e
      rw [xo4 rfl] at e0
      refine ⟨e0, ?_⟩
      unfold RO
      rw [if_neg (by decide), if_neg (by omega)]
      refine ⟨?_, ?_, ?_, ?_⟩
      · rw [xo4 rfl, fr_X6_fetch rfl, xs4]; decide
      · rw [xo4 rfl, fr_X6_fetch rfl, xs4]; decide
      · rw [xo4 rfl, g_X11_index rfl, xs4]
      · rw [xs4, xs4, f2 e, (h.g e0).reg 17 (by decide), xo4 rfl]
    · rw [fcl11 hof, fn4, xb_l]
      obtain ⟨f1, f2⟩ := number (s := s) (((h.setA (k := 2) (v := 11)).set25 (v := 16)).set25 (v := 17)) hs
      refine ⟨f1.setA.set26, fun e => ?_⟩
      rw [xo4 rfl] at e
      have e0 := stk_ft hs e
      rw [xo4 rfl] at e0
      refine ⟨e0, ?_⟩
      unfold RO
      rw [if_neg (by decide), if_pos (by omega)]
      refine ⟨?_, ?_, ?_, ?_⟩
      · rw [xo4 rfl, fr_X6_fetch rfl, xs4]
      · rw [xo4 rfl, g_X11_number rfl, xs4]
      · rw [xs4, xs4, (f2 e).1]
      · rw [xs4]; exact (f2 e).2
