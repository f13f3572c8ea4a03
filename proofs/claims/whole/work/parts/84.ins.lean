/-! pieces of instructions -/
theorem R.pend {D : Nat → Int32} {A B : St} (sg : Int32) (h : R id D A B) : R (fun st => fl st 15 sg) D (xup A 2 18 (fl (A 2 18) 15 sg)) B := by
  have fa : FA A (xup A 2 18 (fl (A 2 18) 15 sg)) := fun p hp => xup_other (xnot_at hp rfl)
  refine R.mk (h.b.cg (fun p hp => fa p (xnot_sub hp rfl)) (fun p j hp => rfl)) ((fa 11 rfl).trans h.d) (fun e => ?_) (fun x => ?_)
  · rw [xo4 rfl] at e
    have g := h.g e
    exact RG.mk (fun i hi => by rw [xup_o2 (Or.inr (by omega))]; exact g.reg i hi) (by rw [xs4, g.s0]) (by rw [xs4]; exact fl_ok g.sr (by decide)) (by rw [xo4 rfl]; exact g.tr) (by rw [xo4 rfl]; exact g.sp)
  · have h1 := fl_fl x 15 sg 15 0
    rw [← fl_S (x := fl x 15 sg) (m := 15) (by decide), h1, ← fl_S (x := x) (m := 15) (by decide)]
    have e : (sg &&& (15 ^^^ (-1))) ||| ((0 : Int32) &&& 15) = sg &&& (15 ^^^ (-1)) := by
      rw [show (0 : Int32) &&& 15 = 0 by decide, Int32.or_zero]
    have e2 : fl x (15 ||| 15) ((sg &&& (15 ^^^ (-1))) ||| ((0 : Int32) &&& 15)) = fl x 15 0 := by
      rw [e]
      refine fl_cong ?_
      rw [Int32.and_assoc, show ((15 : Int32) ^^^ (-1)) &&& (15 ||| 15) = 0 by decide]
      simp
    rw [e2]
theorem R.settle {D : Nat → Int32} {A B : St} {sg sg' : Int32} (h : R (fun st => fl st 15 sg) D A B) (hs : A 4 10 = 0 → sg = sg') : R id D A (xup B 14 2 (fl (B 14 2) 15 sg')) := by
  refine R.mk (h.b.cg (fun p hp => rfl) (fun p j hp => xup_o2 (x2_field 14 2 hp rfl))) h.d (fun e => ?_) (fun x => rfl)
  have g := h.g e
  have := hs e; subst this
  exact RG.mk (fun i hi => by rw [xo4 rfl]; exact g.reg i hi) (by rw [xs4]; exact g.st) g.sr (by rw [xo4 rfl]; exact g.tr) (by rw [xo4 rfl]; exact g.sp)
def eqM (s v v' : Int32) : Prop := v &&& f_X10_maskOf s = v' &&& f_X10_maskOf s
theorem eqM.rfl' {s v : Int32} : eqM s v v := rfl
theorem eqM_sg {s v v' : Int32} (hs : s = 0 ∨ s = 1 ∨ s = 2) (h : eqM s v v') : f_X1_signs v s = f_X1_signs v' s := by
  unfold f_X1_signs; rw [ext_cong hs h]
/-- a data register as an operand -/
theorem eB0 (r : Nat) : eB 0 r = nI r := by unfold eB; congr 1; omega
theorem eB1 (r : Nat) : eB 1 r = nI (8 + r) := by unfold eB; congr 1
theorem regfind {r : Nat} {s : Int32} {A : St} (hr : r < 8) : f_X6_find (nI r) s A = xup (xup A 10 2 0) 10 3 (nI r) := by
  have hof := eB_of ⟨0, by decide⟩ ⟨r, hr⟩
  have her := eB_r ⟨0, by decide⟩ ⟨r, hr⟩
  dsimp only at hof her
  rw [eB0] at hof her
  rw [fcl0 hof, her]
def RA (r : Nat) (A : St) : Prop := A 10 2 = 0 ∧ A 10 3 = nI r
theorem RA.w {r : Nat} {A A' : St} (h : RA r A) (h' : A' 10 = A 10) : RA r A' := by unfold RA; rw [h']; exact h
theorem RA_find {r : Nat} {A : St} : RA r (xup (xup A 10 2 0) 10 3 (nI r)) := ⟨by rw [xo4 rfl, xs4], by rw [xs4]⟩
theorem regread {r : Nat} {s : Int32} {A : St} (h : RA r A) (hr : r < 8) : f_X6_read s A = (A 2 r &&& f_X10_maskOf s, A) := by
  unfold f_X6_read f_X6_isRegister
  rw [h.1, h.2, if_neg (by decide), if_neg (by decide), pk_andN (by omega) 4 (by decide), nI_clamp (by omega), Nat.mod_eq_of_lt (by omega)]
theorem regwrite {r : Nat} {s v : Int32} {A : St} (h : RA r A) (hr : r < 8) : f_X6_write s v A = xup A 2 r ((A 2 r &&& (f_X10_maskOf s ^^^ (-1))) ||| (v &&& f_X10_maskOf s)) := by
  unfold f_X6_write f_X6_isRegister
  rw [h.1, h.2, if_neg (by decide), pk_andN (by omega) 4 (by decide), nI_clamp (by omega), Nat.mod_eq_of_lt (by omega)]
theorem keepIn_eq {r : Nat} {s v : Int32} {B : St} (hr : r < 8) : f_X11_keepIn (nI r) s v B = xup B 15 r ((B 15 r &&& (f_X10_maskOf s ^^^ (-1))) ||| (v &&& f_X10_maskOf s)) := by
  unfold f_X11_keepIn
  rw [nI_clamp (by omega), mask_eq]
theorem regstore {F : Int32 → Int32} {D : Nat → Int32} {A B : St} {s v v' : Int32} {r : Nat} (h : R F D A B) (hr : r < 8) (ha : RA r A) (hv : A 4 10 = 0 → eqM s v v') : R F D (f_X6_write s v A) (f_X11_keepIn (nI r) s v' B) := by
  rw [regwrite ha hr, keepIn_eq hr]
  refine h.setr (by omega) (fun e => ?_)
  rw [hv e, (h.g e).reg r (by omega)]
theorem stk_X6w {s v : Int32} {A : St} (h : (f_X6_write s v A) 4 10 = 0) : A 4 10 = 0 := by
  unfold f_X6_write at h
  split at h
  · exact stk_wr h
  · rwa [xup_o2 (Or.inl (by decide))] at h
theorem stk_X6r {s : Int32} {A : St} (h : (f_X6_read s A).2 4 10 = 0) : A 4 10 = 0 := by
  unfold f_X6_read at h
  split at h
  · exact h
  · split at h
    · exact stk_rd h
    · exact h
/-- flags first here, last there -/
theorem wr_test_reg {D : Nat → Int32} {A B : St} {s v v' : Int32} {r : Nat} (h : R id D A B) (hs : s = 0 ∨ s = 1 ∨ s = 2) (hr : r < 8) (ha : RA r A) (hv : A 4 10 = 0 → eqM s v v') : R id D (f_X6_write s v (f_X1_tested v s A).2) (f_X11_test s v' (f_X11_keepIn (nI r) s v' B)) := by
  rw [tested_eq, test_eq]
  have p := h.pend (f_X1_signs v s)
  have q := regstore (s := s) (v := v) (v' := v') p hr (ha.w (xup_other (by decide))) (fun e => hv (by rwa [xo4 rfl] at e))
  refine q.settle (fun e => ?_)
  have e1 := stk_X6w e
  rw [xo4 rfl] at e1
  exact eqM_sg hs (hv e1)
theorem wr_test_op {D : Nat → Int32} {A B : St} {s v v' : Int32} {m r : Nat} (h : R id D A B) (hs : s = 0 ∨ s = 1 ∨ s = 2) (he : okW m r) (ho : A 4 10 = 0 → RO s m r A B ∧ eqM s v v') : R id D (f_X6_write s v (f_X1_tested v s A).2) (f_X11_test s v' (f_X11_store s v' B)) := by
  rw [tested_eq, test_eq]
  have p := h.pend (f_X1_signs v s)
  obtain ⟨q, q2⟩ := store (s := s) (v := v) (v' := v') (m := m) (r := r) p hs he (fun e => by
    rw [xo4 rfl] at e
    exact ⟨(ho e).1.w (xup_other (by decide)) rfl rfl, (ho e).2⟩)
  refine q.settle (fun e => ?_)
  have e1 := q2 e
  rw [xo4 rfl] at e1
  exact eqM_sg hs (ho e1).2
/-- the source -/
theorem src {F : Int32 → Int32} {D : Nat → Int32} {A B : St} {s : Int32} {m r : Nat} (h : R F D A B) (hs : s = 0 ∨ s = 1 ∨ s = 2) (he : okE m r) (h2 : D 2 = eB m r) (h1 : D 1 = s) : R F D (f_X4_readSource A).2 (f_X11_loadAt (eB m r) s B).2 ∧ ((f_X4_readSource A).2 4 10 = 0 → A 4 10 = 0 ∧ RO s m r (f_X4_readSource A).2 (f_X11_loadAt (eB m r) s B).2 ∧ (f_X4_readSource A).1 = (f_X11_loadAt (eB m r) s B).1 ∧ rgS s (f_X4_readSource A).1) := by
  have l := loadAt (m := m) (r := r) h hs he
  have f := find (m := m) (r := r) h hs he
  unfold f_X4_readSource
  simp only [xb_l] at l ⊢
  have d1 : (f_X6_find (eB m r) s A) 11 1 = s := by rw [f.1.d, h1]
  rw [h.d, h2, h1, d1]
  exact l
/-- the source is a data register -/
theorem srcR {F : Int32 → Int32} {D : Nat → Int32} {A B : St} {s : Int32} {r : Nat} (h : R F D A B) (hr : r < 8) (h2 : D 2 = nI r) (h1 : D 1 = s) : R F D (f_X4_readSource A).2 B ∧ (f_X4_readSource A).2 4 10 = A 4 10 ∧ (A 4 10 = 0 → (f_X4_readSource A).1 = B 15 r &&& f_X10_maskOf s) := by
  unfold f_X4_readSource
  simp only [xb_l]
  rw [h.d, h2, h1, regfind hr]
  have d1 : (xup (xup A 10 2 0) 10 3 (nI r)) 11 1 = s := by rw [xo4 rfl, xo4 rfl, h.d, h1]
  rw [d1, regread RA_find hr]
  refine ⟨h.setA.setA, by dsimp only; rw [xo4 rfl, xo4 rfl], fun e => ?_⟩
  dsimp only
  rw [xo4 rfl, xo4 rfl, (h.g e).reg r (by omega)]
/-- the source is a number -/
theorem srcN {F : Int32 → Int32} {D : Nat → Int32} {A B : St} {s : Int32} (h : R F D A B) (hs : s = 0 ∨ s = 1 ∨ s = 2) (h2 : D 2 = eB 7 4) (h1 : D 1 = s) : R F D (f_X4_readSource A).2 (f_X11_number s B).2 ∧ ((f_X4_readSource A).2 4 10 = 0 → A 4 10 = 0 ∧ (f_X4_readSource A).1 = (f_X11_number s B).1 ∧ rgS s (f_X4_readSource A).1) := by
  have n := number (s := s) (h.setA (k := 2) (v := 11)) hs
  have hof : f_X9_of (eB 7 4) = 11 := by decide
  unfold f_X4_readSource
  simp only [xb_l]
  rw [h.d, h2, h1, fcl11 hof]
  have d1 : (xup (f_X6_fetch s (xup A 10 2 11)).2 10 3 (f_X6_fetch s (xup A 10 2 11)).1) 11 1 = s := by rw [xo4 rfl, n.1.d, h1]
  rw [d1]
  unfold f_X6_read
  have w : (xup (f_X6_fetch s (xup A 10 2 11)).2 10 3 (f_X6_fetch s (xup A 10 2 11)).1) 10 2 = 11 := by rw [xo4 rfl, fr_X6_fetch rfl, xs4]
  rw [if_pos w]
  refine ⟨n.1.setA, fun e => ?_⟩
  dsimp only at e ⊢
  rw [xo4 rfl] at e
  have e0 := stk_ft hs e
  rw [xo4 rfl] at e0
  rw [xs4]
  exact ⟨e0, n.2 e⟩
/-- find leaves the data registers -/
theorem fetch_reg {A : St} {j : Nat} (hj : j ≠ 17) : (f_X6_fetch 1 A).2 2 j = A 2 j := by
  rw [fetchC1]; dsimp only; rw [xup_o2 (Or.inr hj), fr_X2_read rfl]
theorem fetchs_reg {A : St} {j : Nat} {s : Int32} (hs : s = 0 ∨ s = 1 ∨ s = 2) (hj : j ≠ 17) : (f_X6_fetch s A).2 2 j = A 2 j := by
  rcases hs with rfl | rfl | rfl
  · rw [fetchC0]; exact fetch_reg hj
  · exact fetch_reg hj
  · rw [fetchC2]; dsimp only; rw [fetch_reg hj, fetch_reg hj]
theorem find_dreg {A : St} {s : Int32} {m r k : Nat} (hs : s = 0 ∨ s = 1 ∨ s = 2) (he : okE m r) (hk : k < 8) : (f_X6_find (eB m r) s A) 2 k = A 2 k := by
  have hm : m < 8 := by unfold okE at he; omega
  have hr : r < 8 := by unfold okE at he; omega
  have hof := eB_of ⟨m, hm⟩ ⟨r, hr⟩
  have her := eB_r ⟨m, hm⟩ ⟨r, hr⟩
  dsimp only at hof her
  have hcl : (nI (8 + r)).toNatClampNeg = 8 + r := nI_clamp (by omega)
  rcases (show m = 0 ∨ m = 1 ∨ m = 2 ∨ m = 3 ∨ m = 4 ∨ m = 5 ∨ m = 6 ∨ m = 7 by omega) with rfl | rfl | rfl | rfl | rfl | rfl | rfl | rfl
  · rw [fcl0 hof, xo4 rfl, xo4 rfl]
  · rw [fcl1 hof, xo4 rfl, xo4 rfl]
  · rw [fcl2 hof, xo4 rfl, xo4 rfl]
  · rw [fcl3 hof, her, n8r, hcl, xup_o2 (Or.inr (by omega)), xo4 rfl, xo4 rfl]
  · rw [fcl4 hof, her, n8r, hcl, xo4 rfl, xup_o2 (Or.inr (by omega)), xo4 rfl]
  · rw [fcl5 hof, xo4 rfl, fetch_reg (by omega), xo4 rfl]
  · rw [fcl6 hof, xo4 rfl, fetch_reg (by omega), xo4 rfl]
  · have hr4 : r ≤ 4 := by unfold okE at he; omega
    rcases (show r = 0 ∨ r = 1 ∨ r = 2 ∨ r = 3 ∨ r = 4 by omega) with rfl | rfl | rfl | rfl | rfl
    · rw [fcl7 hof, xo4 rfl, fetch_reg (by omega), xo4 rfl]
    · rw [fcl8 hof, xo4 rfl, fetchs_reg (by decide) (by omega), xo4 rfl]
    · rw [fcl9 hof, xo4 rfl, fetch_reg (by omega), xo4 rfl]
    · rw [fcl10 hof, xo4 rfl, fetch_reg (by omega), xo4 rfl]
    · rw [fcl11 hof, xo4 rfl, fetchs_reg hs (by omega), xo4 rfl]
/-- combined, operation by operation -/
theorem xb_eta {α β : Type} (x : α × β) : (xb x fun q => (q.1, q.2)) = x := rfl
theorem cb_1 (b a s : Int32) (M : St) : f_X1_combined 1 b a s M = f_X1_total 0 b a 1 s 31 M := by
  unfold f_X1_combined; rw [show opS.getD 1 0 = 1 from rfl, if_pos rfl, xb_eta]
theorem cb_2 (b a s : Int32) (M : St) : f_X1_combined 2 b a s M = f_X1_total 1 b a 1 s 31 M := by
  unfold f_X1_combined; rw [show opS.getD 2 0 = 2 from rfl, if_neg (by decide), if_pos rfl, xb_eta]
theorem cb_3 (b a s : Int32) (M : St) : f_X1_combined 3 b a s M = f_X1_addedInTens b a M := by
  unfold f_X1_combined; rw [show opS.getD 3 0 = 3 from rfl, if_neg (by decide), if_neg (by decide), if_pos rfl, xb_eta]
theorem cb_4 (b a s : Int32) (M : St) : f_X1_combined 4 b a s M = f_X1_total 0 b a (-1) s 31 M := by
  unfold f_X1_combined; rw [show opS.getD 4 0 = 4 from rfl, if_neg (by decide), if_neg (by decide), if_neg (by decide), if_pos rfl, xb_eta]
theorem cb_5 (b a s : Int32) (M : St) : f_X1_combined 5 b a s M = f_X1_total 1 b a (-1) s 31 M := by
  unfold f_X1_combined; rw [show opS.getD 5 0 = 5 from rfl, if_neg (by decide), if_neg (by decide), if_neg (by decide), if_neg (by decide), if_pos rfl, xb_eta]
theorem cb_6 (b a s : Int32) (M : St) : f_X1_combined 6 b a s M = f_X1_subtractedInTens b a M := by
  unfold f_X1_combined; rw [show opS.getD 6 0 = 6 from rfl, if_neg (by decide), if_neg (by decide), if_neg (by decide), if_neg (by decide), if_neg (by decide), if_pos rfl, xb_eta]
theorem cb_7 (b a s : Int32) (M : St) : f_X1_combined 7 b a s M = f_X1_total 0 b a (-1) s 15 M := by
  unfold f_X1_combined; rw [show opS.getD 7 0 = 7 from rfl, if_neg (by decide), if_neg (by decide), if_neg (by decide), if_neg (by decide), if_neg (by decide), if_neg (by decide), if_pos rfl, xb_eta]
theorem cb_8 (b a s : Int32) (M : St) : f_X1_combined 8 b a s M = f_X1_tested (b &&& a) s M := by
  unfold f_X1_combined; rw [show opS.getD 8 0 = 8 from rfl, if_neg (by decide), if_neg (by decide), if_neg (by decide), if_neg (by decide), if_neg (by decide), if_neg (by decide), if_neg (by decide), if_pos rfl, xb_eta]
theorem cb_9 (b a s : Int32) (M : St) : f_X1_combined 9 b a s M = f_X1_tested (b ||| a) s M := by
  unfold f_X1_combined; rw [show opS.getD 9 0 = 9 from rfl, if_neg (by decide), if_neg (by decide), if_neg (by decide), if_neg (by decide), if_neg (by decide), if_neg (by decide), if_neg (by decide), if_neg (by decide), if_pos rfl, xb_eta]
theorem cb_10 (b a s : Int32) (M : St) : f_X1_combined 10 b a s M = f_X1_tested (b ^^^ a) s M := by
  unfold f_X1_combined; rw [show opS.getD 10 0 = 10 from rfl, if_neg (by decide), if_neg (by decide), if_neg (by decide), if_neg (by decide), if_neg (by decide), if_neg (by decide), if_neg (by decide), if_neg (by decide), if_neg (by decide), if_pos rfl, xb_eta]
