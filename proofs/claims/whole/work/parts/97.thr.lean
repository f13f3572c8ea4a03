/-! group 3 -/
theorem pv3 {r d z m l : Nat} (h : wB 3 r d z m l) : f_X11_isPrivileged (wd 3 r d z m l) = (if nI (8 * r + (4 * d + z)) = 11 then 1 else (if nI (8 * r + (4 * d + z)) = 28 then (if (eB m l) < 32 then f_X11_isPrivileged_45 (eB m l) else (if (eB m l) < 49 then 1 else f_X11_isPrivileged_45 (eB m l))) else 0)) := by
  unfold f_X11_isPrivileged
  rw [(wd_g h).2, if_pos (show nI 3 = 3 from rfl), (wd_c h).2, wd_e h]
theorem one0 {s e : Int32} {B : St} : f_X11_one 0 s e B = f_X11_store s (f_X11_sum s (f_X11_loadAt e s B).1 0 1 1 (f_X11_loadAt e s B).2).1 (f_X11_sum s (f_X11_loadAt e s B).1 0 1 1 (f_X11_loadAt e s B).2).2 := by
  simp only [f_X11_one, f_X11_one_20, f_X11_one_31, f_X11_one_46, f_X11_one_66, f_X11_one_80, f_X11_one_92, f_X11_loadAt, xb_l, if_true, if_neg (show ¬ (0 : Int32) = 1 by decide), if_neg (show ¬ (0 : Int32) = 2 by decide), if_neg (show ¬ (0 : Int32) = 3 by decide), if_neg (show ¬ (0 : Int32) = 4 by decide), if_neg (show ¬ (4 : Int32) ≤ 0 by decide), if_neg (show ¬ (0 : Int32) - 0 / 2 * 2 = 1 by decide)]
theorem one1 {s e : Int32} {B : St} : f_X11_one 1 s e B = f_X11_test s 0 (f_X11_store s 0 (f_X11_find e s B)) := by
  simp only [f_X11_one, f_X11_one_20, f_X11_one_31, f_X11_one_46, f_X11_one_66, f_X11_one_80, f_X11_one_92, f_X11_loadAt, xb_l, if_true, if_neg (show ¬ (1 : Int32) = 0 by decide), if_neg (show ¬ (1 : Int32) = 2 by decide), if_neg (show ¬ (1 : Int32) = 3 by decide), if_neg (show ¬ (1 : Int32) = 4 by decide), if_neg (show ¬ (4 : Int32) ≤ 1 by decide), if_pos (show (1 : Int32) - 1 / 2 * 2 = 1 by decide)]
theorem one2 {s e : Int32} {B : St} : f_X11_one 2 s e B = f_X11_store s (f_X11_sum s (f_X11_loadAt e s B).1 0 1 0 (f_X11_loadAt e s B).2).1 (f_X11_sum s (f_X11_loadAt e s B).1 0 1 0 (f_X11_loadAt e s B).2).2 := by
  simp only [f_X11_one, f_X11_one_20, f_X11_one_31, f_X11_one_46, f_X11_one_66, f_X11_one_80, f_X11_one_92, f_X11_loadAt, xb_l, if_true, if_neg (show ¬ (2 : Int32) = 0 by decide), if_neg (show ¬ (2 : Int32) = 1 by decide), if_neg (show ¬ (2 : Int32) = 3 by decide), if_neg (show ¬ (2 : Int32) = 4 by decide), if_neg (show ¬ (4 : Int32) ≤ 2 by decide), if_neg (show ¬ (2 : Int32) - 2 / 2 * 2 = 1 by decide)]
theorem one3 {s e : Int32} {B : St} : f_X11_one 3 s e B = f_X11_test s ((f_X11_loadAt e s B).1 ^^^ (-1)) (f_X11_store s ((f_X11_loadAt e s B).1 ^^^ (-1)) (f_X11_loadAt e s B).2) := by
  simp only [f_X11_one, f_X11_one_20, f_X11_one_31, f_X11_one_46, f_X11_one_66, f_X11_one_80, f_X11_one_92, f_X11_loadAt, xb_l, if_true, if_neg (show ¬ (3 : Int32) = 0 by decide), if_neg (show ¬ (3 : Int32) = 1 by decide), if_neg (show ¬ (3 : Int32) = 2 by decide), if_neg (show ¬ (3 : Int32) = 4 by decide), if_neg (show ¬ (4 : Int32) ≤ 3 by decide), if_pos (show (3 : Int32) - 3 / 2 * 2 = 1 by decide)]
theorem one4 {s e : Int32} {B : St} : f_X11_one 4 s e B = f_X11_test s (f_X11_loadAt e s B).1 (f_X11_loadAt e s B).2 := by
  simp only [f_X11_one, f_X11_one_20, f_X11_one_31, f_X11_one_46, f_X11_one_66, f_X11_one_80, f_X11_one_92, f_X11_loadAt, xb_l, if_true, if_neg (show ¬ (4 : Int32) = 0 by decide), if_neg (show ¬ (4 : Int32) = 1 by decide), if_neg (show ¬ (4 : Int32) = 2 by decide), if_neg (show ¬ (4 : Int32) = 3 by decide), if_pos (show (4 : Int32) ≤ 4 by decide), if_neg (show ¬ (4 : Int32) - 4 / 2 * 2 = 1 by decide)]
theorem st31 (st v : Int32) : (st &&& (-32)) ||| (v &&& 31) = fl st 31 v := by
  unfold fl
  rw [show (31 : Int32) ^^^ (-1) = -32 by decide]
theorem n11 {D : Nat → Int32} {N B : St} (h : R id D (xup (xup N 12 6 0) 12 7 0) B) : N 11 = D := by
  have := h.d
  rwa [xup_other (by decide), xup_other (by decide)] at this
theorem trn {D : Nat → Int32} {A B : St} {s : Int32} {m l : Nat} (h : R id D A B) (hs : s = 0 ∨ s = 1 ∨ s = 2) (d1 : D 1 = s) (d3 : D 3 = eB m l) (ow : okW m l) : R id D (f_X4_turn A) (f_X11_test s ((f_X11_loadAt (eB m l) s B).1 ^^^ (-1)) (f_X11_store s ((f_X11_loadAt (eB m l) s B).1 ^^^ (-1)) (f_X11_loadAt (eB m l) s B).2)) := by
  have l0 := loadAt (m := m) (r := l) h hs ow.e
  have f := find (m := m) (r := l) h hs ow.e
  unfold f_X4_turn
  simp only [xb_l, if_true] at l0 ⊢
  rw [h.d, d3, d1, f.1.d, d1, l0.1.d, d1]
  generalize f_X6_read s (f_X6_find (eB m l) s A) = q4 at l0 ⊢
  generalize f_X11_loadAt (eB m l) s B = q at l0 ⊢
  obtain ⟨l1, l2⟩ := l0
  exact wr_test_op l1 hs ow (fun e => ⟨(l2 e).2.1, by rw [(l2 e).2.2.1]; exact eqM.rfl'⟩)
theorem tas {D : Nat → Int32} {A B : St} {m l : Nat} (h : R id D A B) (d3 : D 3 = eB m l) (ow : okW m l) : R id D (f_X4_testAndSet A) (f_X11_store 0 ((f_X11_loadAt (eB m l) 0 B).1 ||| 128) (f_X11_test 0 (f_X11_loadAt (eB m l) 0 B).1 (f_X11_loadAt (eB m l) 0 B).2)) := by
  have l0 := loadAt (m := m) (r := l) (s := 0) h (by decide) ow.e
  unfold f_X4_testAndSet
  simp only [xb_l, if_true] at l0 ⊢
  rw [h.d, d3]
  generalize f_X6_read 0 (f_X6_find (eB m l) 0 A) = q4 at l0 ⊢
  generalize f_X11_loadAt (eB m l) 0 B = q at l0 ⊢
  obtain ⟨l1, l2⟩ := l0
  have t := l1.test (v := q4.1) (v' := q.1) (s := 0) (fun e => by rw [(l2 e).2.2.1])
  refine (store t (by decide) ow (fun e => ?_)).1
  rw [tested_eq] at e
  dsimp only at e
  rw [xo4 rfl] at e
  refine ⟨(l2 e).2.1.w ?_ ?_ ?_, ?_⟩
  · exact fr_X1_tested rfl
  · rw [test_eq]; exact xo4 rfl
  · rw [test_eq]; exact xo4 rfl
  · rw [tested_eq]; dsimp only; rw [(l2 e).2.2.1]
theorem extd {D : Nat → Int32} {A B : St} {s t : Int32} {l : Nat} (h : R id D A B) (hs : s = 1 ∧ t = 0 ∨ s = 2 ∧ t = 1) (hl : l < 8) (d1 : D 1 = s) (d3 : D 3 = nI l) : R id D (f_X4_extend A) (xb (f_X11_keepIn (nI l) s (f_X11_extend (B 15 l) t) B) fun q14 => f_X11_test s (q14 15 l) q14) := by
  have hs3 : s = 0 ∨ s = 1 ∨ s = 2 := by rcases hs with ⟨rfl, rfl⟩ | ⟨rfl, rfl⟩ <;> decide
  have ht3 : t = 0 ∨ t = 1 ∨ t = 2 := by rcases hs with ⟨rfl, rfl⟩ | ⟨rfl, rfl⟩ <;> decide
  have st : s - 1 = t := by rcases hs with ⟨rfl, rfl⟩ | ⟨rfl, rfl⟩ <;> decide
  have h' : R id D (xup (xup A 10 2 0) 10 3 (nI l)) B := h.setA.setA
  unfold f_X4_extend
  simp only [xb_l, if_true]
  rw [h.d, d3, d1, st, regfind hl, regread RA_find hl]
  dsimp only
  have w := wr_test_reg (s := s) (v := f_X10_extended ((xup (xup A 10 2 0) 10 3 (nI l)) 2 l &&& f_X10_maskOf t) t) (v' := f_X11_extend (B 15 l) t) (r := l) h' hs3 hl RA_find (fun e => by
    rw [(h'.g e).reg l (by omega), ext_mask ht3]; exact eqM.rfl')
  have e : f_X11_test s ((f_X11_keepIn (nI l) s (f_X11_extend (B 15 l) t) B) 15 l) (f_X11_keepIn (nI l) s (f_X11_extend (B 15 l) t) B) = f_X11_test s (f_X11_extend (B 15 l) t) (f_X11_keepIn (nI l) s (f_X11_extend (B 15 l) t) B) := by
    rw [test_eq, test_eq]
    have : eqM s ((f_X11_keepIn (nI l) s (f_X11_extend (B 15 l) t) B) 15 l) (f_X11_extend (B 15 l) t) := by
      rw [keepIn_eq hl, xs4]
      generalize f_X11_extend (B 15 l) t = y
      generalize B 15 l = x
      unfold eqM
      generalize f_X10_maskOf s = k
      refine bt_ext (fun i hi => ?_)
      simp only [bt_or, bt_and, bt_xor, show bt (-1) i = true from i32_m1 i hi]
      cases bt x i <;> cases bt y i <;> cases bt k i <;> rfl
    rw [eqM_sg hs3 this]
  rw [e]
  exact w
theorem leg28 : ∀ m l : Fin 8, f_X11_isLegalThree (nI 28) (eB m.val l.val) = if m.val = 7 ∨ (m.val = 6 ∧ l.val = 4) then 0 else 1 := by decide +kernel
theorem prv28 : ∀ m l : Fin 8, (if (eB m.val l.val) < 32 then f_X11_isPrivileged_45 (eB m.val l.val) else (if (eB m.val l.val) < 49 then 1 else f_X11_isPrivileged_45 (eB m.val l.val))) = if m.val = 4 ∨ m.val = 5 ∨ (m.val = 6 ∧ (l.val = 0 ∨ l.val = 2 ∨ l.val = 3)) then 1 else 0 := by decide +kernel
theorem w15 {g r d z m l : Nat} (h : wB g r d z m l) (hm : m ≤ 1) : (wd g r d z m l) &&& 15 = eB m l := by
  obtain ⟨h1, h2, h3, h4, h5, h6⟩ := h
  unfold wd eB
  rw [pk_andN (by omega) 4 (by decide)]
  congr 1; omega
theorem R.quiet {F : Int32 → Int32} {D : Nat → Int32} {A B : St} (h : R F D A B) : R F D (f_X2_quietTimer A) (xup (xup (xup B 14 9 0) 14 10 0) 14 11 0) := by
  unfold f_X2_quietTimer
  refine R.mk (((h.b.s_tim ⟨by decide, by decide⟩).s_tlv ⟨by decide, by decide⟩).s_ask) ?_ (fun e => ?_) h.m8
  · rw [xup_other (by decide), xup_other (by decide), xup_other (by decide)]; exact h.d
  · rw [xo4 rfl, xo4 rfl, xo4 rfl] at e
    have g := h.g e
    exact RG.mk (fun i hi => by rw [xo4 rfl, xo4 rfl, xo4 rfl, xo4 rfl, xo4 rfl, xo4 rfl]; exact g.reg i hi) (by rw [xo4 rfl, xo4 rfl, xo4 rfl, xo4 rfl, xo4 rfl, xo4 rfl]; exact g.st) (by rw [xo4 rfl, xo4 rfl, xo4 rfl]; exact g.sr) (by rw [xo4 rfl, xo4 rfl, xo4 rfl, xo4 rfl, xo4 rfl, xo4 rfl]; exact g.tr) (by rw [xo4 rfl, xo4 rfl, xo4 rfl, xo4 rfl, xo4 rfl, xo4 rfl]; exact g.sp)
theorem xup_comm {M : St} {i j i' j' : Nat} {v w : Int32} (h : ¬ (i = i' ∧ j = j')) : xup (xup M i j v) i' j' w = xup (xup M i' j' w) i j v := by
  funext p k
  simp only [xup_ite]
  by_cases c1 : p = i ∧ k = j
  · by_cases c2 : p = i' ∧ k = j'
    · exact absurd ⟨c1.1.symm.trans c2.1, c1.2.symm.trans c2.2⟩ h
    · simp only [if_pos c1, if_neg c2]
  · simp only [if_neg c1]
theorem lnk {D : Nat → Int32} {A B : St} {l : Nat} (h : R id D A B) (hl : l < 8) (hq : ∀ A' : St, A' 11 = D → f_X3_lowerRegister A' = nI l) : R id D (f_X4_link A) (xb (f_X11_fetch B) fun q7 => (xb (f_X11_push 2 (q7.2 15 (8 + l)) q7.2) fun q10 => (xup (xup q10 15 (8 + l) (q10 15 15)) 15 15 (((xup q10 15 (8 + l) (q10 15 15)) 15 15) + q7.1.toInt16.toInt32)))) := by
  obtain ⟨f1, f2⟩ := fetch1 h
  unfold f_X4_link
  simp only [xb_l, if_true]
  rw [hq _ f1.d, n8r, nI_clamp (show 8 + l < 2 ^ 31 by omega)]
  have p := push (s := 2) (v := (f_X6_fetch 1 A).2 2 (8 + l)) (v' := (f_X11_fetch B).2 15 (8 + l)) f1 (by decide) (fun e => by rw [(f1.g e).reg (8 + l) (by omega)])
  have s1 := p.setr (j := 8 + l) (by omega) (fun e => (p.g e).reg 15 (by decide))
  refine s1.setr (by decide) (fun e => ?_)
  have e2 := e
  rw [xo4 rfl] at e2
  rw [(s1.g e).reg 15 (by decide), (f2 (stk_push e2)).1]
  rfl
theorem unl {D : Nat → Int32} {A B : St} {l : Nat} (h : R id D A B) (hl : l < 8) (hq : f_X3_lowerRegister A = nI l) : R id D (f_X4_unlink A) (xb (f_X11_pull 2 (xup B 15 15 (B 15 (8 + l)))) fun q17 => (xup q17.2 15 (8 + l) q17.1)) := by
  unfold f_X4_unlink
  simp only [xb_l, if_true]
  rw [hq, n8r, nI_clamp (show 8 + l < 2 ^ 31 by omega)]
  have s1 := h.setr (j := 15) (v := A 2 (8 + l)) (v' := B 15 (8 + l)) (by decide) (fun e => (h.g e).reg (8 + l) (by omega))
  obtain ⟨p1, p2⟩ := pull (s := 2) s1 (by decide)
  exact p1.setr (by omega) (fun e => (p2 e).1)
theorem rte {D : Nat → Int32} {A B : St} (h : R id D A B) : R id D (f_X4_returnFromException A) (xb (f_X11_pull 1 B) fun q17 => xb (f_X11_pull 2 q17.2) fun q20 => xup (f_X11_setStatus q17.1 q20.2) 15 17 q20.1) := by
  unfold f_X4_returnFromException
  simp only [xb_l, if_true]
  obtain ⟨p1, p2⟩ := pull (s := 1) h (by decide)
  obtain ⟨r1, r2⟩ := pull (s := 2) p1 (by decide)
  have cs := changeStatus r1 (w := (f_X6_pull 1 A).1) (w' := (f_X11_pull 1 B).1) (fun e => by rw [(p2 (stk_pull e)).1])
  refine cs.setr (by decide) (fun e => (r2 ?_).1)
  rw [← e, fr_X8_changeStatus rfl]
theorem rtr {D : Nat → Int32} {A B : St} (h : R id D A B) : R id D (f_X4_returnWithFlags A) (xb (f_X11_pull 1 B) fun q17 => xb (f_X11_pull 2 q17.2) fun q20 => xup (xup q20.2 14 2 (((q20.2 14 2) &&& (-32)) ||| (q17.1 &&& 31))) 15 17 q20.1) := by
  unfold f_X4_returnWithFlags
  simp only [xb_l, if_true]
  obtain ⟨p1, p2⟩ := pull (s := 1) h (by decide)
  obtain ⟨r1, r2⟩ := pull (s := 2) p1 (by decide)
  rw [changeFlags_eq, xo4 rfl, xup_comm (show ¬ (2 = 2 ∧ 17 = 18) by decide), st31]
  refine (r1.flags (by decide) (fun e => by rw [(p2 (stk_pull e)).1])).setr (by decide) (fun e => ?_)
  rw [xo4 rfl] at e
  exact (r2 e).1
theorem stp {D : Nat → Int32} {A B : St} (h : R id D A B) : R id D (f_X4_stop A) (xb (f_X11_fetch B) fun q6 => xup (f_X11_setStatus q6.1 q6.2) 14 24 1) := by
  unfold f_X4_stop
  simp only [xb_l, if_true]
  obtain ⟨f1, f2⟩ := fetch1 h
  exact (changeStatus f1 (fun e => by rw [(f2 e).1])).stops (fun _ => rfl)
theorem rts {D : Nat → Int32} {A B : St} (h : R id D A B) : R id D (xb (f_X6_pull 2 A) fun q => xup q.2 2 17 q.1) (xb (f_X11_pull 2 B) fun q => xup q.2 15 17 q.1) := by
  obtain ⟨p1, p2⟩ := pull (s := 2) h (by decide)
  exact p1.setr (by decide) (fun e => (p2 e).1)
