/-! change, compare, negate: a target changed by a source -/
theorem chgS1 {D : Nat → Int32} {A B : St} {s a a' ch sg which how less : Int32} {r op : Nat} (h : R id D A B) (hs : s = 0 ∨ s = 1 ∨ s = 2) (h1 : D 1 = s) (h3 : D 3 = nI r) (hr : r < 8) (hcb : ∀ b M, f_X1_combined op b a s M = f_X1_total ch b a sg s which M) (hc : (ch = 0 ∧ which = 31 ∧ how = 0) ∨ (ch = 1 ∧ which = 31 ∧ how = 1) ∨ (ch = 0 ∧ which = 15 ∧ how = 2)) (hl : sg = 1 ∧ less = 0 ∨ sg = -1 ∧ less = 1) (ha : A 4 10 = 0 → eqM s a a') : R id D (f_X4_change op a A) (f_X11_keepIn (nI r) s (f_X11_sum s a' (B 15 r) less how B).1 (f_X11_sum s a' (B 15 r) less how B).2) := by
  unfold f_X4_change
  simp only [xb_l]
  rw [h.d, h3, h1, regfind hr, regread RA_find hr, hcb]
  dsimp only
  have h' : R id D (xup (xup A 10 2 0) 10 3 (nI r)) B := h.setA.setA
  have e4 : (xup (xup A 10 2 0) 10 3 (nI r)) 4 10 = A 4 10 := by rw [xo4 rfl, xo4 rfl]
  obtain ⟨t1, t2⟩ := sumR (a := a) (a' := a') (b := (xup (xup A 10 2 0) 10 3 (nI r)) 2 r &&& f_X10_maskOf s) (b' := B 15 r) h' hs hc hl (fun e => ⟨ha (e4 ▸ e), by rw [(h'.g e).reg r (by omega), Int32.and_assoc, Int32.and_self]⟩)
  refine regstore t1 hr (RA_find.w (fr_X1_total rfl)) (fun e => ?_)
  rw [(t2 e).2.1]; exact eqM.rfl'
theorem chgS2 {D : Nat → Int32} {A B : St} {s a a' ch sg which how less : Int32} {m r op : Nat} (h : R id D A B) (hs : s = 0 ∨ s = 1 ∨ s = 2) (h1 : D 1 = s) (h3 : D 3 = eB m r) (he : okW m r) (hcb : ∀ b M, f_X1_combined op b a s M = f_X1_total ch b a sg s which M) (hc : (ch = 0 ∧ which = 31 ∧ how = 0) ∨ (ch = 1 ∧ which = 31 ∧ how = 1) ∨ (ch = 0 ∧ which = 15 ∧ how = 2)) (hl : sg = 1 ∧ less = 0 ∨ sg = -1 ∧ less = 1) (ha : A 4 10 = 0 → eqM s a a') : R id D (f_X4_change op a A) (f_X11_store s (f_X11_sum s a' (f_X11_loadAt (eB m r) s B).1 less how (f_X11_loadAt (eB m r) s B).2).1 (f_X11_sum s a' (f_X11_loadAt (eB m r) s B).1 less how (f_X11_loadAt (eB m r) s B).2).2) := by
  have l := loadAt (m := m) (r := r) h hs he.e
  unfold f_X4_change
  simp only [xb_l] at l ⊢
  rw [h.d, h3, h1, hcb]
  generalize f_X6_read s (f_X6_find (eB m r) s A) = q4 at l ⊢
  generalize f_X11_loadAt (eB m r) s B = q at l ⊢
  obtain ⟨l1, l2⟩ := l
  obtain ⟨t1, t2⟩ := sumR (a := a) (a' := a') (b := q4.1) (b' := q.1) l1 hs hc hl (fun e => ⟨ha (l2 e).1, by rw [(l2 e).2.2.1]⟩)
  refine (store t1 hs he (fun e => ?_)).1
  exact ⟨(l2 (t2 e).1).2.1.w (fr_X1_total rfl) (g_X11_sum rfl) (g_X11_sum rfl), by rw [(t2 e).2.1]⟩
theorem chgT1 {D : Nat → Int32} {A B : St} {a a' less : Int32} {r op : Nat} (h : R id D A B) (h1 : D 1 = 0) (h3 : D 3 = nI r) (hr : r < 8) (hop : op = 3 ∧ less = 0 ∨ op = 6 ∧ less = 1) (ha : A 4 10 = 0 → a = a') : R id D (f_X4_change op a A) (f_X11_keepIn (nI r) 0 (f_X11_tens a' ((B 15 r) &&& 255) less B).1 (f_X11_tens a' ((B 15 r) &&& 255) less B).2) := by
  unfold f_X4_change
  simp only [xb_l]
  rw [h.d, h3, h1, regfind hr, regread RA_find hr]
  dsimp only
  have h' : R id D (xup (xup A 10 2 0) 10 3 (nI r)) B := h.setA.setA
  have e4 : (xup (xup A 10 2 0) 10 3 (nI r)) 4 10 = A 4 10 := by rw [xo4 rfl, xo4 rfl]
  rcases hop with ⟨rfl, rfl⟩ | ⟨rfl, rfl⟩
  · rw [cb_3]
    obtain ⟨t1, t2⟩ := tensA (a := a) (a' := a') (b := (xup (xup A 10 2 0) 10 3 (nI r)) 2 r &&& f_X10_maskOf 0) (b' := (B 15 r) &&& 255) h' (fun e => ⟨ha (e4 ▸ e), by rw [(h'.g e).reg r (by omega)]; rfl⟩)
    refine regstore t1 hr (RA_find.w (fr_X1_addedInTens rfl)) (fun e => ?_)
    rw [(t2 e).2.1]; exact eqM.rfl'
  · rw [cb_6]
    obtain ⟨t1, t2⟩ := tensS (a := a) (a' := a') (b := (xup (xup A 10 2 0) 10 3 (nI r)) 2 r &&& f_X10_maskOf 0) (b' := (B 15 r) &&& 255) h' (fun e => ⟨ha (e4 ▸ e), by rw [(h'.g e).reg r (by omega)]; rfl⟩)
    refine regstore t1 hr (RA_find.w (fr_X1_subtractedInTens rfl)) (fun e => ?_)
    rw [(t2 e).2.1]; exact eqM.rfl'
theorem chgT2 {D : Nat → Int32} {A B : St} {a a' less : Int32} {m r op : Nat} (h : R id D A B) (h1 : D 1 = 0) (h3 : D 3 = eB m r) (he : okW m r) (hop : op = 3 ∧ less = 0 ∨ op = 6 ∧ less = 1) (ha : A 4 10 = 0 → a = a') : R id D (f_X4_change op a A) (f_X11_store 0 (f_X11_tens a' (f_X11_loadAt (eB m r) 0 B).1 less (f_X11_loadAt (eB m r) 0 B).2).1 (f_X11_tens a' (f_X11_loadAt (eB m r) 0 B).1 less (f_X11_loadAt (eB m r) 0 B).2).2) := by
  have l := loadAt (m := m) (r := r) (s := 0) h (Or.inl rfl) he.e
  unfold f_X4_change
  simp only [xb_l] at l ⊢
  rw [h.d, h3, h1]
  generalize f_X6_read 0 (f_X6_find (eB m r) 0 A) = q4 at l ⊢
  generalize f_X11_loadAt (eB m r) 0 B = q at l ⊢
  obtain ⟨l1, l2⟩ := l
  rcases hop with ⟨rfl, rfl⟩ | ⟨rfl, rfl⟩
  · rw [cb_3]
    obtain ⟨t1, t2⟩ := tensA (a := a) (a' := a') (b := q4.1) (b' := q.1) l1 (fun e => ⟨ha (l2 e).1, (l2 e).2.2.1⟩)
    refine (store t1 (Or.inl rfl) he (fun e => ?_)).1
    exact ⟨(l2 (t2 e).1).2.1.w (fr_X1_addedInTens rfl) (g_X11_tens rfl) (g_X11_tens rfl), by rw [(t2 e).2.1]⟩
  · rw [cb_6]
    obtain ⟨t1, t2⟩ := tensS (a := a) (a' := a') (b := q4.1) (b' := q.1) l1 (fun e => ⟨ha (l2 e).1, (l2 e).2.2.1⟩)
    refine (store t1 (Or.inl rfl) he (fun e => ?_)).1
    exact ⟨(l2 (t2 e).1).2.1.w (fr_X1_subtractedInTens rfl) (g_X11_tens rfl) (g_X11_tens rfl), by rw [(t2 e).2.1]⟩
theorem chgL1 {D : Nat → Int32} {A B : St} {s a v' : Int32} {r op : Nat} {gg : Int32 → Int32 → Int32} (h : R id D A B) (hs : s = 0 ∨ s = 1 ∨ s = 2) (h1 : D 1 = s) (h3 : D 3 = nI r) (hr : r < 8) (hcb : ∀ b M, f_X1_combined op b a s M = f_X1_tested (gg b a) s M) (ha : A 4 10 = 0 → eqM s (gg (B 15 r &&& f_X10_maskOf s) a) v') : R id D (f_X4_change op a A) (f_X11_test s v' (f_X11_keepIn (nI r) s v' B)) := by
  unfold f_X4_change
  simp only [xb_l]
  rw [h.d, h3, h1, regfind hr, regread RA_find hr, hcb]
  dsimp only
  have h' : R id D (xup (xup A 10 2 0) 10 3 (nI r)) B := h.setA.setA
  have e4 : (xup (xup A 10 2 0) 10 3 (nI r)) 4 10 = A 4 10 := by rw [xo4 rfl, xo4 rfl]
  exact wr_test_reg h' hs hr RA_find (fun e => by rw [(h'.g e).reg r (by omega)]; exact ha (e4 ▸ e))
theorem chgL2 {D : Nat → Int32} {A B : St} {s a v' : Int32} {m r op : Nat} {gg : Int32 → Int32 → Int32} (h : R id D A B) (hs : s = 0 ∨ s = 1 ∨ s = 2) (h1 : D 1 = s) (h3 : D 3 = eB m r) (he : okW m r) (hcb : ∀ b M, f_X1_combined op b a s M = f_X1_tested (gg b a) s M) (ha : ∀ A2 : St, R id D A2 (f_X11_loadAt (eB m r) s B).2 → A2 4 10 = 0 → A 4 10 = 0 → (∀ k, k < 8 → A2 2 k = A 2 k) → rgS s (f_X11_loadAt (eB m r) s B).1 → eqM s (gg (f_X11_loadAt (eB m r) s B).1 a) v') : R id D (f_X4_change op a A) (f_X11_test s v' (f_X11_store s v' (f_X11_loadAt (eB m r) s B).2)) := by
  have l := loadAt (m := m) (r := r) h hs he.e
  have hd : ∀ k, k < 8 → (f_X6_read s (f_X6_find (eB m r) s A)).2 2 k = A 2 k := by
    intro k hk
    rw [fr_X6_read rfl, find_dreg hs he.e hk]
  unfold f_X4_change
  simp only [xb_l] at l ⊢
  rw [h.d, h3, h1, hcb]
  generalize f_X6_read s (f_X6_find (eB m r) s A) = q4 at l hd ⊢
  generalize f_X11_loadAt (eB m r) s B = q at l ha ⊢
  obtain ⟨l1, l2⟩ := l
  refine wr_test_op l1 hs he (fun e => ⟨(l2 e).2.1, ?_⟩)
  rw [(l2 e).2.2.1]
  exact ha q4.2 l1 e (l2 e).1 hd ((l2 e).2.2.1 ▸ (l2 e).2.2.2)
theorem cmp1 {D : Nat → Int32} {A B : St} {s a a' : Int32} {r : Nat} (h : R id D A B) (hs : s = 0 ∨ s = 1 ∨ s = 2) (h1 : D 1 = s) (h3 : D 3 = nI r) (hr : r < 8) (ha : A 4 10 = 0 → eqM s a a') : R id D (f_X4_compare a A) (f_X11_sum s a' (B 15 r) 1 2 B).2 := by
  unfold f_X4_compare
  simp only [xb_l]
  rw [h.d, h3, h1, regfind hr]
  have h' : R id D (xup (xup A 10 2 0) 10 3 (nI r)) B := h.setA.setA
  have e4 : (xup (xup A 10 2 0) 10 3 (nI r)) 4 10 = A 4 10 := by rw [xo4 rfl, xo4 rfl]
  rw [h'.d, h1, regread RA_find hr]
  dsimp only
  rw [h'.d, h1, cb_7]
  exact (sumR (a := a) (a' := a') (b := (xup (xup A 10 2 0) 10 3 (nI r)) 2 r &&& f_X10_maskOf s) (b' := B 15 r) h' hs (Or.inr (Or.inr ⟨rfl, rfl, rfl⟩)) (Or.inr ⟨rfl, rfl⟩) (fun e => ⟨ha (e4 ▸ e), by rw [(h'.g e).reg r (by omega), Int32.and_assoc, Int32.and_self]⟩)).1
theorem cmp2 {D : Nat → Int32} {A B : St} {s a a' : Int32} {m r : Nat} (h : R id D A B) (hs : s = 0 ∨ s = 1 ∨ s = 2) (h1 : D 1 = s) (h3 : D 3 = eB m r) (he : okE m r) (ha : A 4 10 = 0 → eqM s a a') : R id D (f_X4_compare a A) (f_X11_sum s a' (f_X11_loadAt (eB m r) s B).1 1 2 (f_X11_loadAt (eB m r) s B).2).2 := by
  have l := loadAt (m := m) (r := r) h hs he
  have f := find (m := m) (r := r) h hs he
  unfold f_X4_compare
  simp only [xb_l] at l ⊢
  rw [h.d, h3, h1, f.1.d, h1]
  rw [l.1.d, h1, cb_7]
  generalize f_X6_read s (f_X6_find (eB m r) s A) = q4 at l ⊢
  generalize f_X11_loadAt (eB m r) s B = q at l ⊢
  obtain ⟨l1, l2⟩ := l
  exact (sumR (a := a) (a' := a') (b := q4.1) (b' := q.1) l1 hs (Or.inr (Or.inr ⟨rfl, rfl, rfl⟩)) (Or.inr ⟨rfl, rfl⟩) (fun e => ⟨ha (l2 e).1, by rw [(l2 e).2.2.1]⟩)).1
theorem neg2 {D : Nat → Int32} {A B : St} {s ch how : Int32} {m r op : Nat} (h : R id D A B) (hs : s = 0 ∨ s = 1 ∨ s = 2) (h1 : D 1 = s) (h3 : D 3 = eB m r) (he : okW m r) (hcb : ∀ b a M, f_X1_combined op b a s M = f_X1_total ch b a (-1) s 31 M) (hc : (ch = 0 ∧ how = 0) ∨ (ch = 1 ∧ how = 1)) : R id D (f_X4_negate op A) (f_X11_store s (f_X11_sum s (f_X11_loadAt (eB m r) s B).1 0 1 how (f_X11_loadAt (eB m r) s B).2).1 (f_X11_sum s (f_X11_loadAt (eB m r) s B).1 0 1 how (f_X11_loadAt (eB m r) s B).2).2) := by
  have l := loadAt (m := m) (r := r) h hs he.e
  unfold f_X4_negate
  simp only [xb_l] at l ⊢
  rw [h.d, h3, h1, hcb]
  generalize f_X6_read s (f_X6_find (eB m r) s A) = q4 at l ⊢
  generalize f_X11_loadAt (eB m r) s B = q at l ⊢
  obtain ⟨l1, l2⟩ := l
  obtain ⟨t1, t2⟩ := sumR (a := q4.1) (a' := q.1) (b := 0) (b' := 0) (which := 31) (ch := ch) (how := how) l1 hs (by rcases hc with ⟨rfl, rfl⟩ | ⟨rfl, rfl⟩ <;> decide) (Or.inr ⟨rfl, rfl⟩) (fun e => ⟨by rw [(l2 e).2.2.1], rfl⟩)
  refine (store t1 hs he (fun e => ?_)).1
  exact ⟨(l2 (t2 e).1).2.1.w (fr_X1_total rfl) (g_X11_sum rfl) (g_X11_sum rfl), by rw [(t2 e).2.1]⟩
theorem negT {D : Nat → Int32} {A B : St} {m r : Nat} (h : R id D A B) (h1 : D 1 = 0) (h3 : D 3 = eB m r) (he : okW m r) : R id D (f_X4_negate 6 A) (f_X11_store 0 (f_X11_tens (f_X11_loadAt (eB m r) 0 B).1 0 1 (f_X11_loadAt (eB m r) 0 B).2).1 (f_X11_tens (f_X11_loadAt (eB m r) 0 B).1 0 1 (f_X11_loadAt (eB m r) 0 B).2).2) := by
  have l := loadAt (m := m) (r := r) (s := 0) h (Or.inl rfl) he.e
  unfold f_X4_negate
  simp only [xb_l] at l ⊢
  rw [h.d, h3, h1, cb_6]
  generalize f_X6_read 0 (f_X6_find (eB m r) 0 A) = q4 at l ⊢
  generalize f_X11_loadAt (eB m r) 0 B = q at l ⊢
  obtain ⟨l1, l2⟩ := l
  obtain ⟨t1, t2⟩ := tensS (a := q4.1) (a' := q.1) (b := 0) (b' := 0) l1 (fun e => ⟨(l2 e).2.2.1, rfl⟩)
  refine (store t1 (Or.inl rfl) he (fun e => ?_)).1
  exact ⟨(l2 (t2 e).1).2.1.w (fr_X1_subtractedInTens rfl) (g_X11_tens rfl) (g_X11_tens rfl), by rw [(t2 e).2.1]⟩
/-- overwrite -/
theorem ovw {F : Int32 → Int32} {D : Nat → Int32} {A B : St} {s v v' : Int32} {m r : Nat} (h : R F D A B) (hs : s = 0 ∨ s = 1 ∨ s = 2) (h1 : D 1 = s) (h3 : D 3 = eB m r) (he : okW m r) (hv : A 4 10 = 0 → eqM s v v') : R F D (f_X4_overwrite v A) (f_X11_store s v' (f_X11_find (eB m r) s B)) ∧ ((f_X4_overwrite v A) 4 10 = 0 → A 4 10 = 0) := by
  have f := find (m := m) (r := r) h hs he.e
  unfold f_X4_overwrite
  simp only [xb_l]
  rw [h.d, h3, h1, f.1.d, h1]
  have st := store (v := v) (v' := v') f.1 hs he (fun e => ⟨(f.2 e).2, hv (f.2 e).1⟩)
  exact ⟨st.1, fun e => (f.2 (st.2 e)).1⟩
/-- flags, then overwrite: find, store, flags -/
theorem ovwT {D : Nat → Int32} {A B : St} {s v v' : Int32} {m r : Nat} (h : R id D A B) (hs : s = 0 ∨ s = 1 ∨ s = 2) (h1 : D 1 = s) (h3 : D 3 = eB m r) (he : okW m r) (hv : A 4 10 = 0 → eqM s v v') : R id D (f_X4_overwrite v (f_X1_tested v s A).2) (f_X11_test s v' (f_X11_store s v' (f_X11_find (eB m r) s B))) := by
  rw [tested_eq, test_eq]
  obtain ⟨o1, o2⟩ := ovw (h.pend (f_X1_signs v s)) hs h1 h3 he (v := v) (v' := v') (fun e => hv (by rwa [xo4 rfl] at e))
  refine o1.settle (fun e => ?_)
  have := o2 e
  rw [xo4 rfl] at this
  exact eqM_sg hs (hv this)
