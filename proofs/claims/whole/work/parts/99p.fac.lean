/-! the face: what may throw -/
theorem RM.bus {A B A' B' : St} (h : RM A B) (hb : RB (xup A' 4 10 0) (xup B' 14 20 0)) (hA : ∀ p, p = 2 ∨ p = 8 ∨ p = 9 → A' p = A p) (h410 : A' 4 10 = A 4 10) (hB : ∀ p j, p = 15 ∨ p = 21 ∨ (p = 14 ∧ (j = 2 ∨ j = 5 ∨ j = 6 ∨ j = 16 ∨ j = 17 ∨ j = 19)) → B' p j = B p j) : RM A' B' := by
  obtain ⟨h1, h2, h3, h4, h5, h6, h7, h8, h9, h10⟩ := h
  have a2 := hA 2 (Or.inl rfl)
  have a8 := hA 8 (Or.inr (Or.inl rfl))
  have a9 := hA 9 (Or.inr (Or.inr rfl))
  have b14 : ∀ j, (j = 2 ∨ j = 5 ∨ j = 6 ∨ j = 16 ∨ j = 17 ∨ j = 19) → B' 14 j = B 14 j := fun j hj => hB 14 j (Or.inr (Or.inr ⟨rfl, hj⟩))
  refine ⟨hb, h2.cg a2 (fun j => hB 15 j (Or.inl rfl)) (b14 2 (by decide)), h3.cg (fun j => by rw [a9]) (fun j => hB 21 j (Or.inr (Or.inl rfl))), ?_, ?_, ?_, ?_, ?_, ?_, ?_⟩
  · rw [a8, b14 5 (by decide)]; exact h4
  · rw [a8, h410]; exact h5
  · rw [a8, b14 6 (by decide)]; exact h6
  · rw [a8, b14 19 (by decide)]; exact h7
  · rw [a8, b14 16 (by decide)]; exact h8
  · rw [a8]; exact h9
  · rw [a8, b14 17 (by decide)]; exact h10
theorem RM.fence {A B : St} {v : Int32} (h : RM A B) (hv : xrg 0 2048 v) : RM (xup A 4 6 v) (xup B 14 8 v) := by
  refine h.bus ?_ (fun p hp => ?_) (xo4 rfl) (fun p j hp => ?_)
  · rw [xup_comm (show ¬ (4 = 4 ∧ 6 = 10) by decide), xup_comm (show ¬ (14 = 14 ∧ 8 = 20) by decide)]
    exact h.1.s_fen hv
  · rcases hp with rfl | rfl | rfl <;> exact xup_other (by decide)
  · rcases hp with rfl | rfl | ⟨rfl, hj⟩
    · exact xo4 rfl
    · exact xo4 rfl
    · exact xup_o2 (Or.inr (by omega))
theorem RM.level {A B : St} {v : Int32} (h : RM A B) (hv : xrg 0 7 v) : RM (xup A 8 9 v) (xup B 14 16 v) := by
  obtain ⟨h1, h2, h3, h4, h5, h6, h7, h8, h9, h10⟩ := h
  refine ⟨?_, h2.cg (xup_other (by decide)) (fun j => xo4 rfl) (xo4 rfl), h3.cg (fun j => xo4 rfl) (fun j => xo4 rfl), ?_, fun x => ?_, ?_, ?_, ?_, ?_, ?_⟩
  · rw [xup_comm (show ¬ (8 = 4 ∧ 9 = 10) by decide), xup_comm (show ¬ (14 = 14 ∧ 16 = 20) by decide)]
    exact h1.cg (fun p hp => xup_other (xnot_at hp rfl)) (fun p k hp => xup_o2 (x2_field 14 16 hp rfl))
  · rw [xo4 rfl, xo4 rfl]; exact h4
  · rw [xo4 rfl] at x ⊢; exact h5 x
  · rw [xo4 rfl, xo4 rfl]; exact h6
  · rw [xo4 rfl, xo4 rfl]; exact h7
  · rw [xs4, xs4]
  · rw [xs4]; exact hv
  · rw [xo4 rfl, xo4 rfl]; exact h10
theorem RM.setr {A B : St} {j : Nat} {v : Int32} (h : RM A B) (hj : j < 18) : RM (xup A 2 j v) (xup B 15 j v) := by
  obtain ⟨h1, h2, h3, h4, h5, h6, h7, h8, h9, h10⟩ := h
  refine ⟨?_, ?_, h3.cg (fun j => xo4 rfl) (fun j => xo4 rfl), ?_, fun x => ?_, ?_, ?_, ?_, ?_, ?_⟩
  · rw [xup_comm (show ¬ (2 = 4 ∧ j = 10) by omega), xup_comm (show ¬ (15 = 14 ∧ j = 20) by omega)]
    exact h1.cg (fun p hp => xup_other (xnot_at hp rfl)) (fun p k hp => xup_o2 (Or.inl (x2_place 15 hp rfl)))
  · refine ⟨fun i hi => ?_, ?_, ?_⟩
    · rw [xup_ite, xup_ite]
      by_cases c : i = j
      · subst c; simp
      · simp [c]; exact h2.1 i hi
    · rw [xup_o2 (Or.inr (by omega)), xup_o2 (Or.inl (by decide))]; exact h2.2.1
    · rw [xup_o2 (Or.inr (by omega))]; exact h2.2.2
  · rw [xup_o2 (Or.inl (by decide)), xup_o2 (Or.inl (by decide))]; exact h4
  · rw [xup_o2 (Or.inl (by decide))] at x ⊢; exact h5 x
  · rw [xup_o2 (Or.inl (by decide)), xup_o2 (Or.inl (by decide))]; exact h6
  · rw [xup_o2 (Or.inl (by decide)), xup_o2 (Or.inl (by decide))]; exact h7
  · rw [xup_o2 (Or.inl (by decide)), xup_o2 (Or.inl (by decide))]; exact h8
  · rw [xup_o2 (Or.inl (by decide))]; exact h9
  · rw [xup_o2 (Or.inl (by decide)), xup_o2 (Or.inl (by decide))]; exact h10
theorem RM.chst {A B : St} {w : Int32} (h : RM A B) : RM (f_X8_changeStatus w A) (f_X11_setStatus w B) := by
  obtain ⟨h1, h2, h3, h4, h5, h6, h7, h8, h9, h10⟩ := h
  have y0 : RY (xup A 4 10 0) (xup B 14 20 0) := ⟨h1, fun _ => h2.cg (xup_other (by decide)) (fun j => xo4 rfl) (xo4 rfl)⟩
  have y1 := y0.chst (w := w) (w' := w) (fun _ => rfl)
  rw [← cS10, ← sS20] at y1
  have f8 : (f_X8_changeStatus w A) 8 = A 8 := fr_X8_changeStatus rfl
  have f4 : (f_X8_changeStatus w A) 4 = A 4 := fr_X8_changeStatus rfl
  refine ⟨y1.1, ?_, h3.cg (fun j => by rw [fr_X8_changeStatus rfl]) (fun j => g_X11_setStatus rfl), ?_, ?_, ?_, ?_, ?_, ?_, ?_⟩
  · exact (y1.2 xs4).cg (by rw [xup_other (by decide)]) (fun j => by rw [xo4 rfl]) (by rw [xo4 rfl])
  · rw [f8, g_X11_setStatus rfl]; exact h4
  · rw [f8, f4]; exact h5
  · rw [f8, g_X11_setStatus rfl]; exact h6
  · rw [f8, g_X11_setStatus rfl]; exact h7
  · rw [f8, g_X11_setStatus rfl]; exact h8
  · rw [f8]; exact h9
  · rw [f8, g_X11_setStatus rfl]; exact h10
theorem RM.mem {A B : St} {j : Nat} {v : Int32} (h : RM A B) (hv : xrg 0 255 v) : RM (xup A 5 j v) (xup B 18 j v) := by
  refine h.bus ?_ (fun p hp => ?_) (xup_o2 (Or.inl (by decide))) (fun p i hp => ?_)
  · rw [xup_comm (show ¬ (5 = 4 ∧ j = 10) by omega), xup_comm (show ¬ (18 = 14 ∧ j = 20) by omega)]
    exact h.1.s_mem hv
  · rcases hp with rfl | rfl | rfl <;> exact xup_other (by decide)
  · rcases hp with rfl | rfl | ⟨rfl, hj⟩ <;> exact xup_o2 (Or.inl (by decide))
theorem par {k : Nat} (hk : k < 2 ^ 31) : (nI k - nI k / 2 * 2 = 0) ↔ (nI k &&& 1 = 0) := by
  rw [show (2 : Int32) = nI 2 from rfl, pk_rem hk (by decide) (by decide), pk_andN (by omega) 1 (by decide)]
theorem storeR {A B : St} {a : Nat} {w : Int32} (h : RM A B) (ha : a < 2 ^ 30) : RM (f_X2_store (nI a) w A) (xup (xup B 18 a ((w >>> ((8 : Int32) &&& 31)) &&& 255)) 18 (a + 1) (w &&& 255)) := by
  have e : (ius w 8) &&& 255 = (w >>> ((8 : Int32) &&& 31)) &&& 255 := (byt_u w 8 (by decide)).trans (byt_s w 8 (by decide)).symm
  have s := (h.mem (j := a) (v := (w >>> ((8 : Int32) &&& 31)) &&& 255) (and255 _)).mem (j := a + 1) (v := w &&& 255) (and255 _)
  unfold f_X2_store
  rw [nI_1, nI_clamp (show a < 2 ^ 31 by omega), nI_clamp (show a + 1 < 2 ^ 31 by omega), e]
  exact s
theorem putR {A B : St} {a w : Int32} (h : RM A B) : (f_X10_isPlaceOfWords a 1 = 0 ∧ (f_X11_put a w B) 14 0 = 1 ∧ RM A (f_X11_put a w B)) ∨ (¬ f_X10_isPlaceOfWords a 1 = 0 ∧ (f_X11_put a w B) 14 0 = 0 ∧ RM (f_X2_store a w A) (f_X11_put a w B)) := by
  unfold f_X10_isPlaceOfWords f_X11_put
  rw [show (2048 : Int32) - 2 * 1 = 2046 by decide]
  by_cases c1 : a < 0
  · rw [if_pos c1, if_pos c1]
    exact Or.inl ⟨rfl, xs4, h.thr 1⟩
  · rw [if_neg c1, if_neg c1]
    by_cases c2 : 2046 < a
    · rw [if_pos c2, if_pos c2]
      exact Or.inl ⟨rfl, xs4, h.thr 1⟩
    · rw [if_neg c2, if_neg c2]
      obtain ⟨k, hk, rfl⟩ := i32_nn c1
      have k6 : ¬ 2046 < k := fun x => c2 ((nI_ltI (a := 2046) (b := k) (by decide) hk).mpr x)
      by_cases c3 : nI k &&& 1 = 0
      · rw [if_pos c3, if_pos ((par hk).mpr c3), nI_1, nI_clamp hk, nI_clamp (show k + 1 < 2 ^ 31 by omega)]
        refine Or.inr ⟨by decide, by rw [xo4 rfl, xo4 rfl, xs4], storeR (h.thr 0) (by omega)⟩
      · rw [if_neg c3, if_neg (fun x => c3 ((par hk).mp x))]
        exact Or.inl ⟨rfl, xs4, h.thr 1⟩
theorem fenceR {A B : St} {a : Int32} (h : RM A B) : ((a < 0 ∨ 2048 < a) ∧ (f_X11_fence a B) 14 0 = 1 ∧ RM A (f_X11_fence a B)) ∨ (¬ (a < 0 ∨ 2048 < a) ∧ (f_X11_fence a B) 14 0 = 0 ∧ RM (xup A 4 6 a) (f_X11_fence a B)) := by
  unfold f_X11_fence
  have same : xup (xup B 14 0 1) 14 8 (B 14 8) = xup B 14 0 1 := xup_same (by rw [xo4 rfl])
  rw [same]
  by_cases c1 : a < 0
  · rw [if_pos c1]
    exact Or.inl ⟨Or.inl c1, xs4, h.thr 1⟩
  · rw [if_neg c1]
    by_cases c2 : a ≤ 2048
    · rw [if_pos c2]
      refine Or.inr ⟨fun x => x.elim c1 (fun y => absurd c2 (Int32.not_le.mpr y)), by rw [xo4 rfl, xs4], (h.thr 0).fence ?_⟩
      rw [Int32.not_lt, Int32.le_iff_toInt_le] at c1
      rw [Int32.le_iff_toInt_le] at c2
      exact ⟨c1, c2⟩
    · rw [if_neg c2]
      exact Or.inl ⟨Or.inr (Int32.not_le.mp c2), xs4, h.thr 1⟩
theorem levelR {A B : St} {a : Int32} (h : RM A B) : ((a < 0 ∨ 7 < a) ∧ (f_X11_level a B) 14 0 = 1 ∧ RM A (f_X11_level a B)) ∨ (¬ (a < 0 ∨ 7 < a) ∧ (f_X11_level a B) 14 0 = 0 ∧ RM (xup A 8 9 a) (f_X11_level a B)) := by
  unfold f_X11_level
  have same : xup (xup B 14 0 1) 14 16 (B 14 16) = xup B 14 0 1 := xup_same (by rw [xo4 rfl])
  rw [same]
  by_cases c1 : a < 0
  · rw [if_pos c1]
    exact Or.inl ⟨Or.inl c1, xs4, h.thr 1⟩
  · rw [if_neg c1]
    by_cases c2 : a ≤ 7
    · rw [if_pos c2]
      refine Or.inr ⟨fun x => x.elim c1 (fun y => absurd c2 (Int32.not_le.mpr y)), by rw [xo4 rfl, xs4], (h.thr 0).level ?_⟩
      rw [Int32.not_lt, Int32.le_iff_toInt_le] at c1
      rw [Int32.le_iff_toInt_le] at c2
      exact ⟨c1, c2⟩
    · rw [if_neg c2]
      exact Or.inl ⟨Or.inr (Int32.not_le.mp c2), xs4, h.thr 1⟩
theorem getR {A B : St} {a : Int32} (h : RM A B) : ((a < 0 ∨ 19 ≤ a) ∧ (f_X11_get a B).2 14 0 = 1 ∧ RM A (f_X11_get a B).2) ∨ (¬ (a < 0 ∨ 19 ≤ a) ∧ (f_X11_get a B).2 14 0 = 0 ∧ (f_X11_get a B).1 = A 2 a.toNatClampNeg ∧ RM A (f_X11_get a B).2) := by
  unfold f_X11_get
  by_cases c1 : a < 0
  · rw [if_pos c1]
    exact Or.inl ⟨Or.inl c1, (show (xup B 14 0 1) 14 0 = 1 from xs4), h.thr 1⟩
  · rw [if_neg c1]
    obtain ⟨k, hk, rfl⟩ := i32_nn c1
    have l1 : (nI k ≤ 18) ↔ k ≤ 18 := nI_leI (a := k) (b := 18) hk (by decide)
    have l2 : ((19 : Int32) ≤ nI k) ↔ 19 ≤ k := nI_leI (a := 19) (b := k) (by decide) hk
    rw [nI_clamp hk]
    by_cases c2 : k ≤ 18
    · rw [if_pos (l1.mpr c2)]
      refine Or.inr ⟨fun x => x.elim c1 (fun y => by have := l2.mp y; omega), ?_⟩
      by_cases c3 : k = 18
      · rw [if_pos (show nI k = 18 by rw [c3]; rfl), c3]
        exact ⟨(show (xup B 14 0 0) 14 0 = 0 from xs4), h.2.1.2.1.symm, h.thr 0⟩
      · rw [if_neg (nq_18 (n := k) c3 (by omega))]
        exact ⟨(show (xup B 14 0 0) 14 0 = 0 from xs4), (h.2.1.1 k (by omega)).symm, h.thr 0⟩
    · rw [if_neg (fun x => c2 (l1.mp x))]
      exact Or.inl ⟨Or.inr (l2.mpr (by omega)), (show (xup B 14 0 1) 14 0 = 1 from xs4), h.thr 1⟩
theorem setR {A B : St} {a v : Int32} (h : RM A B) : ((a < 0 ∨ 19 ≤ a) ∧ (f_X11_set a v B) 14 0 = 1 ∧ RM A (f_X11_set a v B)) ∨ (¬ (a < 0 ∨ 19 ≤ a) ∧ (f_X11_set a v B) 14 0 = 0 ∧ RM (if a = 18 then f_X8_changeStatus v A else xup A 2 a.toNatClampNeg v) (f_X11_set a v B)) := by
  unfold f_X11_set
  rw [xb_l]
  by_cases c1 : a < 0
  · rw [if_pos c1]
    exact Or.inl ⟨Or.inl c1, xs4, h.thr 1⟩
  · rw [if_neg c1]
    obtain ⟨k, hk, rfl⟩ := i32_nn c1
    have l1 : (nI k ≤ 18) ↔ k ≤ 18 := nI_leI (a := k) (b := 18) hk (by decide)
    have l2 : ((19 : Int32) ≤ nI k) ↔ 19 ≤ k := nI_leI (a := 19) (b := k) (by decide) hk
    rw [nI_clamp hk]
    by_cases c2 : k ≤ 18
    · rw [if_pos (l1.mpr c2)]
      refine Or.inr ⟨fun x => x.elim c1 (fun y => by have := l2.mp y; omega), ?_⟩
      by_cases c3 : k = 18
      · have e : nI k = 18 := by rw [c3]; rfl
        rw [if_pos e, if_pos e]
        exact ⟨by rw [g_X11_setStatus rfl, xs4], (h.thr 0).chst⟩
      · rw [if_neg (nq_18 (n := k) c3 (by omega)), if_neg (nq_18 (n := k) c3 (by omega))]
        exact ⟨by rw [xo4 rfl, xs4], (h.thr 0).setr (by omega)⟩
    · rw [if_neg (fun x => c2 (l1.mp x))]
      exact Or.inl ⟨Or.inr (l2.mpr (by omega)), xs4, h.thr 1⟩
theorem deviceR {A B : St} {a : Int32} (h : RM A B) : (¬ (a = 0 ∨ a = 1 ∨ a = 2 ∨ a = 3 ∨ a = 4) ∧ (f_X11_device a B).2 14 0 = 1 ∧ RM A (f_X11_device a B).2) ∨ ((a = 0 ∨ a = 1 ∨ a = 2 ∨ a = 3 ∨ a = 4) ∧ (f_X11_device a B).2 14 0 = 0 ∧ (f_X11_device a B).1 = (if a = 0 then A 4 7 else if a = 1 then A 4 8 else if a = 2 then (if A 4 9 = 0 then 0 else 1) else if a = 3 then A 4 4 else A 4 5) ∧ RM A (f_X11_device a B).2) := by
  obtain ⟨t, ak, r, l, lr⟩ := h.tb
  have q := h.1.que.1
  have s := h.1.sai.1
  rw [xo4 rfl, xo4 rfl] at q s
  by_cases c : a = 0 ∨ a = 1 ∨ a = 2 ∨ a = 3 ∨ a = 4
  · refine Or.inr ⟨c, ?_⟩
    rw [t, l, ak, q, s]
    rcases c with rfl | rfl | rfl | rfl | rfl
    · exact ⟨(show (xup B 14 0 0) 14 0 = 0 from xs4), rfl, h.thr 0⟩
    · exact ⟨(show (xup B 14 0 0) 14 0 = 0 from xs4), rfl, h.thr 0⟩
    · have e : f_X11_device 2 B = (if (B 14 11) = 0 then (0, (xup B 14 0 0)) else (1, (xup B 14 0 0))) := rfl
      rw [e, if_neg (show ¬ (2 : Int32) = 0 by decide), if_neg (show ¬ (2 : Int32) = 1 by decide), if_pos (show (2 : Int32) = 2 from rfl)]
      split
      · exact ⟨(show (xup B 14 0 0) 14 0 = 0 from xs4), rfl, h.thr 0⟩
      · exact ⟨(show (xup B 14 0 0) 14 0 = 0 from xs4), rfl, h.thr 0⟩
    · exact ⟨(show (xup B 14 0 0) 14 0 = 0 from xs4), rfl, h.thr 0⟩
    · exact ⟨(show (xup B 14 0 0) 14 0 = 0 from xs4), rfl, h.thr 0⟩
  · refine Or.inl ⟨c, ?_⟩
    have e : f_X11_device a B = (0, xup B 14 0 1) := by
      unfold f_X11_device f_X11_device_10 f_X11_device_15
      by_cases c1 : a < 0
      · rw [if_pos c1, if_neg (show ¬ (1 : Int32) ≤ 0 by decide)]
      · obtain ⟨k, hk, rfl⟩ := i32_nn c1
        have l1 : (nI k ≤ 4) ↔ k ≤ 4 := nI_leI (a := k) (b := 4) hk (by decide)
        have k5 : ¬ k ≤ 4 := fun x => c (by
          rcases (show k = 0 ∨ k = 1 ∨ k = 2 ∨ k = 3 ∨ k = 4 by omega) with rfl | rfl | rfl | rfl | rfl <;> decide)
        rw [if_neg c1, if_neg (fun x => k5 (l1.mp x)), if_neg (show ¬ (1 : Int32) ≤ 0 by decide)]
    rw [e]
    exact ⟨(show (xup B 14 0 1) 14 0 = 1 from xs4), h.thr 1⟩
theorem stepF {A B : St} (h : RM A B) : (¬ A 8 7 = 0 ∧ (f_X11_step B).2 14 0 = 1 ∧ RM A (f_X11_step B).2) ∨ (A 8 7 = 0 ∧ (f_X11_step B).2 14 0 = 0 ∧ (f_X7_advance A).1 = (f_X11_step B).1 ∧ RM (f_X7_advance A).2 (f_X11_step B).2) := by
  have h7 := h.2.2.2.1
  unfold f_X11_step f_X11_step_13
  by_cases c : A 8 7 = 0
  · have c5 : B 14 5 = 0 := h7.symm.trans c
    rw [if_pos c5, if_pos c5, xb_eta]
    have s := stepR (h.thr 0) c
    exact Or.inr ⟨c, by rw [g_X11_stepped rfl, xs4], s⟩
  · have c5 : ¬ B 14 5 = 0 := fun x => c (h7.trans x)
    rw [if_neg c5, if_neg c5]
    exact Or.inl ⟨c, (show (xup B 14 0 1) 14 0 = 1 from xs4), h.thr 1⟩
