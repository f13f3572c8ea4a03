/-! entering an exception -/
theorem sti_b : ∀ i : Fin 32, ∀ s x : Bool, s = (s && bt 42783 i.val) → (((bt 8192 i.val || x) || (s && bt 31 i.val)) && bt 42783 i.val) = (((((s && bt (-32769) i.val) || bt 8192 i.val) && bt (-1793) i.val) || x) && bt 42783 i.val) := by decide +kernel
theorem stw_b : ∀ i : Fin 32, ∀ s : Bool, s = (s && bt 42783 i.val) → (((bt 8192 i.val || (s && bt 1792 i.val)) || (s && bt 31 i.val)) && bt 42783 i.val) = (((s && bt (-32769) i.val) || bt 8192 i.val) && bt 42783 i.val) := by decide +kernel
theorem sti {st x : Int32} (h : st &&& 42783 = st) : ((8192 ||| x) ||| (st &&& 31)) &&& 42783 = ((((st &&& (-32769)) ||| 8192) &&& (-1793)) ||| x) &&& 42783 := bt_ext (fun i hi => by
  have hb : bt st i = (bt st i && bt 42783 i) := by rw [← bt_and, h]
  have := sti_b ⟨i, hi⟩ (bt st i) (bt x i) hb
  simp only [bt_and, bt_or]
  exact this)
theorem stw {st : Int32} (h : st &&& 42783 = st) : ((8192 ||| (st &&& 1792)) ||| (st &&& 31)) &&& 42783 = ((st &&& (-32769)) ||| 8192) &&& 42783 := bt_ext (fun i hi => by
  have hb : bt st i = (bt st i && bt 42783 i) := by rw [← bt_and, h]
  have := stw_b ⟨i, hi⟩ (bt st i) hb
  simp only [bt_and, bt_or]
  exact this)
def ENR (n : Nat) (A B : St) (p q : Int32 × St) : Prop := RB p.2 q.2 ∧ GY p.2 q.2 ∧ ((p.2 4 10 = 0 ∧ p.1 = 1 ∧ q.1 = 0 ∧ (∀ j, p.2 9 j = (xup A 9 n (A 9 n + 1)) 9 j) ∧ (∀ j, q.2 21 j = (xup B 21 n (B 21 n + 1)) 21 j) ∧ q.2 14 5 = B 14 5) ∨ (¬ p.2 4 10 = 0 ∧ p.1 = 0 ∧ (∀ j, p.2 9 j = A 9 j) ∧ (∀ j, q.2 21 j = B 21 j) ∧ (∀ j, j < 18 → q.2 15 j = B 15 j) ∧ (4 ≤ n → q.1 = p.2 4 10 ∧ q.2 14 5 = 0) ∧ (n < 4 → q.1 = 0 ∧ q.2 14 5 = 1)))
theorem en162 {A B C E : St} {n : Nat} (hn : n < 48) (h : RY C E) (hg : GY A B) (c3 : ∀ j, j < 19 → C 3 j = A 2 j) (c9 : C 9 = A 9) (e17 : ∀ j, j < 18 → E 17 j = B 15 j) (e18 : E 17 18 = B 14 2) (e21 : ∀ j, E 21 j = B 21 j) (e5 : E 14 5 = B 14 5) : ENR n A B (f_X7_enters_162 (nI n) C) (f_X11_tried_135 (nI n) E) := by
  obtain ⟨r1, r2⟩ := h.rd (a := 4 * nI n) (a' := 4 * nI n) (s := 2) (way := 1) (fun _ => rfl) (by decide) (Or.inl rfl)
  have f9 : (f_X2_read (4 * nI n) 2 1 C).2 9 = A 9 := (fr_X2_read rfl).trans c9
  have f3 : (f_X2_read (4 * nI n) 2 1 C).2 3 = C 3 := fr_X2_read rfl
  have g21 : ∀ j, (f_X11_read (4 * nI n) 2 1 E).2 21 j = B 21 j := fun j => (g_X11_read rfl).trans (e21 j)
  have g17 : ∀ j, (f_X11_read (4 * nI n) 2 1 E).2 17 j = E 17 j := fun j => g_X11_read rfl
  have g5 : (f_X11_read (4 * nI n) 2 1 E).2 14 5 = B 14 5 := (g_X11_read rfl).trans e5
  unfold f_X7_enters_162 f_X11_tried_135 f_X11_tried_193
  simp only [xb_l]
  rw [nI_clamp (show n < 2 ^ 31 by omega)]
  generalize f_X2_read (4 * nI n) 2 1 C = q40 at r1 r2 f9 f3 ⊢
  generalize f_X11_read (4 * nI n) 2 1 E = q38 at r1 r2 g21 g17 g5 ⊢
  by_cases e : q40.2 4 10 = 0
  · have e20 : q38.2 14 20 = 0 := r1.1.err.1.symm.trans e
    rw [if_pos e, if_pos e20]
    have s1 := r1.setr (j := 17) (v := q40.1) (v' := q38.1) (by decide) (fun x => (r2 x).2.1)
    refine ⟨s1.1.cg (fun p hp => xup_other (xnot_at hp rfl)) (fun p k hp => xup_o2 (Or.inl (x2_place 21 hp rfl))), ?_, Or.inl ⟨?_, rfl, rfl, fun j => ?_, fun j => ?_, ?_⟩⟩
    · refine (s1.2 (by rw [xo4 rfl]; exact e)).cg ?_ (fun j => ?_) ?_
      · dsimp only; rw [xup_other (show (2 : Nat) ≠ 9 by decide)]
      · dsimp only; rw [xup_o2 (Or.inl (show (15 : Nat) ≠ 21 by decide))]
      · dsimp only; rw [xo4 rfl]
    · dsimp only
      rw [xo4 rfl, xo4 rfl]; exact e
    · dsimp only
      rw [xup_ite, xup_ite, xup_ite, if_neg (show ¬ (9 = 2 ∧ j = 17) by omega), f9]
    · dsimp only
      rw [xup_ite, xup_ite, xup_ite, if_neg (show ¬ (21 = 15 ∧ j = 17) by omega), g21, g21]
    · dsimp only
      rw [xo4 rfl, xo4 rfl]; exact g5
  · have e20 : ¬ q38.2 14 20 = 0 := fun x => e (r1.1.err.1.trans x)
    rw [if_neg e, if_neg e20]
    have b := back17 (M := q38.2)
    have fb : ∀ {p j : Nat}, xno2 p j [(14, some 2), (15, none)] = true → (f_X11_back__17 q38.2) p j = q38.2 p j := fun hp => g_X11_back__17 hp
    have a2 : ∀ j, j < 19 → (f_X8_takeBack (xup q40.2 2 17 q40.1)) 2 j = A 2 j := fun j hj => by
      show xcp (xup q40.2 2 17 q40.1) 3 2 2 j = _
      rw [xcp_at hj, xup_other (by decide), f3]; exact c3 j hj
    have fa : ∀ {p : Nat}, p ≠ 2 → (f_X8_takeBack (xup q40.2 2 17 q40.1)) p = q40.2 p := fun hp => by
      show xcp (xup q40.2 2 17 q40.1) 3 2 _ = _
      rw [xcp_other hp, xup_other hp]
    have gy : GY (f_X8_takeBack (xup q40.2 2 17 q40.1)) (f_X11_back__17 q38.2) := by
      refine ⟨fun j hj => ?_, ?_, ?_⟩
      · rw [a2 j (by omega), b.1 j hj, g17, e17 j hj]; exact hg.1 j hj
      · rw [a2 18 (by decide), b.2, g17, e18]; exact hg.2.1
      · rw [a2 18 (by decide)]; exact hg.2.2
    have rb : RB (f_X8_takeBack (xup q40.2 2 17 q40.1)) (f_X11_back__17 q38.2) := r1.1.cg (fun p hp => fa (xnot_at hp rfl)) (fun p k hp => fb (x2_sub hp rfl))
    have n4 : ((4 : Int32) ≤ nI n) ↔ 4 ≤ n := nI_leI (a := 4) (b := n) (by decide) (by omega)
    have pE : (f_X8_takeBack (xup q40.2 2 17 q40.1)) 4 10 = q40.2 4 10 := by rw [fa (by decide)]
    have qE : (f_X11_back__17 q38.2) 14 20 = q40.2 4 10 := (fb rfl).trans r1.1.err.1.symm
    by_cases c : 4 ≤ n
    · rw [if_pos (n4.mpr c), if_pos trivial]
      refine ⟨rb.cg (fun p hp => rfl) (fun p k hp => xup_o2 (x2_field 14 5 hp rfl)), gy.cg rfl (fun j => by dsimp only; rw [xo4 rfl]) (by dsimp only; rw [xo4 rfl]), Or.inr ⟨?_, rfl, fun j => ?_, fun j => ?_, fun j hj => ?_, fun _ => ⟨?_, ?_⟩, fun x => absurd x (by omega)⟩⟩
      · dsimp only; rw [pE]; exact e
      · dsimp only; rw [fa (by decide), f9]
      · dsimp only; rw [xo4 rfl, fb rfl, g21]
      · dsimp only; rw [xo4 rfl, b.1 j hj, g17, e17 j hj]
      · dsimp only; rw [qE, pE]
      · dsimp only; rw [xs4]
    · rw [if_neg (fun x => c (n4.mp x)), if_neg (show ¬ (1 : Int32) = 0 by decide)]
      refine ⟨rb.cg (fun p hp => rfl) (fun p k hp => xup_o2 (x2_field 14 5 hp rfl)), gy.cg rfl (fun j => by dsimp only; rw [xo4 rfl]) (by dsimp only; rw [xo4 rfl]), Or.inr ⟨?_, rfl, fun j => ?_, fun j => ?_, fun j hj => ?_, fun x => absurd x c, fun _ => ⟨rfl, ?_⟩⟩⟩
      · dsimp only; rw [pE]; exact e
      · dsimp only; rw [fa (by decide), f9]
      · dsimp only; rw [xo4 rfl, fb rfl, g21]
      · dsimp only; rw [xo4 rfl, b.1 j hj, g17, e17 j hj]
      · dsimp only; rw [xs4]
theorem xup_xcp {A : St} {v : Int32} : xup (xcp A 2 3) 4 10 v = xcp (xup A 4 10 v) 2 3 := by
  funext p j
  by_cases c3 : p = 3
  · subst c3
    by_cases cj : j < 19
    · rw [xup_other (by decide), xcp_at cj, xcp_at cj, xup_other (by decide)]
    · rw [xup_other (by decide)]
      show va_up A 3 (va_cpy (A 2) (A 3) 0 0 19) 3 j = va_up (xup A 4 10 v) 3 (va_cpy ((xup A 4 10 v) 2) ((xup A 4 10 v) 3) 0 0 19) 3 j
      rw [va_up_self, va_up_self, xup_other (by decide), xup_other (by decide)]
  · rw [xcp_other c3, xup_ite, xup_ite, xcp_other c3]
theorem st4 {A B : St} (h : A 2 18 = B 14 2) : (f_X11_has 8192 B = 0) ↔ (A 2 18) &&& 8192 = 0 := by
  unfold f_X11_has
  rw [h]
  by_cases c : B 14 2 &&& 8192 = 0
  · rw [if_pos c]; exact iff_of_true rfl c
  · rw [if_neg c]; exact iff_of_false (by decide) c
/-- the two openings in one form -/
theorem enO {A B : St} {n : Nat} {a2 : Int32} (hn : n < 48) (hg : GY A B) : ∃ x3 w', f_X7_enters (nI n) A = f_X7_enters_56 (nI n) (A 2 18) x3 (if (A 2 18) &&& 8192 = 0 then 0 else 4) (A 4 12) A ∧ f_X11_tried (nI n) a2 B = f_X11_tried_92 (nI n) a2 (B 14 2) (B 14 21) (B 14 22 + (if (A 2 18) &&& 8192 = 0 then 0 else 4)) w' (xup (f_X11_keep__17 B) 14 20 0) ∧ ((8192 ||| x3) ||| ((A 2 18) &&& 31)) &&& 42783 = w' &&& 42783 := by
  have k2 : (f_X11_keep__17 B) 14 2 = B 14 2 := g_X11_keep__17 rfl
  have k21 : (f_X11_keep__17 B) 14 21 = B 14 21 := g_X11_keep__17 rfl
  have k22 : (f_X11_keep__17 B) 14 22 = B 14 22 := g_X11_keep__17 rfl
  have hs4 : (f_X11_has 8192 (f_X11_keep__17 B) = 0) ↔ (A 2 18) &&& 8192 = 0 := st4 (hg.2.1.trans k2.symm)
  have l1 : (nI n ≤ 24) ↔ n ≤ 24 := nI_leI (a := n) (b := 24) (by omega) (by decide)
  have l2 : ((32 : Int32) ≤ nI n) ↔ 32 ≤ n := nI_leI (a := 32) (b := n) (by decide) (by omega)
  unfold f_X7_enters f_X7_enters_30 f_X7_enters_35 f_X11_tried f_X11_tried_38 f_X11_tried_90
  simp only [xb_l]
  rw [k2, k21, k22]
  have tq : ∀ (x y : Int32 × St), (if f_X11_has 8192 (f_X11_keep__17 B) = 0 then x else y) = if (A 2 18) &&& 8192 = 0 then x else y := fun x y => by
    by_cases c : (A 2 18) &&& 8192 = 0
    · rw [if_pos c, if_pos (hs4.mpr c)]
    · rw [if_neg c, if_neg (fun x => c (hs4.mp x))]
  rw [tq]
  by_cases c : n ≤ 24
  · refine ⟨A 2 18 &&& 1792, (B 14 2 &&& (-32769)) ||| 8192, ?_, ?_, ?_⟩
    · rw [if_pos (l1.mpr c)]
      split <;> rfl
    · rw [if_pos (l1.mpr c), if_pos (l1.mpr c)]
      split <;> rfl
    · rw [← hg.2.1]; exact stw hg.2.2
  · by_cases c2 : 32 ≤ n
    · refine ⟨A 2 18 &&& 1792, (B 14 2 &&& (-32769)) ||| 8192, ?_, ?_, ?_⟩
      · rw [if_neg (fun x => c (l1.mp x)), if_pos (l2.mpr c2)]
        split <;> rfl
      · rw [if_neg (fun x => c (l1.mp x)), if_pos (l2.mpr c2), if_neg (fun x => c (l1.mp x)), if_pos (l2.mpr c2)]
        split <;> rfl
      · rw [← hg.2.1]; exact stw hg.2.2
    · refine ⟨(nI n - 24) <<< ((8 : Int32) &&& 31), (((B 14 2 &&& (-32769)) ||| 8192) &&& (-1793)) ||| ((nI n - 24) <<< ((8 : Int32) &&& 31)), ?_, ?_, ?_⟩
      · rw [if_neg (fun x => c (l1.mp x)), if_neg (fun x => c2 (l2.mp x))]
        split <;> rfl
      · rw [if_neg (fun x => c (l1.mp x)), if_neg (fun x => c2 (l2.mp x)), if_neg (fun x => c (l1.mp x)), if_neg (fun x => c2 (l2.mp x))]
        split <;> rfl
      · rw [← hg.2.1]; exact sti hg.2.2
theorem or4 : ∀ w : Int32, (w = 0 ∨ w = 1 ∨ w = 3) → (w ||| 4) = w + 4 ∧ (w ||| 0) = w + 0 := by
  intro w hw
  rcases hw with rfl | rfl | rfl <;> decide
theorem en {A B : St} {n : Nat} (hn2 : 2 ≤ n) (hn : n < 48) (hb : RB (xup A 4 10 0) (xup B 14 20 0)) (hg : GY A B) (h11 : A 8 11 = B 14 19) (hz : n < 4 → A 4 11 = B 14 21 ∧ A 4 12 = B 14 22 ∧ (A 4 12 = 0 ∨ A 4 12 = 1 ∨ A 4 12 = 3)) : ENR n A B (f_X7_enters (nI n) A) (f_X11_tried (nI n) (B 15 17) B) := by
  obtain ⟨x3, w', hC, hM, hW⟩ := enO (a2 := B 15 17) hn hg
  rw [hC, hM]
  have kk := kept17 (M := B)
  have kf : ∀ {p j : Nat}, xno2 p j [(17, none)] = true → (f_X11_keep__17 B) p j = B p j := fun hp => g_X11_keep__17 hp
  have rb : RB (xup (xcp A 2 3) 4 10 0) (xup (f_X11_keep__17 B) 14 20 0) := by
    rw [xup_xcp]
    refine hb.cg (fun p hp => xcp_other (xnot_at hp rfl)) (fun p k hp => ?_)
    rw [xup_ite, xup_ite, kf (x2_sub hp rfl)]
  have y0 : RY (xup (xcp A 2 3) 4 10 0) (xup (f_X11_keep__17 B) 14 20 0) := by
    refine ⟨rb, fun _ => hg.cg ?_ (fun j => ?_) ?_⟩
    · rw [xup_other (by decide), xcp_other (by decide)]
    · rw [xo4 rfl]; exact kf rfl
    · rw [xo4 rfl]; exact kf rfl
  unfold f_X7_enters_56 f_X11_tried_92 f_X8_keep f_X2_clearError
  simp only [xb_l]
  have y1 := y0.chst (w := (8192 ||| x3) ||| ((A 2 18) &&& 31)) (w' := w') (fun _ => hW)
  have pc : (f_X8_changeStatus ((8192 ||| x3) ||| ((A 2 18) &&& 31)) (xup (xcp A 2 3) 4 10 0)) 2 17 = B 15 17 := by
    have e : (f_X8_changeStatus ((8192 ||| x3) ||| ((A 2 18) &&& 31)) (xup (xcp A 2 3) 4 10 0)) 4 10 = 0 := by rw [fr_X8_changeStatus rfl, xs4]
    rw [(y1.2 e).1 17 (by decide), g_X11_setStatus rfl, xo4 rfl]
    exact kf rfl
  rw [pc]
  have y2 := y1.push (s := 2) (v := B 15 17) (v' := B 15 17) (by decide) (fun _ => rfl)
  have y3 := y2.push (s := 1) (v := A 2 18) (v' := B 14 2) (by decide) (fun _ => by rw [hg.2.1])
  have c8 : ∀ p, p = 3 ∨ p = 8 ∨ p = 9 → (f_X6_push 1 (A 2 18) (f_X6_push 2 (B 15 17) (f_X8_changeStatus ((8192 ||| x3) ||| ((A 2 18) &&& 31)) (xup (xcp A 2 3) 4 10 0)))) p = (xcp A 2 3) p := by
    intro p hp
    rcases hp with rfl | rfl | rfl <;> rw [fr_X6_push rfl, fr_X6_push rfl, fr_X8_changeStatus rfl, xup_other (by decide)]
  have d8 : ∀ {p j : Nat}, (p = 14 ∧ (j = 5 ∨ j = 19)) ∨ p = 17 ∨ p = 21 → (f_X11_push 1 (B 14 2) (f_X11_push 2 (B 15 17) (f_X11_setStatus w' (xup (f_X11_keep__17 B) 14 20 0)))) p j = (f_X11_keep__17 B) p j := by
    intro p j hp
    rcases hp with ⟨rfl, rfl | rfl⟩ | rfl | rfl <;> rw [g_X11_push rfl, g_X11_push rfl, g_X11_setStatus rfl, xo4 rfl]
  generalize f_X6_push 1 (A 2 18) (f_X6_push 2 (B 15 17) (f_X8_changeStatus ((8192 ||| x3) ||| ((A 2 18) &&& 31)) (xup (xcp A 2 3) 4 10 0))) = C3 at y3 c8 ⊢
  generalize f_X11_push 1 (B 14 2) (f_X11_push 2 (B 15 17) (f_X11_setStatus w' (xup (f_X11_keep__17 B) 14 20 0))) = E3 at y3 d8 ⊢
  have c3 : ∀ j, j < 19 → C3 3 j = A 2 j := fun j hj => by rw [c8 3 (Or.inl rfl), xcp_at hj]
  have c9 : C3 9 = A 9 := by rw [c8 9 (Or.inr (Or.inr rfl)), xcp_other (by decide)]
  have e17 : ∀ j, j < 18 → E3 17 j = B 15 j := fun j hj => by rw [d8 (Or.inr (Or.inl rfl)), kk.1 j hj]
  have e18 : E3 17 18 = B 14 2 := by rw [d8 (Or.inr (Or.inl rfl)), kk.2]
  have e21 : ∀ j, E3 21 j = B 21 j := fun j => by rw [d8 (Or.inr (Or.inr rfl))]; exact kf rfl
  have e5 : E3 14 5 = B 14 5 := by rw [d8 (Or.inl ⟨rfl, Or.inl rfl⟩)]; exact kf rfl
  have e19 : C3 8 11 = E3 14 19 := by
    rw [c8 8 (Or.inr (Or.inl rfl)), xcp_other (by decide), d8 (Or.inl ⟨rfl, Or.inr rfl⟩), h11]
    exact (kf rfl).symm
  have n4 : ((4 : Int32) ≤ nI n) ↔ 4 ≤ n := nI_leI (a := 4) (b := n) (by decide) (by omega)
  by_cases c : 4 ≤ n
  · have z : f_X7_isOfGroupZero (nI n) = 0 := by
      unfold f_X7_isOfGroupZero
      rw [if_neg (nq_2 (n := n) (by omega) (by omega)), if_neg (nq_3 (n := n) (by omega) (by omega))]
    rw [if_pos z, if_pos (n4.mpr c)]
    exact en162 hn y3 hg c3 c9 e17 e18 e21 e5
  · have z : ¬ f_X7_isOfGroupZero (nI n) = 0 := by
      rcases (show n = 2 ∨ n = 3 by omega) with rfl | rfl <;> decide
    rw [if_neg z, if_neg (fun x => c (n4.mp x))]
    obtain ⟨z1, z2, z3⟩ := hz (by omega)
    have y4 := y3.push (s := 1) (v := C3 8 11) (v' := E3 14 19) (by decide) (fun _ => by rw [e19])
    have y5 := y4.push (s := 2) (v := A 4 11) (v' := B 14 21) (by decide) (fun _ => by rw [z1])
    have y6 := y5.push (s := 1) (v := A 4 12 ||| (if (A 2 18) &&& 8192 = 0 then 0 else 4)) (v' := B 14 22 + (if (A 2 18) &&& 8192 = 0 then 0 else 4)) (by decide) (fun _ => by
      rw [← z2]
      have o := or4 _ z3
      split
      · rw [o.2]
      · rw [o.1])
    refine en162 hn y6 hg (fun j hj => ?_) ?_ (fun j hj => ?_) ?_ (fun j => ?_) ?_
    · rw [fr_X6_push rfl, fr_X6_push rfl, fr_X6_push rfl]; exact c3 j hj
    · rw [fr_X6_push rfl, fr_X6_push rfl, fr_X6_push rfl]; exact c9
    · rw [g_X11_push rfl, g_X11_push rfl, g_X11_push rfl]; exact e17 j hj
    · rw [g_X11_push rfl, g_X11_push rfl, g_X11_push rfl]; exact e18
    · rw [g_X11_push rfl, g_X11_push rfl, g_X11_push rfl]; exact e21 j
    · rw [g_X11_push rfl, g_X11_push rfl, g_X11_push rfl]; exact e5
