/-! reset -/
theorem shl_or8 (x y : Int32) : (x ||| y) <<< ((8 : Int32) &&& 31) = (x <<< ((8 : Int32) &&& 31)) ||| (y <<< ((8 : Int32) &&& 31)) := bt_ext (fun i hi => by
  have e : ∀ z : Int32, bt (z <<< ((8 : Int32) &&& 31)) i = (decide (8 ≤ i) && bt z (i - 8)) := fun z => bt_shl z 8 i (by decide) hi
  rw [bt_or, e, e, e, bt_or]
  cases decide (8 ≤ i) <;> simp)
theorem shl_8_8 (x : Int32) : (x <<< ((8 : Int32) &&& 31)) <<< ((8 : Int32) &&& 31) = x <<< ((16 : Int32) &&& 31) := bt_ext (fun i hi => by
  have e : ∀ (z : Int32) (i : Nat), i < 32 → bt (z <<< ((8 : Int32) &&& 31)) i = (decide (8 ≤ i) && bt z (i - 8)) := fun z i hi => bt_shl z 8 i (by decide) hi
  have e2 : bt (x <<< ((16 : Int32) &&& 31)) i = (decide (16 ≤ i) && bt x (i - 16)) := bt_shl x 16 i (by decide) hi
  rw [e _ i hi, e _ (i - 8) (by omega), e2, show i - 8 - 8 = i - 16 by omega]
  by_cases c : 16 ≤ i
  · have : 8 ≤ i ∧ 8 ≤ i - 8 := by omega
    simp [c, this.1, this.2]
  · by_cases c2 : 8 ≤ i
    · have : ¬ 8 ≤ i - 8 := by omega
      simp [c, this]
    · simp [c, c2])
theorem shl_8_16 (x : Int32) : (x <<< ((8 : Int32) &&& 31)) <<< ((16 : Int32) &&& 31) = x <<< ((24 : Int32) &&& 31) := bt_ext (fun i hi => by
  have e : ∀ (z : Int32) (i : Nat), i < 32 → bt (z <<< ((8 : Int32) &&& 31)) i = (decide (8 ≤ i) && bt z (i - 8)) := fun z i hi => bt_shl z 8 i (by decide) hi
  have e1 : ∀ (z : Int32) (i : Nat), i < 32 → bt (z <<< ((16 : Int32) &&& 31)) i = (decide (16 ≤ i) && bt z (i - 16)) := fun z i hi => bt_shl z 16 i (by decide) hi
  have e2 : bt (x <<< ((24 : Int32) &&& 31)) i = (decide (24 ≤ i) && bt x (i - 24)) := bt_shl x 24 i (by decide) hi
  rw [e1 _ i hi, e _ (i - 16) (by omega), e2, show i - 16 - 8 = i - 24 by omega]
  by_cases c : 24 ≤ i
  · have : 16 ≤ i ∧ 8 ≤ i - 16 := by omega
    simp [c, this.1, this.2]
  · by_cases c2 : 16 ≤ i
    · have : ¬ 8 ≤ i - 16 := by omega
      simp [c, this]
    · simp [c, c2])
theorem four (a b c d : Int32) : ((((((((0 : Int32) <<< ((8 : Int32) &&& 31)) ||| a) <<< ((8 : Int32) &&& 31)) ||| b) <<< ((8 : Int32) &&& 31)) ||| c) <<< ((8 : Int32) &&& 31)) ||| d = (((a <<< ((24 : Int32) &&& 31)) ||| (b <<< ((16 : Int32) &&& 31))) ||| (c <<< ((8 : Int32) &&& 31))) ||| d := by
  rw [show (0 : Int32) <<< ((8 : Int32) &&& 31) = 0 by decide, Int32.zero_or, shl_or8, shl_or8, shl_or8, shl_8_8, shl_8_8, shl_8_16]
theorem rb_lo {C : St} {k : Nat} (hk : k < 2048) : f_X2_readByte (nI k) C = (C 5 k, C) := by
  unfold f_X2_readByte
  rw [if_neg (fun e => by have := (nI_leI (a := 2048) (b := k) (by decide) (by omega)).mp e; omega), nI_clamp (show k < 2 ^ 31 by omega)]
theorem rdL {C : St} {a : Nat} (ha : a = 0 ∨ a = 4) (h0 : C 4 10 = 0) : f_X2_read (nI a) 2 1 C = ((((C 5 a <<< ((24 : Int32) &&& 31)) ||| (C 5 (a + 1) <<< ((16 : Int32) &&& 31))) ||| (C 5 (a + 2) <<< ((8 : Int32) &&& 31))) ||| C 5 (a + 3), C) := by
  have ea : nI a &&& 16777215 = nI a := by rcases ha with rfl | rfl <;> decide
  have al : f_X2_allows (nI a) 4 1 C = (1, C) := by
    rw [allows_eq h0, if_neg (by rcases ha with rfl | rfl <;> decide)]
    have ok : okC C (nI a) 4 1 = true := by
      unfold okC
      have h1 : decide (nI a + 4 - 1 < 2048) = true := by rcases ha with rfl | rfl <;> decide
      have h2 : decide (¬ (1 : Int32) = 0) = true := by decide
      rw [h1, h2]; simp
    rw [ok, if_pos rfl]
  unfold f_X2_read
  rw [ea, show f_X10_bytesOf 2 = 4 by decide, al, xb_l]
  dsimp only
  rw [if_neg (show ¬ (1 : Int32) = 0 by decide), show ((4 : Int32).toInt - (0 : Int32).toInt).toNat + 1 = 5 by decide]
  have s0 : nI a + 0 = nI a := by rcases ha with rfl | rfl <;> decide
  have s1 : nI a + (0 + 1) = nI (a + 1) := by rcases ha with rfl | rfl <;> decide
  have s2 : nI a + (0 + 1 + 1) = nI (a + 2) := by rcases ha with rfl | rfl <;> decide
  have s3 : nI a + (0 + 1 + 1 + 1) = nI (a + 3) := by rcases ha with rfl | rfl <;> decide
  rw [rdC_u, if_neg (show ¬ (4 : Int32) ≤ 0 by decide), s0, rb_lo (by omega)]
  dsimp only
  rw [rdC_u, if_neg (show ¬ (4 : Int32) ≤ 0 + 1 by decide), s1, rb_lo (by omega)]
  dsimp only
  rw [rdC_u, if_neg (show ¬ (4 : Int32) ≤ 0 + 1 + 1 by decide), s2, rb_lo (by omega)]
  dsimp only
  rw [rdC_u, if_neg (show ¬ (4 : Int32) ≤ 0 + 1 + 1 + 1 by decide), s3, rb_lo (by omega)]
  dsimp only
  rw [rdC_u, if_pos (show (4 : Int32) ≤ 0 + 1 + 1 + 1 + 1 by decide), four]
theorem b13 (x : Int32) : (x &&& 8192 = 0) ↔ bt x 13 = false := by
  have e := andp (x := x) (p := 8192) (k := 13) (by decide) (by decide)
  rw [e]
  show _ ↔ x.toBitVec.getLsbD 13 = false
  cases x.toBitVec.getLsbD 13 <;> simp
theorem cS10 {A : St} {w : Int32} : xup (f_X8_changeStatus w A) 4 10 0 = f_X8_changeStatus w (xup A 4 10 0) := by
  unfold f_X8_changeStatus f_X8_changeStatus_51
  rw [xo4 rfl, xo4 rfl, xo4 rfl]
  split
  · rw [xup_comm (show ¬ (2 = 4 ∧ 18 = 10) by decide)]
  · rw [xup_comm (show ¬ (2 = 4 ∧ 18 = 10) by decide), xup_comm (show ¬ (2 = 4 ∧ 16 = 10) by decide), xup_comm (show ¬ (2 = 4 ∧ 15 = 10) by decide)]
theorem sS20 {B : St} {w : Int32} : xup (f_X11_setStatus w B) 14 20 0 = f_X11_setStatus w (xup B 14 20 0) := by
  unfold f_X11_setStatus f_X11_setStatus_48
  rw [xo4 rfl, xo4 rfl, xo4 rfl]
  split
  · rw [xup_comm (show ¬ (14 = 14 ∧ 2 = 20) by decide)]
  · rw [xup_comm (show ¬ (14 = 14 ∧ 2 = 20) by decide), xup_comm (show ¬ (15 = 14 ∧ 16 = 20) by decide), xup_comm (show ¬ (15 = 14 ∧ 15 = 20) by decide)]
theorem cS2 {A : St} : f_X8_changeStatus 9984 (f_X8_changeStatus ((A 2 18) ||| 8192) A) = f_X8_changeStatus 9984 A := by
  have k1 : bt (((A 2 18) ||| 8192) &&& 42783) 13 = true := by
    rw [bt_and, bt_or, show bt 8192 13 = true by decide, show bt 42783 13 = true by decide]; simp
  have k2 : bt ((9984 : Int32) &&& 42783) 13 = true := by decide
  have cd : ∀ x y : Int32, ((x ^^^ y) &&& 8192 = 0) ↔ bt x 13 = bt y 13 := fun x y => by
    rw [b13, bt_xor]
    cases bt x 13 <;> cases bt y 13 <;> simp
  have pos : ∀ (w : Int32) (M : St), bt (M 2 18) 13 = bt (w &&& 42783) 13 → f_X8_changeStatus w M = xup M 2 18 (w &&& 42783) := fun w M h => by
    unfold f_X8_changeStatus f_X8_changeStatus_51
    rw [if_pos ((cd _ _).mpr h)]
  have neg : ∀ (w : Int32) (M : St), ¬ bt (M 2 18) 13 = bt (w &&& 42783) 13 → f_X8_changeStatus w M = xup (xup (xup M 2 15 (M 2 16)) 2 16 (M 2 15)) 2 18 (w &&& 42783) := fun w M h => by
    unfold f_X8_changeStatus f_X8_changeStatus_51
    rw [if_neg (fun x => h ((cd _ _).mp x))]
  by_cases c : bt (A 2 18) 13 = true
  · rw [pos _ A (by rw [c, k1]), pos 9984 A (by rw [c, k2]), pos 9984 _ (by rw [xs4, k1, k2]), xup_xup]
  · rw [neg _ A (fun x => c (x.trans k1)), neg 9984 A (fun x => c (x.trans k2)), pos 9984 _ (by rw [xs4, k1, k2]), xup_xup]
theorem RY.quiet {A B : St} (h : RY A B) : RY (f_X2_quietTimer A) (xup (xup (xup B 14 9 0) 14 10 0) 14 11 0) := by
  unfold f_X2_quietTimer
  refine ⟨((h.1.s_tim ⟨by decide, by decide⟩).s_tlv ⟨by decide, by decide⟩).s_ask, fun e => ?_⟩
  rw [xo4 rfl, xo4 rfl, xo4 rfl] at e
  exact (h.2 e).cg (by rw [xup_other (by decide), xup_other (by decide), xup_other (by decide)]) (fun j => by rw [xo4 rfl, xo4 rfl, xo4 rfl]) (by rw [xo4 rfl, xo4 rfl, xo4 rfl])
theorem resetR {A B : St} (h : RM A B) : RM (f_X10_reset A) (f_X11_reset B) := by
  have hh := h
  obtain ⟨h1, h2, h3, h4, h5, h6, h7, h8, h9, h10⟩ := hh
  have f9 : ∀ j, (f_X10_reset A) 9 j = A 9 j := fun j => by
    show (f_X7_startAnew A) 9 j = _
    rw [fr_X7_startAnew rfl]
  have g21 : ∀ j, (f_X11_reset B) 21 j = B 21 j := fun j => g_X11_reset rfl
  have g16 : (f_X11_reset B) 14 16 = B 14 16 := g_X11_reset rfl
  have y0 : RY (xup A 4 10 0) (xup (xup B 14 0 0) 14 20 0) := by
    refine ⟨?_, fun _ => h2.cg (xup_other (by decide)) (fun j => by rw [xo4 rfl, xo4 rfl]) (by rw [xo4 rfl, xo4 rfl])⟩
    rw [xup_comm (show ¬ (14 = 14 ∧ 0 = 20) by decide)]
    exact h1.cg (fun p hp => rfl) (fun p k hp => xup_o2 (x2_field 14 0 hp rfl))
  have y1 := (y0.chst (w := ((xup A 4 10 0) 2 18) ||| 8192) (w' := (B 14 2) ||| 8192) (fun _ => by rw [xo4 rfl, h2.2.1])).chst (w := 9984) (w' := 9984) (fun _ => rfl)
  rw [cS2, ← cS10, ← sS20, ← sS20] at y1
  have e10 : (xup (f_X8_changeStatus 9984 A) 4 10 0) 4 10 = 0 := xs4
  have f8 : (xup (f_X8_changeStatus 9984 A) 4 10 0) 8 = A 8 := by rw [xup_other (by decide), fr_X8_changeStatus rfl]
  clear y0 h
  generalize hC : xup (f_X8_changeStatus 9984 A) 4 10 0 = C at y1 e10 f8
  generalize hq : f_X11_setStatus 9984 (f_X11_setStatus (B 14 2 ||| 8192) (xup B 14 0 0)) = q5 at y1
  have m5 : ∀ j, j < 2048 → C 5 j = q5 18 j := fun j hj => (y1.1.mem j hj).trans (xo4 rfl)
  have r0 := rdL (C := C) (a := 0) (Or.inl rfl) e10
  have c10 : ∀ v, (xup C 2 15 v) 4 10 = 0 := fun v => by rw [xo4 rfl]; exact e10
  have r4 := fun v => rdL (C := xup C 2 15 v) (a := 4) (Or.inr rfl) (c10 v)
  have l0 : ((((C 5 0 <<< ((24 : Int32) &&& 31)) ||| (C 5 (0 + 1) <<< ((16 : Int32) &&& 31))) ||| (C 5 (0 + 2) <<< ((8 : Int32) &&& 31))) ||| C 5 (0 + 3)) = f_X11_longAt 0 q5 := by
    rw [m5 0 (by decide), m5 (0 + 1) (by decide), m5 (0 + 2) (by decide), m5 (0 + 3) (by decide)]; rfl
  have l4 : ∀ v w : Int32, (((((xup C 2 15 v) 5 4 <<< ((24 : Int32) &&& 31)) ||| ((xup C 2 15 v) 5 (4 + 1) <<< ((16 : Int32) &&& 31))) ||| ((xup C 2 15 v) 5 (4 + 2) <<< ((8 : Int32) &&& 31))) ||| (xup C 2 15 v) 5 (4 + 3)) = f_X11_longAt 4 (xup q5 15 15 w) := fun v w => by
    unfold f_X11_longAt
    rw [xup_other (show (5 : Nat) ≠ 2 by decide), xup_other (show (18 : Nat) ≠ 15 by decide), m5 4 (by decide), m5 (4 + 1) (by decide), m5 (4 + 2) (by decide), m5 (4 + 3) (by decide)]; rfl
  rw [l0] at r0
  generalize hL0 : f_X11_longAt 0 q5 = L0 at r0 l0
  have l4' := l4 L0 L0
  have r4' := r4 L0
  rw [l4'] at r4'
  generalize hL4 : f_X11_longAt 4 (xup q5 15 15 L0) = L4 at r4' l4'
  have eA : f_X10_reset A = xup (xup (xup (xup (f_X2_quietTimer (xup (xup C 2 15 L0) 2 17 L4)) 8 7 0) 8 8 0) 8 10 0) 8 11 0 := by
    unfold f_X10_reset f_X7_startAnew f_X2_clearError
    rw [xb_l, xb_l, xb_l, hC, xb_l, show f_X2_read 0 2 1 C = (L0, C) from r0]
    dsimp only
    rw [xb_l, show f_X2_read 4 2 1 (xup C 2 15 L0) = (L4, xup C 2 15 L0) from r4']
    dsimp only
    rw [xb_l]
  have eB : f_X11_reset B = xup (xup (xup (xup (xup (xup (xup (xup (xup q5 15 15 L0) 15 17 L4) 14 9 0) 14 10 0) 14 11 0) 14 5 0) 14 6 0) 14 17 (-1)) 14 19 0 := by
    unfold f_X11_reset
    rw [xb_l, xb_l, hq, hL0, hL4]
  rw [eA] at f9 ⊢
  rw [eB] at g21 g16 ⊢
  have y2 := ((y1.setr (j := 15) (v := L0) (v' := L0) (by decide) (fun _ => rfl)).setr (j := 17) (v := L4) (v' := L4) (by decide) (fun _ => rfl)).quiet
  have q8 : (f_X2_quietTimer (xup (xup C 2 15 L0) 2 17 L4)) 8 = A 8 := by rw [fr_X2_quietTimer rfl, xup_other (by decide), xup_other (by decide)]; exact f8
  have q4 : (f_X2_quietTimer (xup (xup C 2 15 L0) 2 17 L4)) 4 10 = 0 := by
    unfold f_X2_quietTimer
    rw [xo4 rfl, xo4 rfl, xo4 rfl, xo4 rfl, xo4 rfl]; exact e10
  generalize f_X2_quietTimer (xup (xup C 2 15 L0) 2 17 L4) = Q at y2 f9 q8 q4 ⊢
  refine ⟨?_, ?_, h3.cg f9 g21, ?_, fun _ => ?_, ?_, ?_, ?_, ?_, ?_⟩
  · have e : (xup (xup (xup (xup Q 8 7 0) 8 8 0) 8 10 0) 8 11 0) 4 10 = 0 := by rw [xo4 rfl, xo4 rfl, xo4 rfl, xo4 rfl]; exact q4
    rw [xup_same e, xup_comm (show ¬ (14 = 14 ∧ 19 = 20) by decide), xup_comm (show ¬ (14 = 14 ∧ 17 = 20) by decide), xup_comm (show ¬ (14 = 14 ∧ 6 = 20) by decide), xup_comm (show ¬ (14 = 14 ∧ 5 = 20) by decide), xup_comm (show ¬ (14 = 14 ∧ 11 = 20) by decide), xup_comm (show ¬ (14 = 14 ∧ 10 = 20) by decide), xup_comm (show ¬ (14 = 14 ∧ 9 = 20) by decide), xup_comm (show ¬ (15 = 14 ∧ 17 = 20) by decide), xup_comm (show ¬ (15 = 14 ∧ 15 = 20) by decide)]
    exact y2.1.cg (fun p hp => by rw [xup_other (xnot_at hp rfl), xup_other (xnot_at hp rfl), xup_other (xnot_at hp rfl), xup_other (xnot_at hp rfl)]) (fun p k hp => by rw [xup_o2 (x2_field 14 19 hp rfl), xup_o2 (x2_field 14 17 hp rfl), xup_o2 (x2_field 14 6 hp rfl), xup_o2 (x2_field 14 5 hp rfl)])
  · refine (y2.2 q4).cg (by rw [xup_other (by decide), xup_other (by decide), xup_other (by decide), xup_other (by decide)]) (fun j => ?_) ?_
    · simp only [xup_o2 (Or.inl (show (15 : Nat) ≠ 14 by decide)), xup_ite]
    · rw [xo4 rfl, xo4 rfl, xo4 rfl, xo4 rfl, xo4 rfl, xo4 rfl, xo4 rfl, xo4 rfl, xo4 rfl, xo4 rfl, xo4 rfl, xo4 rfl, xo4 rfl, xo4 rfl, xo4 rfl]
  · rw [xo4 rfl, xo4 rfl, xo4 rfl, xs4, xo4 rfl, xo4 rfl, xo4 rfl, xs4]
  · rw [xo4 rfl, xo4 rfl, xo4 rfl, xo4 rfl]; exact q4
  · rw [xo4 rfl, xo4 rfl, xs4, xo4 rfl, xo4 rfl, xs4]
  · rw [xs4, xs4]
  · rw [xo4 rfl, xo4 rfl, xo4 rfl, xo4 rfl, q8, g16]; exact h8
  · rw [xo4 rfl, xo4 rfl, xo4 rfl, xo4 rfl, q8]; exact h9
  · rw [xo4 rfl, xs4, xo4 rfl, xs4]
    exact iff_of_false (by decide) (by decide)
