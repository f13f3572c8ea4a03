/-! one step -/
def RM (A B : St) : Prop := RB (xup A 4 10 0) (xup B 14 20 0) ∧ GY A B ∧ CN A B ∧ A 8 7 = B 14 5 ∧ (A 8 7 = 0 → A 4 10 = 0) ∧ A 8 8 = B 14 6 ∧ A 8 11 = B 14 19 ∧ A 8 9 = B 14 16 ∧ xrg 0 7 (A 8 9) ∧ (A 8 10 = 7 ↔ B 14 17 = 7)
theorem RM.tb {A B : St} (h : RM A B) : A 4 7 = B 14 9 ∧ A 4 9 = B 14 11 ∧ xrg 0 65535 (A 4 7) ∧ A 4 8 = B 14 10 ∧ xrg 0 7 (A 4 8) := by
  have t := h.1.tim
  have a := h.1.ask
  have r := h.1.tir
  have l := h.1.tlv
  have lr := h.1.tlr
  rw [xo4 rfl, xo4 rfl] at t a l
  rw [xo4 rfl] at r lr
  exact ⟨t, a, r, l, lr⟩
theorem RM.tick {A B : St} {v : Int32} (h : RM A B) : (f_X11_stepped_113 v B).1 = v ∧ RM (f_X2_tick A) (f_X11_stepped_113 v B).2 := by
  obtain ⟨t, a, r, _, _⟩ := h.tb
  unfold f_X2_tick f_X2_tick_32 f_X2_tick_37 f_X11_stepped_113 f_X11_stepped_145 f_X11_stepped_150
  rw [← t, ← a]
  by_cases c : A 4 7 = 0
  · rw [if_pos c, if_pos c]
    exact ⟨rfl, h⟩
  · rw [if_neg c, if_neg c]
    obtain ⟨k, hk, ek⟩ := xrg_nat (n := 65536) r (by decide) (by decide)
    have k0 : k ≠ 0 := fun x => c (by rw [ek, x]; rfl)
    have et : A 4 7 - 1 = nI (k - 1) := by
      rw [ek, show k = (k - 1) + 1 by omega, nI_pred]; rfl
    have up : ∀ s : Int32, RM (xup (xup A 4 7 (A 4 7 - 1)) 4 9 s) (xup (xup B 14 9 (A 4 7 - 1)) 14 11 s) := by
      intro s
      obtain ⟨h1, h2, h3, h4, h5, h6, h7, h8, h9, h10⟩ := h
      have rb := (h1.s_tim (t := A 4 7 - 1) (by rw [et]; exact xrg_nI (by omega) (by omega))).s_ask (t := s)
      refine ⟨?_, h2.cg ?_ (fun j => ?_) ?_, h3.cg (fun j => ?_) (fun j => ?_), ?_, fun x => ?_, ?_, ?_, ?_, ?_, ?_⟩
      · rw [xup_comm (M := xup A 4 7 (A 4 7 - 1)) (show ¬ (4 = 4 ∧ 9 = 10) by decide), xup_comm (M := A) (show ¬ (4 = 4 ∧ 7 = 10) by decide), xup_comm (M := xup B 14 9 (A 4 7 - 1)) (show ¬ (14 = 14 ∧ 11 = 20) by decide), xup_comm (M := B) (show ¬ (14 = 14 ∧ 9 = 20) by decide)]
        exact rb
      · rw [xup_other (by decide), xup_other (by decide)]
      · rw [xo4 rfl, xo4 rfl]
      · rw [xo4 rfl, xo4 rfl]
      · rw [xo4 rfl, xo4 rfl]
      · rw [xo4 rfl, xo4 rfl]
      · rw [xo4 rfl, xo4 rfl, xo4 rfl, xo4 rfl]; exact h4
      · rw [xo4 rfl, xo4 rfl] at x ⊢; exact h5 x
      · rw [xo4 rfl, xo4 rfl, xo4 rfl, xo4 rfl]; exact h6
      · rw [xo4 rfl, xo4 rfl, xo4 rfl, xo4 rfl]; exact h7
      · rw [xo4 rfl, xo4 rfl, xo4 rfl, xo4 rfl]; exact h8
      · rw [xo4 rfl, xo4 rfl]; exact h9
      · rw [xo4 rfl, xo4 rfl, xo4 rfl, xo4 rfl]; exact h10
    by_cases c2 : A 4 9 = 0
    · rw [if_pos c2, if_pos c2]
      by_cases c3 : A 4 7 - 1 = 0
      · rw [if_pos c3, if_pos c3]
        exact ⟨rfl, up 1⟩
      · rw [if_neg c3, if_neg c3]
        exact ⟨rfl, up 0⟩
    · rw [if_neg c2, if_neg c2]
      exact ⟨rfl, up 1⟩
theorem msk_b : ∀ i : Fin 32, bt 1792 (8 + i.val) = bt 7 i.val := by decide +kernel
theorem msk (x : Int32) : ius (x &&& 1792) 8 = (x >>> ((8 : Int32) &&& 31)) &&& 7 := by
  have e1 : (x >>> ((8 : Int32) &&& 31)) &&& 255 = (ius x 8) &&& 255 := (byt_s x 8 (by decide)).trans (byt_u x 8 (by decide)).symm
  have e2 : ∀ y : Int32, (y &&& 255) &&& 7 = y &&& 7 := fun y => by rw [Int32.and_assoc]; rfl
  rw [← e2, e1, e2]
  refine bt_ext (fun i hi => ?_)
  rw [bt_and]
  have a1 : bt (ius (x &&& 1792) 8) i = bt (x &&& 1792) (8 + i) := bt_ius _ 8 i (by decide)
  have a2 : bt (ius x 8) i = bt x (8 + i) := bt_ius _ 8 i (by decide)
  rw [a1, a2, bt_and, msk_b ⟨i, hi⟩]
theorem RM.lv {A B : St} (h : RM A B) : ∃ v : Nat, v < 8 ∧ f_X7_advance A = (if f_X7_maskOfLevels A < nI v then f_X7_advance_52 (nI v) A else (if nI v = 7 then (if (A 8 10) = 7 then f_X7_advance_56 (nI v) A else f_X7_advance_52 (nI v) A) else f_X7_advance_56 (nI v) A)) ∧ f_X11_stepped B = f_X11_stepped_29 (nI v) B := by
  obtain ⟨t, a, r, l, lr⟩ := h.tb
  obtain ⟨h1, h2, h3, h4, h5, h6, h7, h8, h9, h10⟩ := h
  obtain ⟨x, hx, ex⟩ := xrg_nat (n := 8) h9 (by decide) (by decide)
  obtain ⟨y, hy, ey⟩ := xrg_nat (n := 8) lr (by decide) (by decide)
  have adv : ∀ s0 s1 : Int32, f_X7_advance_25 s0 s1 A = (if f_X7_maskOfLevels A < xmax s1 s0 then f_X7_advance_52 (xmax s1 s0) A else (if xmax s1 s0 = 7 then (if (A 8 10) = 7 then f_X7_advance_56 (xmax s1 s0) A else f_X7_advance_52 (xmax s1 s0) A) else f_X7_advance_56 (xmax s1 s0) A)) := fun _ _ => rfl
  unfold f_X7_advance f_X11_stepped f_X11_stepped_25
  rw [← a, ← l, ← h8]
  by_cases c : A 4 9 = 0
  · refine ⟨x, hx, ?_, ?_⟩
    · have m : xmax (nI x) 0 = nI x := by
        unfold xmax
        rw [if_neg (fun e => by have := (nI_ltI (a := x) (b := 0) (by omega) (by decide)).mp e; omega)]
      rw [if_pos c, adv, ex, m]
    · rw [if_pos c, ex]
  · rw [if_neg c, if_neg c, adv, ex, ey]
    by_cases c2 : x < y
    · have m : xmax (nI x) (nI y) = nI y := by
        unfold xmax
        rw [if_pos ((nI_ltI (by omega) (by omega)).mpr c2)]
      refine ⟨y, hy, by rw [m], ?_⟩
      rw [if_neg (fun e => by have := (nI_leI (a := y) (b := x) (by omega) (by omega)).mp e; omega)]
    · have m : xmax (nI x) (nI y) = nI x := by
        unfold xmax
        rw [if_neg (fun e => c2 ((nI_ltI (by omega) (by omega)).mp e))]
      refine ⟨x, hx, by rw [m], ?_⟩
      rw [if_pos ((nI_leI (by omega) (by omega)).mpr (by omega))]
theorem RM.before {A B : St} (h : RM A B) (v : Int32) : RM (xup A 8 10 v) (xup B 14 17 v) := by
  obtain ⟨h1, h2, h3, h4, h5, h6, h7, h8, h9, h10⟩ := h
  refine ⟨?_, h2.cg (xup_other (by decide)) (fun j => xo4 rfl) (xo4 rfl), h3.cg (fun j => xo4 rfl) (fun j => xo4 rfl), ?_, fun x => ?_, ?_, ?_, ?_, ?_, ?_⟩
  · rw [xup_comm (show ¬ (8 = 4 ∧ 10 = 10) by decide), xup_comm (show ¬ (14 = 14 ∧ 17 = 20) by decide)]
    exact h1.cg (fun p hp => xup_other (xnot_at hp rfl)) (fun p k hp => xup_o2 (x2_field 14 17 hp rfl))
  · rw [xo4 rfl, xo4 rfl]; exact h4
  · rw [xo4 rfl] at x ⊢; exact h5 x
  · rw [xo4 rfl, xo4 rfl]; exact h6
  · rw [xo4 rfl, xo4 rfl]; exact h7
  · rw [xo4 rfl, xo4 rfl]; exact h8
  · rw [xo4 rfl]; exact h9
  · rw [xs4, xs4]
theorem RM.b {A B : St} (h : RM A B) (h7 : A 8 7 = 0) : ∃ e, RB A (xup B 14 20 0) ∧ e = (0 : Int32) ∧ A 4 10 = e := by
  have e := h.2.2.2.2.1 h7
  have := h.1
  rw [xup_same e] at this
  exact ⟨0, this, rfl, e⟩
