/-! one step, whole -/
theorem RM.stopped {A B : St} (h : RM A B) (v : Int32) : RM (xup A 8 8 v) (xup B 14 6 v) := by
  obtain ⟨h1, h2, h3, h4, h5, h6, h7, h8, h9, h10⟩ := h
  refine ⟨?_, h2.cg (xup_other (by decide)) (fun j => xo4 rfl) (xo4 rfl), h3.cg (fun j => xo4 rfl) (fun j => xo4 rfl), ?_, fun x => ?_, ?_, ?_, ?_, ?_, ?_⟩
  · rw [xup_comm (show ¬ (8 = 4 ∧ 8 = 10) by decide), xup_comm (show ¬ (14 = 14 ∧ 6 = 20) by decide)]
    exact h1.cg (fun p hp => xup_other (xnot_at hp rfl)) (fun p k hp => xup_o2 (x2_field 14 6 hp rfl))
  · rw [xo4 rfl, xo4 rfl]; exact h4
  · rw [xo4 rfl] at x ⊢; exact h5 x
  · rw [xs4, xs4]
  · rw [xo4 rfl, xo4 rfl]; exact h7
  · rw [xo4 rfl, xo4 rfl]; exact h8
  · rw [xo4 rfl]; exact h9
  · rw [xo4 rfl, xo4 rfl]; exact h10
theorem RM.thr {A B : St} (h : RM A B) (v : Int32) : RM A (xup B 14 0 v) := by
  obtain ⟨h1, h2, h3, h4, h5, h6, h7, h8, h9, h10⟩ := h
  refine ⟨?_, h2.cg rfl (fun j => xo4 rfl) (xo4 rfl), h3.cg (fun j => rfl) (fun j => xo4 rfl), ?_, h5, ?_, ?_, ?_, h9, ?_⟩
  · rw [xup_comm (show ¬ (14 = 14 ∧ 0 = 20) by decide)]
    exact h1.cg (fun p hp => rfl) (fun p k hp => xup_o2 (x2_field 14 0 hp rfl))
  · rw [xo4 rfl]; exact h4
  · rw [xo4 rfl]; exact h6
  · rw [xo4 rfl]; exact h7
  · rw [xo4 rfl]; exact h8
  · rw [xo4 rfl]; exact h10
theorem RM.wo {A B : St} {n a2 : Int32} (h : RM A B) (w : WO A (f_X7_workOff n A) (f_X11_work n a2 B)) : RM (f_X7_workOff n A) (f_X11_work n a2 B) := by
  obtain ⟨h1, h2, h3, h4, h5, h6, h7, h8, h9, h10⟩ := h
  obtain ⟨w1, w2, w3, w4, w5, w6⟩ := w
  refine ⟨w1.s_clr, w2, w3, w4, w5, ?_, ?_, ?_, ?_, ?_⟩
  · rw [w6 8 (by decide), g_X11_work rfl]; exact h6
  · rw [w6 11 (by decide), g_X11_work rfl]; exact h7
  · rw [w6 9 (by decide), g_X11_work rfl]; exact h8
  · rw [w6 9 (by decide)]; exact h9
  · rw [w6 10 (by decide), g_X11_work rfl]; exact h10
theorem irq {A B : St} {v : Nat} (h : RM A B) (h70 : A 8 7 = 0) (hv : v < 8) : (f_X7_advance_52 (nI v) A).1 = (f_X11_stepped_59 (nI v) B).1 ∧ RM (f_X7_advance_52 (nI v) A).2 (f_X11_stepped_59 (nI v) B).2 := by
  have hb := (h.before (nI v)).stopped 0
  have e24 : (24 : Int32) + nI v = nI (24 + v) := nI_add 24 v
  have pc : (xup (xup B 14 17 (nI v)) 14 6 0) 15 17 = B 15 17 := by rw [xo4 rfl, xo4 rfl]
  have hh := hb
  obtain ⟨h1, h2, h3, h4, h5, h6, h7, h8, h9, h10⟩ := hh
  have h77 : (xup (xup A 8 10 (nI v)) 8 8 0) 8 7 = 0 := by rw [xo4 rfl, xo4 rfl]; exact h70
  have w := wo (A := xup (xup A 8 10 (nI v)) 8 8 0) (B := xup (xup B 14 17 (nI v)) 14 6 0) (n := 24 + v) (by omega) (by omega) h1 h2 h7 (fun x => absurd x (by omega)) h3 h77 (h4.symm.trans h77)
  rw [pc] at w
  have r := (hb.wo w).tick (v := nI (24 + v))
  unfold f_X7_advance_52 f_X7_advance_57 f_X7_advance_101 f_X7_interrupt f_X11_stepped_59 f_X11_stepped_64
  rw [if_neg (show ¬ (1 : Int32) = 0 by decide), if_neg (show ¬ (1 : Int32) = 0 by decide)]
  simp only [xb_l]
  rw [e24]
  exact ⟨r.1.symm, r.2⟩
theorem runs {A B : St} {v : Nat} (h : RM A B) (h70 : A 8 7 = 0) (hv : v < 8) : (f_X7_advance_56 (nI v) A).1 = (f_X11_stepped_63 (nI v) B).1 ∧ RM (f_X7_advance_56 (nI v) A).2 (f_X11_stepped_63 (nI v) B).2 := by
  have hb := h.before (nI v)
  have hh := hb
  obtain ⟨h1, h2, h3, h4, h5, h6, h7, h8, h9, h10⟩ := hh
  have h77 : (xup A 8 10 (nI v)) 8 7 = 0 := by rw [xo4 rfl]; exact h70
  have h0 := h5 h77
  rw [xup_same h0] at h1
  unfold f_X7_advance_56 f_X7_advance_57 f_X7_advance_101 f_X11_stepped_63 f_X11_stepped_64
  rw [if_pos (show (0 : Int32) = 0 from rfl), if_pos (show (0 : Int32) = 0 from rfl)]
  have e8 : A 8 8 = B 14 6 := h.2.2.2.2.2.1
  rw [← e8]
  by_cases c : A 8 8 = 0
  · rw [if_pos c, if_pos c]
    have i := ins (A := xup A 8 10 (nI v)) (B := xup B 14 17 (nI v)) h1 h0 h2 h3 h77 (h4.symm.trans h77) h6
    simp only [xb_l]
    have g16 : (f_X11_instruct (xup B 14 17 (nI v))).2 14 16 = (xup B 14 17 (nI v)) 14 16 := g_X11_instruct rfl
    have g17 : (f_X11_instruct (xup B 14 17 (nI v))).2 14 17 = nI v := by rw [g_X11_instruct rfl, xs4]
    generalize f_X7_end (f_X4_perform (f_X7_begin (xup A 8 10 (nI v))).1 (f_X7_begin (xup A 8 10 (nI v))).2) = p at i ⊢
    generalize f_X11_instruct (xup B 14 17 (nI v)) = q at i g16 g17 ⊢
    obtain ⟨r1, r2, r3, r4, r5, r6, r7, r8, r9, r10⟩ := i
    have rm : RM p.2 q.2 := ⟨r2.s_clr, r3, r4, r5, r6, r7, r8, by rw [r9, g16]; exact h8, by rw [r9]; exact h9, by rw [r10, g17, xs4]⟩
    have t := rm.tick (v := q.1)
    exact ⟨r1.trans t.1.symm, t.2⟩
  · rw [if_neg c, if_neg c]
    have t := hb.tick (v := -1)
    exact ⟨t.1.symm, t.2⟩
theorem stepR {A B : St} (h : RM A B) (h70 : A 8 7 = 0) : (f_X7_advance A).1 = (f_X11_stepped B).1 ∧ RM (f_X7_advance A).2 (f_X11_stepped B).2 := by
  obtain ⟨v, hv, ea, eb⟩ := h.lv
  have i := irq h h70 hv
  have r := runs h h70 hv
  have m : f_X7_maskOfLevels A = ((B 14 2) >>> ((8 : Int32) &&& 31)) &&& 7 := by
    unfold f_X7_maskOfLevels
    rw [msk, h.2.1.2.1]
  have hx := h.2.2.2.2.2.2.2.2.2
  rw [ea, eb]
  unfold f_X11_stepped_29
  rw [m]
  by_cases c1 : ((B 14 2) >>> ((8 : Int32) &&& 31)) &&& 7 < nI v
  · rw [if_pos c1, if_pos c1]; exact i
  · rw [if_neg c1, if_neg c1]
    by_cases c2 : nI v = 7
    · rw [if_pos c2, if_pos c2]
      by_cases c3 : A 8 10 = 7
      · rw [if_pos c3, if_pos (hx.mp c3)]; exact r
      · rw [if_neg c3, if_neg (fun x => c3 (hx.mpr x))]; exact i
    · rw [if_neg c2, if_neg c2]; exact r
