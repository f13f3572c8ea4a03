/-! one instruction -/
theorem EX_all {g r d z m l : Nat} {M : St} (h : wB g r d z m l) (h10 : g ≠ 10) (h15 : g ≠ 15) : EX (wd g r d z m l) (f_X3_decode (wd g r d z m l) M) := by
  have h16 := h.1
  rcases (show g = 0 ∨ g = 1 ∨ g = 2 ∨ g = 3 ∨ g = 4 ∨ g = 5 ∨ g = 6 ∨ g = 7 ∨ g = 8 ∨ g = 9 ∨ g = 11 ∨ g = 12 ∨ g = 13 ∨ g = 14 by omega) with rfl | rfl | rfl | rfl | rfl | rfl | rfl | rfl | rfl | rfl | rfl | rfl | rfl | rfl
  · exact EX_0 h
  · exact EX_1 h
  · exact EX_2 h
  · exact EX_3 h
  · exact EX_4 h
  · exact EX_5 h
  · exact EX_6 h
  · exact EX_7 h
  · exact EX_8 h
  · exact EX_9 h
  · exact EX_11 h
  · exact EX_12 h
  · exact EX_13 h
  · exact EX_14 h
theorem xup_same {M : St} {i j : Nat} {v : Int32} (h : M i j = v) : xup M i j v = M := by rw [← h]; exact xup_id M i j
theorem rd_z {A B : St} {a s way : Int32} (h : RB A B) (hS : supC A = supB B) (h0 : A 4 10 = 0) (hs : s = 0 ∨ s = 1 ∨ s = 2) (hw : way = 1 ∨ way = 3) (he : ¬ (f_X2_read a s way A).2 4 10 = 0) : (f_X2_read a s way A).1 = 0 := by
  have key := (rd_core (a := a) h hS h0 hs hw).1.err.1
  have u : f_X11_read a s way B = (if (f_X11_fails a s 0 way B).1 = 0 then f_X11_read_19 ((((1 : Int32) <<< (s &&& 31)).toInt - (0 : Int32).toInt).toNat + 1) a s 0 0 (f_X11_fails a s 0 way B).2 else (0, (f_X11_fails a s 0 way B).2)) := rfl
  rcases chk (a := a) (way := way) (w := false) h hS h0 hs (by rcases hw with rfl | rfl <;> rfl) (Or.inr hw) with ⟨c1, c2, c3, c4⟩ | ⟨c1, c2, c3, c4⟩
  · rw [show b2i false = 0 from rfl] at c2 c3
    refine absurd ?_ he
    rw [key, u, if_pos c2, g_X11_read_19 rfl, ← c3.err.1, h0]
  · unfold f_X2_read
    simp only [xb_l]
    rw [c1, if_pos rfl]
theorem RY.fetch {A B : St} (h : RY A B) (h0 : A 4 10 = 0) : RY (f_X6_fetch 1 A).2 (f_X11_fetch B).2 ∧ ((f_X6_fetch 1 A).2 4 10 = 0 → (f_X6_fetch 1 A).1 = (f_X11_fetch B).1 ∧ xrg 0 65535 (f_X6_fetch 1 A).1) ∧ (¬ (f_X6_fetch 1 A).2 4 10 = 0 → (f_X6_fetch 1 A).1 = 0) := by
  have epc := (h.2 h0).1 17 (by decide)
  obtain ⟨r1, r2⟩ := h.rd (a := A 2 17) (a' := B 15 17) (s := 1) (way := 3) (fun _ => epc) (by decide) (Or.inr rfl)
  have z := rd_z (a := A 2 17) (s := 1) (way := 3) h.1 (h.2 h0).sup h0 (by decide) (Or.inr rfl)
  have u : f_X11_fetch B = (if (f_X11_read (B 15 17) 1 3 B).2 14 20 = 0 then ((f_X11_read (B 15 17) 1 3 B).1, xup (f_X11_read (B 15 17) 1 3 B).2 15 17 ((f_X11_read (B 15 17) 1 3 B).2 15 17 + 2)) else ((f_X11_read (B 15 17) 1 3 B).1, xup (f_X11_read (B 15 17) 1 3 B).2 15 17 ((f_X11_read (B 15 17) 1 3 B).2 15 17))) := rfl
  rw [fetchC1, u]
  generalize f_X2_read (A 2 17) 1 3 A = q at r1 r2 z ⊢
  generalize f_X11_read (B 15 17) 1 3 B = q' at r1 r2 ⊢
  by_cases e : q.2 4 10 = 0
  · have e20 : q'.2 14 20 = 0 := r1.1.err.1.symm.trans e
    rw [if_pos e20]
    refine ⟨r1.setr (by decide) (fun x => by rw [(r1.2 x).1 17 (by decide)]), fun _ => ⟨(r2 e).2.1, (r2 e).2.2.2 rfl⟩, fun x => ?_⟩
    dsimp only at x
    rw [xo4 rfl] at x
    exact absurd e x
  · have e20 : ¬ q'.2 14 20 = 0 := fun x => e (r1.1.err.1.trans x)
    rw [if_neg e20]
    refine ⟨r1.setr (by decide) (fun x => absurd x e), fun x => ?_, fun _ => z e⟩
    dsimp only at x
    rw [xo4 rfl] at x
    exact absurd x e
def INS (A : St) (p q : Int32 × St) : Prop := p.1 = q.1 ∧ RB p.2 q.2 ∧ GY p.2 q.2 ∧ CN p.2 q.2 ∧ p.2 8 7 = q.2 14 5 ∧ (p.2 8 7 = 0 → p.2 4 10 = 0) ∧ p.2 8 8 = q.2 14 6 ∧ p.2 8 11 = q.2 14 19 ∧ p.2 8 9 = A 8 9 ∧ p.2 8 10 = A 8 10
/-- an instruction undone, its exception worked off -/
theorem flt {A0 B0 A B : St} {k : Nat} (hk : k = 2 ∨ k = 3 ∨ k = 4 ∨ k = 8 ∨ k = 10 ∨ k = 11) (hb : RB A B) (c3 : ∀ j, j < 19 → A 3 j = A0 2 j) (e16 : ∀ j, j < 18 → B 16 j = B0 15 j) (e18 : B 16 18 = B0 14 2) (hg : GY A0 B0) (h11 : A 8 11 = B 14 19) (hc : CN A B) (h7 : A 8 7 = 0) (h5 : B 14 5 = 0) (h8 : A 8 8 = B 14 6) (hkz : k < 4 → A 4 10 = nI k) : INS A (nI k, f_X7_workOff (nI k) (f_X8_takeBack A)) (nI k, f_X11_work (nI k) (B0 15 17) (f_X11_back__16 B)) := by
  have b := back16 (M := B)
  have fb : ∀ {p j : Nat}, xno2 p j [(14, some 2), (15, none)] = true → (f_X11_back__16 B) p j = B p j := fun hp => g_X11_back__16 hp
  have a2 : ∀ j, j < 19 → (f_X8_takeBack A) 2 j = A0 2 j := fun j hj => by
    show xcp A 3 2 2 j = _
    rw [xcp_at hj]; exact c3 j hj
  have fa : ∀ {p : Nat}, p ≠ 2 → (f_X8_takeBack A) p = A p := fun hp => by
    show xcp A 3 2 _ = _
    rw [xcp_other hp]
  have gy : GY (f_X8_takeBack A) (f_X11_back__16 B) := by
    refine ⟨fun j hj => ?_, ?_, ?_⟩
    · rw [a2 j (by omega), b.1 j hj, e16 j hj]; exact hg.1 j hj
    · rw [a2 18 (by decide), b.2, e18]; exact hg.2.1
    · rw [a2 18 (by decide)]; exact hg.2.2
  have rb : RB (f_X8_takeBack A) (f_X11_back__16 B) := hb.cg (fun p hp => fa (xnot_at hp rfl)) (fun p k hp => fb (x2_sub hp rfl))
  have pc : (f_X11_back__16 B) 15 17 = B0 15 17 := by rw [b.1 17 (by decide), e16 17 (by decide)]
  have w := wo (A := f_X8_takeBack A) (B := f_X11_back__16 B) (n := k) (by omega) (by omega) rb.s_clr gy (by rw [fa (by decide), fb rfl]; exact h11) (fun x => by
    have e := hb.err.2 (by rw [hkz x]; exact nq_0 (by omega) (by omega))
    rw [fa (by decide), fb rfl, fb rfl]
    exact ⟨e.1, e.2.1, e.2.2.2⟩) (hc.cg (fun j => by rw [fa (by decide)]) (fun j => fb rfl)) (by rw [fa (by decide)]; exact h7) (by rw [fb rfl]; exact h5)
  rw [pc] at w
  obtain ⟨w1, w2, w3, w4, w5, w6⟩ := w
  refine ⟨rfl, w1, w2, w3, w4, w5, ?_, ?_, ?_, ?_⟩
  · dsimp only
    rw [w6 8 (by decide), fa (by decide), g_X11_work rfl, fb rfl]; exact h8
  · dsimp only
    rw [w6 11 (by decide), fa (by decide), g_X11_work rfl, fb rfl]; exact h11
  · dsimp only
    rw [w6 9 (by decide), fa (by decide)]
  · dsimp only
    rw [w6 10 (by decide), fa (by decide)]
theorem endF {M : St} {k : Nat} (hk : k = 2 ∨ k = 3 ∨ k = 4 ∨ k = 8 ∨ k = 10 ∨ k = 11) (h : (¬ M 4 10 = 0 ∧ M 4 10 = nI k) ∨ (M 4 10 = 0 ∧ M 12 6 = nI k)) : f_X7_end M = (nI k, f_X7_workOff (nI k) (f_X8_takeBack M)) := by
  have z : ¬ f_X7_isOfInstruction (nI k) = 0 := by rcases hk with rfl | rfl | rfl | rfl | rfl | rfl <;> decide
  unfold f_X7_end f_X7_end_27
  rcases h with ⟨h1, h2⟩ | ⟨h1, h2⟩
  · rw [if_neg h1, h2, if_neg z]
    simp only [xb_l]
  · rw [if_pos h1, h2, if_neg z]
    simp only [xb_l]
theorem ins162 {x1 x2 s0 : Int32} {B : St} (h : ¬ s0 = 0) : f_X11_instruct_162 x1 x2 s0 B = (s0, f_X11_work s0 x2 (f_X11_back__16 B)) := by
  unfold f_X11_instruct_162
  rw [if_neg h]
  simp only [xb_l]
/-- the end of an instruction that was carried out: stopping, tracing -/
theorem end81 {A B : St} {n : Nat} {x1 s0 : Int32} (hn : n < 48) (hb : RB A B) (hg : GY A B) (hc : CN A B) (h7 : A 8 7 = B 14 5) (h70 : A 8 7 = 0 → A 4 10 = 0) (h11 : A 8 11 = B 14 19) (h12 : A 8 12 = x1) (h6 : B 14 6 = s0) (h23 : B 14 23 = nI n) (hn0 : n = 0 → A 8 7 = 0) : INS A (f_X7_end_81 (nI n) s0 A) (f_X11_instruct_229 x1 B) := by
  have s1 : RB (xup A 8 8 s0) B := hb.cg (fun p hp => xup_other (xnot_at hp rfl)) (fun _ _ _ => rfl)
  have g1 : GY (xup A 8 8 s0) B := hg.cg (xup_other (by decide)) (fun _ => rfl) rfl
  have k1 : CN (xup A 8 8 s0) B := hc.cg (fun j => xo4 rfl) (fun _ => rfl)
  have e23 : ∀ (v : Int32) (M : St), M 14 23 = nI n → f_X11_instruct_253 v M = (if nI n = 0 then (if v = 0 then (0, M) else (9, M)) else (nI n, M)) := fun v M h => by
    unfold f_X11_instruct_253
    rw [h]
  have pl : INS A (nI n, xup A 8 8 s0) (nI n, B) := ⟨rfl, s1, g1, k1, by dsimp only; rw [xo4 rfl]; exact h7, fun x => by dsimp only at x ⊢; rw [xo4 rfl] at x ⊢; exact h70 x, by dsimp only; rw [xs4, h6], by dsimp only; rw [xo4 rfl]; exact h11, by dsimp only; rw [xo4 rfl], by dsimp only; rw [xo4 rfl]⟩
  unfold f_X7_end_81 f_X11_instruct_229
  simp only [xb_l]
  rw [h12]
  by_cases cx : x1 = 0
  · rw [if_pos cx, if_pos cx, e23 x1 B h23, cx, if_pos (show (0 : Int32) = 0 from rfl)]
    by_cases n0 : nI n = 0
    · rw [if_pos n0]
      rw [n0] at pl ⊢
      exact pl
    · rw [if_neg n0]
      exact pl
  · rw [if_neg cx, if_neg cx]
    by_cases c7 : A 8 7 = 0
    · have c5 : B 14 5 = 0 := h7.symm.trans c7
      rw [if_pos c7, if_pos c5]
      have w := wo (A := xup A 8 8 s0) (B := B) (n := 9) (by decide) (by decide) s1.s_clr g1 (by rw [xo4 rfl]; exact h11) (fun x => absurd x (by decide)) k1 (by rw [xo4 rfl]; exact c7) c5
      obtain ⟨w1, w2, w3, w4, w5, w6⟩ := w
      have q23 : (f_X11_work 9 (B 15 17) B) 14 23 = nI n := (g_X11_work rfl).trans h23
      have fin : ∀ v, INS A (v, f_X7_workOff 9 (xup A 8 8 s0)) (v, f_X11_work 9 (B 15 17) B) := fun v => ⟨rfl, w1, w2, w3, w4, w5, by
        dsimp only
        rw [show f_X7_workOff 9 (xup A 8 8 s0) 8 8 = (xup A 8 8 s0) 8 8 from w6 8 (by decide), xs4, g_X11_work rfl, h6], by
        dsimp only
        rw [show f_X7_workOff 9 (xup A 8 8 s0) 8 11 = (xup A 8 8 s0) 8 11 from w6 11 (by decide), xo4 rfl, g_X11_work rfl]; exact h11, by
        dsimp only
        rw [show f_X7_workOff 9 (xup A 8 8 s0) 8 9 = (xup A 8 8 s0) 8 9 from w6 9 (by decide), xo4 rfl], by
        dsimp only
        rw [show f_X7_workOff 9 (xup A 8 8 s0) 8 10 = (xup A 8 8 s0) 8 10 from w6 10 (by decide), xo4 rfl]⟩
      rw [e23 x1 _ q23, if_neg cx]
      by_cases n0 : nI n = 0
      · rw [if_pos n0, if_pos n0]
        exact fin 9
      · rw [if_neg n0, if_neg n0]
        exact fin (nI n)
    · have c5 : ¬ B 14 5 = 0 := fun x => c7 (h7.trans x)
      rw [if_neg c7, if_neg c5, e23 x1 B h23, if_neg cx]
      have n0 : ¬ nI n = 0 := fun x => by
        have : n = 0 := (nI_eq (a := n) (b := 0) (by omega) (by decide)).mp x
        exact c7 (hn0 this)
      rw [if_neg n0]
      exact pl
theorem endN {A B : St} {n : Nat} {x1 x2 : Int32} (hn : n = 0 ∨ n = 5 ∨ n = 6 ∨ n = 7 ∨ (32 ≤ n ∧ n < 48)) (hb : RB A B) (h0 : A 4 10 = 0) (hg : GY A B) (t : A 12 6 = nI n) (t' : B 14 23 = nI n) (sp : A 12 7 = B 14 24) (h12 : A 8 12 = x1) (hc : CN A B) (h7 : A 8 7 = 0) (h5 : B 14 5 = 0) (h11 : A 8 11 = B 14 19) : INS A (f_X7_end A) (f_X11_instruct_146 x1 x2 0 B) := by
  have e20 : B 14 20 = 0 := hb.err.1.symm.trans h0
  have z : f_X7_isOfInstruction (nI n) = 0 := by
    unfold f_X7_isOfInstruction f_X7_isOfGroupZero
    rw [if_neg (nq_2 (n := n) (by omega) (by omega)), if_neg (nq_3 (n := n) (by omega) (by omega)), if_pos (show (0 : Int32) = 0 from rfl), if_neg (nq_4 (n := n) (by omega) (by omega)), if_neg (nq_8 (n := n) (by omega) (by omega)), if_neg (nq_10 (n := n) (by omega) (by omega)), if_neg (nq_11 (n := n) (by omega) (by omega))]
  have c58 : ∀ (A' : St), A' 12 7 = B 14 24 → A' 8 12 = x1 → f_X7_end_58 (nI n) A' = f_X7_end_81 (nI n) (if B 14 24 = 0 then 0 else if x1 = 0 then 1 else 0) A' := by
    intro A' h1 h2
    unfold f_X7_end_58 f_X7_end_80
    rw [h1, h2]
    by_cases c1 : B 14 24 = 0
    · rw [if_pos c1, if_pos c1]
    · rw [if_neg c1, if_neg c1]
      by_cases c2 : x1 = 0
      · rw [if_pos c2, if_pos c2]
      · rw [if_neg c2, if_neg c2]
  have m204 : f_X11_instruct_146 x1 x2 0 B = f_X11_instruct_204 x1 (if B 14 24 = 0 then 0 else if x1 = 0 then 1 else 0) B := by
    unfold f_X11_instruct_146 f_X11_instruct_162 f_X11_instruct_203
    rw [if_pos e20, if_pos (show (0 : Int32) = 0 from rfl)]
    by_cases c1 : B 14 24 = 0
    · rw [if_pos c1, if_pos c1]
    · rw [if_neg c1, if_neg c1]
      by_cases c2 : x1 = 0
      · rw [if_pos c2, if_pos c2]
      · rw [if_neg c2, if_neg c2]
  rw [m204]
  unfold f_X7_end f_X7_end_27 f_X11_instruct_204
  rw [if_pos h0, t, t', if_pos z]
  generalize hs0 : (if B 14 24 = 0 then (0 : Int32) else if x1 = 0 then 1 else 0) = s0
  rw [hs0] at c58
  have b6 : RB A (xup B 14 6 s0) := hb.cg (fun _ _ => rfl) (fun p k hp => xup_o2 (x2_field 14 6 hp rfl))
  have g6 : GY A (xup B 14 6 s0) := hg.cg rfl (fun j => xo4 rfl) (xo4 rfl)
  have k6 : CN A (xup B 14 6 s0) := hc.cg (fun _ => rfl) (fun j => xo4 rfl)
  by_cases n0 : nI n = 0
  · rw [if_pos n0, if_pos n0, c58 A sp h12]
    exact end81 (by omega) b6 g6 k6 (by rw [xo4 rfl, h7, h5]) (fun _ => h0) (by rw [xo4 rfl]; exact h11) h12 xs4 (by rw [xo4 rfl]; exact t') (fun _ => h7)
  · have nn : n ≠ 0 := fun x => n0 (by rw [x]; rfl)
    rw [if_neg n0, if_neg n0]
    simp only [xb_l]
    have w := wo (A := A) (B := xup B 14 6 s0) (n := n) (by omega) (by omega) b6.s_clr g6 (by rw [xo4 rfl]; exact h11) (fun x => absurd x (by omega)) k6 h7 (by rw [xo4 rfl]; exact h5)
    rw [xo4 rfl] at w
    have f12 : (f_X7_workOff (nI n) A) 12 = A 12 := fr_X7_workOff rfl
    have g23 : (f_X11_work (nI n) (B 15 17) (xup B 14 6 s0)) 14 23 = nI n := by rw [g_X11_work rfl, xo4 rfl]; exact t'
    have g6' : (f_X11_work (nI n) (B 15 17) (xup B 14 6 s0)) 14 6 = s0 := by rw [g_X11_work rfl, xs4]
    have g19 : (f_X11_work (nI n) (B 15 17) (xup B 14 6 s0)) 14 19 = B 14 19 := by rw [g_X11_work rfl, xo4 rfl]
    generalize f_X7_workOff (nI n) A = A1 at w f12 ⊢
    generalize f_X11_work (nI n) (B 15 17) (xup B 14 6 s0) = B1 at w g23 g6' g19 ⊢
    obtain ⟨w1, w2, w3, w4, w5, w6⟩ := w
    rw [c58 A1 (by rw [f12]; exact sp) (by rw [w6 12 (by decide)]; exact h12)]
    have r := end81 (A := A1) (B := B1) (n := n) (x1 := x1) (s0 := s0) (by omega) w1 w2 w3 w4 w5 (by rw [w6 11 (by decide), g19]; exact h11) (by rw [w6 12 (by decide)]; exact h12) g6' g23 (fun x => absurd x nn)
    obtain ⟨r1, r2, r3, r4, r5, r6, r7, r8, r9, r10⟩ := r
    exact ⟨r1, r2, r3, r4, r5, r6, r7, r8, by rw [r9, w6 9 (by decide)], by rw [r10, w6 10 (by decide)]⟩
