/-! working an exception off -/
def CN (A B : St) : Prop := (∀ j, j < 48 → A 9 j = B 21 j) ∧ ∀ j, 48 ≤ j → j < 64 → B 21 j = 0
theorem CN.cg {A B A' B' : St} (h : CN A B) (hA : ∀ j, A' 9 j = A 9 j) (hB : ∀ j, B' 21 j = B 21 j) : CN A' B' := ⟨fun j hj => by rw [hA, hB]; exact h.1 j hj, fun j h1 h2 => by rw [hB]; exact h.2 j h1 h2⟩
theorem CN.up {A B A' B' : St} {n : Nat} (h : CN A B) (hn : n < 48) (hA : ∀ j, A' 9 j = (xup A 9 n (A 9 n + 1)) 9 j) (hB : ∀ j, B' 21 j = (xup B 21 n (B 21 n + 1)) 21 j) : CN A' B' := by
  refine ⟨fun j hj => ?_, fun j h1 h2 => ?_⟩
  · rw [hA, hB, xup_ite, xup_ite, h.1 j hj, h.1 n hn]
    by_cases c : j = n
    · rw [if_pos ⟨rfl, c⟩, if_pos ⟨rfl, c⟩]
    · rw [if_neg (fun x => c x.2), if_neg (fun x => c x.2)]
  · rw [hB, xup_ite, if_neg (by omega)]; exact h.2 j h1 h2
def WO (A A' B' : St) : Prop := RB A' B' ∧ GY A' B' ∧ CN A' B' ∧ A' 8 7 = B' 14 5 ∧ (A' 8 7 = 0 → A' 4 10 = 0) ∧ (∀ j, j ≠ 7 → A' 8 j = A 8 j)
theorem wk_u (n : Nat) (x2 x3 x4 : Int32) (M : St) : f_X11_work_5 (n + 1) x2 x3 x4 M = (if 3 ≤ x4 then M else (if x3 = 0 then M else f_X11_work_5 n x2 (f_X11_tried x3 x2 M).1 (x4 + 1) (f_X11_tried x3 x2 M).2)) := rfl
theorem wo {A B : St} {n : Nat} (hn2 : 2 ≤ n) (hn : n < 48) (hb : RB (xup A 4 10 0) (xup B 14 20 0)) (hg : GY A B) (h11 : A 8 11 = B 14 19) (hz : n < 4 → A 4 11 = B 14 21 ∧ A 4 12 = B 14 22 ∧ (A 4 12 = 0 ∨ A 4 12 = 1 ∨ A 4 12 = 3)) (hc : CN A B) (h7 : A 8 7 = 0) (h5 : B 14 5 = 0) : WO A (f_X7_workOff (nI n) A) (f_X11_work (nI n) (B 15 17) B) := by
  have e := en hn2 hn hb hg h11 hz
  have f8 : (f_X7_enters (nI n) A).2 8 = A 8 := fr_X7_enters rfl
  have g19 : (f_X11_tried (nI n) (B 15 17) B).2 14 19 = B 14 19 := g_X11_tried rfl
  have n0 : ¬ nI n = 0 := nq_0 (by omega) (by omega)
  unfold f_X7_workOff f_X7_workOff_31 f_X7_workOff_36 f_X11_work
  rw [show ((3 : Int32).toInt - (0 : Int32).toInt).toNat + 1 = 4 by decide, wk_u, if_neg (show ¬ (3 : Int32) ≤ 0 by decide), if_neg n0]
  simp only [xb_l]
  generalize f_X7_enters (nI n) A = p at e f8 ⊢
  generalize f_X11_tried (nI n) (B 15 17) B = q at e g19 ⊢
  obtain ⟨rb, gy, ⟨e0, p1, q1, cA, cB, q5⟩ | ⟨e0, p0, cA, cB, q15, h4, hlt⟩⟩ := e
  · rw [p1, q1, if_neg (show ¬ (1 : Int32) = 0 by decide), wk_u, if_neg (show ¬ (3 : Int32) ≤ 0 + 1 by decide), if_pos (show (0 : Int32) = 0 from rfl)]
    exact ⟨rb, gy, hc.up hn cA cB, by rw [f8, h7, q5, h5], fun _ => e0, fun j _ => by rw [f8]⟩
  · rw [p0, if_pos (show (0 : Int32) = 0 from rfl)]
    have er := rb.err.2 e0
    by_cases c : 4 ≤ n
    · obtain ⟨q1, q5⟩ := h4 c
      have z : f_X7_isOfGroupZero (nI n) = 0 := by
        unfold f_X7_isOfGroupZero
        rw [if_neg (nq_2 (n := n) (by omega) (by omega)), if_neg (nq_3 (n := n) (by omega) (by omega))]
      obtain ⟨k, hk, ek⟩ : ∃ k : Nat, (k = 2 ∨ k = 3) ∧ p.2 4 10 = nI k := by
        rcases er.2.2.1 with x | x
        · exact ⟨2, Or.inl rfl, x⟩
        · exact ⟨3, Or.inr rfl, x⟩
      rw [if_pos z, q1, ek]
      have e2 := en (A := p.2) (B := q.2) (n := k) (by omega) (by omega) rb.s_clr gy (by rw [f8, g19]; exact h11) (fun _ => ⟨er.1, er.2.1, er.2.2.2⟩)
      have f82 : (f_X7_enters (nI k) p.2).2 8 = A 8 := (fr_X7_enters rfl).trans f8
      rw [q15 17 (by decide)] at e2
      rw [wk_u, if_neg (show ¬ (3 : Int32) ≤ 0 + 1 by decide), if_neg (nq_0 (n := k) (by omega) (by omega))]
      generalize f_X7_enters (nI k) p.2 = p2 at e2 f82 ⊢
      generalize f_X11_tried (nI k) (B 15 17) q.2 = q2 at e2 ⊢
      have hc2 : CN p.2 q.2 := hc.cg cA cB
      obtain ⟨rb2, gy2, ⟨e02, p12, q12, cA2, cB2, q52⟩ | ⟨e02, p02, cA2, cB2, q152, h42, hlt2⟩⟩ := e2
      · rw [p12, q12, if_neg (show ¬ (1 : Int32) = 0 by decide), wk_u, if_neg (show ¬ (3 : Int32) ≤ 0 + 1 + 1 by decide), if_pos (show (0 : Int32) = 0 from rfl)]
        refine ⟨rb2.cg (fun p hp => xup_other (xnot_at hp rfl)) (fun _ _ _ => rfl), gy2.cg (xup_other (by decide)) (fun _ => rfl) rfl, (hc2.up (by omega) cA2 cB2).cg (fun j => xo4 rfl) (fun _ => rfl), ?_, fun _ => ?_, fun j hj => ?_⟩
        · rw [xs4, q52, q5]
        · rw [xo4 rfl]; exact e02
        · rw [xup_o2 (Or.inr hj), f82]
      · obtain ⟨q12, q52⟩ := hlt2 (by omega)
        rw [p02, q12, if_pos (show (0 : Int32) = 0 from rfl), wk_u, if_neg (show ¬ (3 : Int32) ≤ 0 + 1 + 1 by decide), if_pos (show (0 : Int32) = 0 from rfl)]
        refine ⟨rb2.cg (fun p hp => xup_other (xnot_at hp rfl)) (fun _ _ _ => rfl), gy2.cg (xup_other (by decide)) (fun _ => rfl) rfl, (hc2.cg cA2 cB2).cg (fun j => xo4 rfl) (fun _ => rfl), ?_, fun x => ?_, fun j hj => ?_⟩
        · rw [xs4, q52]
        · rw [xs4] at x; exact absurd x (by decide)
        · rw [xup_o2 (Or.inr hj), f82]
    · obtain ⟨q1, q5⟩ := hlt (by omega)
      have z : ¬ f_X7_isOfGroupZero (nI n) = 0 := by
        rcases (show n = 2 ∨ n = 3 by omega) with rfl | rfl <;> decide
      rw [if_neg z, q1, wk_u, if_neg (show ¬ (3 : Int32) ≤ 0 + 1 by decide), if_pos (show (0 : Int32) = 0 from rfl)]
      refine ⟨rb.cg (fun p hp => xup_other (xnot_at hp rfl)) (fun _ _ _ => rfl), gy.cg (xup_other (by decide)) (fun _ => rfl) rfl, (hc.cg cA cB).cg (fun j => xo4 rfl) (fun _ => rfl), ?_, fun x => ?_, fun j hj => ?_⟩
      · rw [xs4, q5]
      · rw [xs4] at x; exact absurd x (by decide)
      · rw [xup_o2 (Or.inr hj), f8]
