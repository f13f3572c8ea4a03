/-! run -/
theorem runC_u (n : Nat) (x1 x2 : Int32) (M : St) : f_X10_run_20 (n + 1) x1 x2 M = (if x1 ≤ x2 then (0, x2, M) else (if (M 8 7) = 0 then f_X10_run_20 n x1 (x2 + 1) (f_X7_advance M).2 else (0, x2, M))) := rfl
theorem runM_u (n : Nat) (x1 x2 : Int32) (M : St) : f_X11_run_21 (n + 1) x1 x2 M = (if (M 14 0) = 0 then (if x1 ≤ x2 then (x2, M) else (if (M 14 5) = 0 then f_X11_run_21 n x1 (x2 + 1) (f_X11_stepped M).2 else (x2, M))) else (x2, M)) := rfl
theorem runL {x1 : Int32} : ∀ (n : Nat) (x2 : Int32) (A B : St), RM A B → B 14 0 = 0 → (f_X10_run_20 n x1 x2 A).1 = 0 ∧ (f_X10_run_20 n x1 x2 A).2.1 = (f_X11_run_21 n x1 x2 B).1 ∧ RM (f_X10_run_20 n x1 x2 A).2.2 (f_X11_run_21 n x1 x2 B).2 ∧ (f_X11_run_21 n x1 x2 B).2 14 0 = 0
  | 0, x2, A, B, h, h0 => ⟨rfl, rfl, h, h0⟩
  | n + 1, x2, A, B, h, h0 => by
    have h7 := h.2.2.2.1
    rw [runC_u, runM_u, if_pos h0, ← h7]
    by_cases c : x1 ≤ x2
    · rw [if_pos c, if_pos c]
      exact ⟨rfl, rfl, h, h0⟩
    · rw [if_neg c, if_neg c]
      by_cases c7 : A 8 7 = 0
      · rw [if_pos c7, if_pos c7]
        exact runL n (x2 + 1) _ _ (stepR h c7).2 ((g_X11_stepped rfl).trans h0)
      · rw [if_neg c7, if_neg c7]
        exact ⟨rfl, rfl, h, h0⟩
theorem runR {A B : St} {a : Int32} (h : RM A B) : (f_X10_run a A).1 = (f_X11_run a B).2 14 0 ∧ ((f_X10_run a A).1 = 0 → (f_X10_run a A).2.1 = (f_X11_run a B).1) ∧ ((f_X10_run a A).1 = 0 ∨ (f_X10_run a A).1 = 1) ∧ RM (f_X10_run a A).2.2 (f_X11_run a B).2 := by
  have bad : ∀ k, f_X11_run_21 (k + 1) a 0 (xup B 14 0 1) = (0, xup B 14 0 1) := fun k => by
    rw [runM_u, if_neg (by rw [xs4]; decide)]
  unfold f_X10_run f_X11_run f_X11_run_11 f_X11_run_16
  by_cases c1 : a < 0
  · rw [if_pos c1, if_pos c1, bad]
    exact ⟨(show (1 : Int32) = (xup B 14 0 1) 14 0 from xs4.symm), fun x => absurd (show (1 : Int32) = 0 from x) (by decide), Or.inr rfl, h.thr 1⟩
  · rw [if_neg c1, if_neg c1]
    by_cases c2 : a ≤ 50
    · rw [if_pos c2, if_pos c2]
      obtain ⟨r1, r2, r3, r4⟩ := runL (x1 := a) ((a.toInt - (0 : Int32).toInt).toNat + 1) 0 A (xup B 14 0 0) (h.thr 0) xs4
      exact ⟨r1.trans r4.symm, fun _ => r2, Or.inl r1, r3⟩
    · rw [if_neg c2, if_neg c2, bad]
      exact ⟨(show (1 : Int32) = (xup B 14 0 1) 14 0 from xs4.symm), fun x => absurd (show (1 : Int32) = 0 from x) (by decide), Or.inr rfl, h.thr 1⟩
