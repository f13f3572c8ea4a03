/-! BOTH MACHINES IN ONE STORE -/
theorem RB.ext {A A' B B' : St} (hA : ∀ p, p < 14 → A' p = A p) (hB : ∀ p, 14 ≤ p → B' p = B p) (h : RB A B) : RB A' B' := by
  unfold RB RQ RSd REr at h ⊢
  rw [hA 4 (by decide), hA 5 (by decide), hA 6 (by decide), hA 7 (by decide), hB 14 (by decide), hB 18 (by decide), hB 19 (by decide), hB 20 (by decide)]
  exact h
theorem RM.ext {A A' B B' : St} (hA : ∀ p, p < 14 → A' p = A p) (hB : ∀ p, 14 ≤ p → B' p = B p) (h : RM A B) : RM A' B' := by
  unfold RM at h ⊢
  obtain ⟨h1, h2⟩ := h
  have k1 : RB (xup A' 4 10 0) (xup B' 14 20 0) := RB.ext (fun p hp => funext fun j => by rw [xup_ite, xup_ite, hA p hp]) (fun p hp => funext fun j => by rw [xup_ite, xup_ite, hB p hp]) h1
  refine ⟨k1, ?_⟩
  unfold GY CN at h2 ⊢
  rw [hA 2 (by decide), hA 8 (by decide), hA 9 (by decide), hA 4 (by decide), hB 14 (by decide), hB 15 (by decide), hB 21 (by decide)]
  exact h2
theorem Inv.hi {M M' : St} (h : Inv INVM M) (hp : ∀ p, 14 ≤ p → M' p = M p) : Inv INVM M' := by
  intro q hq
  have h1 : 14 ≤ q.1 := by
    have := List.all_eq_true.mp (show INVM.all (fun q => decide (14 ≤ q.1)) = true by decide) q hq
    simpa using this
  rw [hp _ h1]
  exact h q hq
theorem InvK.lo {M M' : St} (h : InvK INVC M) (hp : ∀ p, p < 14 → M' p = M p) : InvK INVC M' := by
  refine ⟨fun q hq => ?_, fun j => ?_, fun j => ?_⟩
  · have h1 : q.1 < 14 := by
      have := List.all_eq_true.mp (show INVC.all (fun q => decide (q.1 < 14)) = true by decide) q hq
      simpa using this
    rw [hp _ h1]
    exact h.1 q hq
  · rw [hp 5 (by decide)]
    exact h.2.1 j
  · rw [hp 6 (by decide)]
    exact h.2.2 j
theorem xn_hi {p : Nat} {L : List Nat} (hp : 14 ≤ p) (hL : L.all (fun q => decide (q < 14)) = true) : xnot p L = true := by
  apply List.all_eq_true.mpr
  intro q hq
  have := List.all_eq_true.mp hL q hq
  simp only [decide_eq_true_eq] at this ⊢
  omega
theorem xn_lo {p : Nat} {L : List Nat} (hp : p < 14) (hL : L.all (fun q => decide (14 ≤ q)) = true) : xnot p L = true := by
  apply List.all_eq_true.mpr
  intro q hq
  have := List.all_eq_true.mp hL q hq
  simp only [decide_eq_true_eq] at this ⊢
  omega
/-! the class's side leaves the reference's places -/
theorem hi_put {a w : Int32} {M : St} {p : Nat} (hp : 14 ≤ p) : (f_X10_put a w M).2 p = M p := by
  unfold f_X10_put
  by_cases c : f_X10_isPlaceOfWords a 1 = 0
  · rw [if_pos c]
  · rw [if_neg c]
    exact fr_X2_store (xn_hi hp (by decide))
theorem hi_fence {a : Int32} {M : St} {p : Nat} (hp : 14 ≤ p) : (f_X10_fence a M).2 p = M p := by
  unfold f_X10_fence
  by_cases c1 : a < 0
  · rw [if_pos c1]
  · rw [if_neg c1]
    by_cases c2 : a ≤ 2048
    · rw [if_pos c2]
      exact xup_other (by omega)
    · rw [if_neg c2]
theorem hi_level {a : Int32} {M : St} {p : Nat} (hp : 14 ≤ p) : (f_X10_level a M).2 p = M p := by
  unfold f_X10_level
  by_cases c1 : a < 0
  · rw [if_pos c1]
  · rw [if_neg c1]
    by_cases c2 : a ≤ 7
    · rw [if_pos c2]
      exact xup_other (by omega)
    · rw [if_neg c2]
theorem hi_get {a : Int32} {M : St} {p : Nat} (_ : 14 ≤ p) : (f_X10_get a M).2.2 p = M p := by rw [z_get]
theorem hi_device {a : Int32} {M : St} {p : Nat} (_ : 14 ≤ p) : (f_X10_device a M).2.2 p = M p := by rw [z_device]
theorem hi_set {a w : Int32} {M : St} {p : Nat} (hp : 14 ≤ p) : (f_X10_set a w M).2 p = M p := by
  unfold f_X10_set
  by_cases c1 : a < 0
  · rw [if_pos c1]
  · rw [if_neg c1]
    by_cases c2 : a < 19
    · rw [if_pos c2]
      by_cases c3 : a = 18
      · rw [if_pos c3]
        exact fr_X8_changeStatus (xn_hi hp (by decide))
      · rw [if_neg c3]
        exact xup_other (by omega)
    · rw [if_neg c2]
theorem hi_step {M : St} {p : Nat} (hp : 14 ≤ p) : (f_X10_step M).2.2 p = M p := by
  unfold f_X10_step
  by_cases c : M 8 7 = 0
  · rw [if_pos c]
    exact fr_X7_advance (xn_hi hp (by decide))
  · rw [if_neg c]
theorem hi_runL {x1 : Int32} {p : Nat} (hp : 14 ≤ p) : ∀ (n : Nat) (x2 : Int32) (M : St), (f_X10_run_20 n x1 x2 M).2.2 p = M p
  | 0, x2, M => rfl
  | n + 1, x2, M => by
    rw [runC_u]
    by_cases c : x1 ≤ x2
    · rw [if_pos c]
    · rw [if_neg c]
      by_cases c7 : M 8 7 = 0
      · rw [if_pos c7, hi_runL hp n]
        exact fr_X7_advance (xn_hi hp (by decide))
      · rw [if_neg c7]
theorem hi_run {a : Int32} {M : St} {p : Nat} (hp : 14 ≤ p) : (f_X10_run a M).2.2 p = M p := by
  unfold f_X10_run
  by_cases c1 : a < 0
  · rw [if_pos c1]
  · rw [if_neg c1]
    by_cases c2 : a ≤ 50
    · rw [if_pos c2]
      exact hi_runL hp _ _ _
    · rw [if_neg c2]
theorem hi_fillL {x1 x2 : Int32} {x3 : Int64} {p : Nat} (hp : 14 ≤ p) : ∀ (n : Nat) (x5 : Int32) (M : St), (f_X10_fill_37 n x1 x2 x3 x5 M).2 p = M p
  | 0, x5, M => rfl
  | n + 1, x5, M => by
    rw [fillC_u]
    by_cases c : x2 ≤ x5
    · rw [if_pos c]
    · rw [if_neg c, hi_fillL hp n]
      exact fr_X2_store (xn_hi hp (by decide))
theorem hi_fill {a n : Int32} {v : Int64} {M : St} {p : Nat} (hp : 14 ≤ p) : (f_X10_fill a n v M).2 p = M p := by
  unfold f_X10_fill
  by_cases c1 : n < 1
  · rw [if_pos c1]
  · rw [if_neg c1]
    by_cases c2 : n ≤ 4
    · rw [if_pos c2]
      by_cases c3 : f_X10_isPlaceOfWords a n = 0
      · rw [if_pos c3]
      · rw [if_neg c3]
        exact hi_fillL hp _ _ _
    · rw [if_neg c2]
theorem lo_fillL {x1 x2 : Int32} {x3 : Int64} {p : Nat} (hp : p < 14) : ∀ (n : Nat) (x5 : Int32) (M : St), (f_X11_fill_55 n x1 x2 x3 x5 M) p = M p
  | 0, x5, M => rfl
  | n + 1, x5, M => by
    rw [fillM_u]
    by_cases c : 2 * x2 ≤ x5
    · rw [if_pos c]
    · rw [if_neg c, lo_fillL hp n]
      exact xup_other (by omega)
theorem lo_fill {a n : Int32} {v : Int64} {M : St} {p : Nat} (hp : p < 14) : (f_X11_fill a n v M) p = M p := by
  have h0 : ∀ v, (xup M 14 0 v) p = M p := fun v => xup_other (by omega)
  unfold f_X11_fill
  repeat' split
  all_goals first | exact h0 _ | (rw [lo_fillL hp]; exact h0 _)
/-- what holds between the law's calls -/
def LI (M : St) : Prop := RM M M ∧ Inv INVM M ∧ InvK INVC M
/-- the class moves M to M1, the reference M1 to M2 -/
theorem LI.go {M M1 M2 : St} (h : LI M) (hK : InvK INVC M1) (hI : Inv INVM M2) (lo : ∀ p, p < 14 → M2 p = M1 p) (hR : RM M1 M2) : LI M2 :=
  ⟨RM.ext lo (fun _ _ => rfl) hR, hI, hK.lo lo⟩
theorem LI.mid {M M1 : St} (h : LI M) (hi : ∀ p, 14 ≤ p → M1 p = M p) : RM M M1 ∧ Inv INVM M1 := ⟨RM.ext (fun _ _ => rfl) hi h.1, h.2.1.hi hi⟩
/-! the first store -/
theorem MS_e (p j : Nat) : MS_4 p j = (if p = 14 ∧ j = 17 then -1 else if p = 14 ∧ j = 5 then 1 else if p = 14 ∧ j = 2 then 9984 else if p = 8 ∧ j = 7 then 1 else if p = 2 ∧ j = 18 then 9984 else 0) := by
  unfold MS_4 MS_3 MS_2 MS_1 MS_0 M0
  rw [xup_ite, xup_ite, xup_ite, xup_ite, xup_ite]
theorem xrg_0 {lo hi : Int} {x : Int32} (e : x = 0) (h1 : lo ≤ 0) (h2 : 0 ≤ hi) : xrg lo hi x := by
  subst e
  exact ⟨h1, h2⟩
theorem RM0 : RM MS_4 MS_4 := by
  refine ⟨⟨fun j _ => rfl, fun j => xrg_0 rfl (by decide) (by decide), rfl, xrg_0 rfl (by decide) (by decide), rfl, xrg_0 rfl (by decide) (by decide), rfl, xrg_0 rfl (by decide) (by decide), rfl, ⟨rfl, fun f c _ _ _ _ i _ => rfl⟩, xrg_0 rfl (by decide) (by decide), xrg_0 rfl (by decide) (by decide), fun j => xrg_0 rfl (by decide) (by decide), ⟨rfl, fun c _ _ i _ => rfl⟩, xrg_0 rfl (by decide) (by decide), ⟨rfl, fun h => absurd rfl h⟩⟩, ⟨fun j hj => ?_, rfl, rfl⟩, ⟨fun j _ => rfl, fun j _ _ => rfl⟩, rfl, fun _ => rfl, rfl, rfl, rfl, xrg_0 rfl (by decide) (by decide), ⟨fun h => absurd (show (0 : Int32) = 7 from h) (by decide), fun h => absurd (show (-1 : Int32) = 7 from h) (by decide)⟩⟩
  rw [MS_e, MS_e]
  have : ¬ j = 18 := by omega
  simp [this]
theorem LI0 : LI MS_4 := by
  refine ⟨RM0, fun q hq => ?_, fun q hq => ?_, fun j => xrg_0 rfl (by decide) (by decide), fun j => xrg_0 rfl (by decide) (by decide)⟩
  · have h : ∀ q ∈ INVM, q.2.2.1 ≤ (MS_4 q.1 q.2.1).toInt ∧ (MS_4 q.1 q.2.1).toInt ≤ q.2.2.2 := by decide +kernel
    exact h q hq
  · have h : ∀ q ∈ INVC, q.2.2.1 ≤ (MS_4 q.1 q.2.1).toInt ∧ (MS_4 q.1 q.2.1).toInt ≤ q.2.2.2 := by decide +kernel
    exact h q hq
