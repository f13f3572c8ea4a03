/-! frames: the places that a function leaves alone -/
def xnot (p : Nat) (L : List Nat) : Bool := L.all fun q => decide (p ≠ q)
theorem xnot_at {p q : Nat} {L : List Nat} (h : xnot p L = true) (hq : L.contains q = true) : p ≠ q := by
  have h1 := List.all_eq_true.mp h q (by simpa using hq)
  simpa using h1
theorem xnot_sub {p : Nat} {L L' : List Nat} (h : xnot p L = true) (hs : L'.all (fun q => L.contains q) = true) : xnot p L' = true := by
  refine List.all_eq_true.mpr fun q hq => ?_
  have h1 := List.all_eq_true.mp hs q hq
  have h2 := List.all_eq_true.mp h q (by simpa using h1)
  exact h2
theorem xcp_other {M : St} {a b p : Nat} (h : p ≠ b) : xcp M a b p = M p := va_up_ne _ _ h
theorem ite_p {α : Type} {c : Prop} [Decidable c] {A B : α × St} {p : Nat} {z : Nat → Int32} (h1 : c → A.2 p = z) (h2 : ¬ c → B.2 p = z) : (if c then A else B).2 p = z := by
  by_cases h : c
  · rw [if_pos h]; exact h1 h
  · rw [if_neg h]; exact h2 h
theorem ite_s {c : Prop} [Decidable c] {A B : St} {p : Nat} {z : Nat → Int32} (h1 : c → A p = z) (h2 : ¬ c → B p = z) : (if c then A else B) p = z := by
  by_cases h : c
  · rw [if_pos h]; exact h1 h
  · rw [if_neg h]; exact h2 h
theorem xb_pp {α β : Type} {x : α × St} {f : α × St → β × St} {p : Nat} {z : Nat → Int32} (h : x.2 p = z) (k : ∀ q : α × St, q.2 p = z → (f q).2 p = z) : (xb x f).2 p = z := k x h
theorem xb_ps {α : Type} {x : α × St} {f : α × St → St} {p : Nat} {z : Nat → Int32} (h : x.2 p = z) (k : ∀ q : α × St, q.2 p = z → (f q) p = z) : (xb x f) p = z := k x h
theorem xb_sp {β : Type} {x : St} {f : St → β × St} {p : Nat} {z : Nat → Int32} (h : x p = z) (k : ∀ q : St, q p = z → (f q).2 p = z) : (xb x f).2 p = z := k x h
theorem xb_ss {x : St} {f : St → St} {p : Nat} {z : Nat → Int32} (h : x p = z) (k : ∀ q : St, q p = z → (f q) p = z) : (xb x f) p = z := k x h
theorem xb_vp {α β : Type} {x : α} {f : α → β × St} {p : Nat} {z : Nat → Int32} (k : ∀ q : α, (f q).2 p = z) : (xb x f).2 p = z := k x
theorem xb_vs {α : Type} {x : α} {f : α → St} {p : Nat} {z : Nat → Int32} (k : ∀ q : α, (f q) p = z) : (xb x f) p = z := k x

theorem fr_X11_put {p : Nat} {a1 : Int32} {a2 : Int32} {M : St} (hp : xnot p [14, 18] = true) : (f_X11_put a1 a2 M) p = M p := by
  unfold f_X11_put
  exact (ite_s (fun _ => ((xup_other (xnot_at hp (by decide) : p ≠ 14)).trans rfl)) (fun _ => (ite_s (fun _ => ((xup_other (xnot_at hp (by decide) : p ≠ 14)).trans rfl)) (fun _ => (ite_s (fun _ => ((xup_other (xnot_at hp (by decide) : p ≠ 18)).trans ((xup_other (xnot_at hp (by decide) : p ≠ 18)).trans ((xup_other (xnot_at hp (by decide) : p ≠ 14)).trans rfl)))) (fun _ => ((xup_other (xnot_at hp (by decide) : p ≠ 14)).trans rfl)))))))
theorem fr_X11_fence {p : Nat} {a1 : Int32} {M : St} (hp : xnot p [14] = true) : (f_X11_fence a1 M) p = M p := by
  unfold f_X11_fence
  exact (ite_s (fun _ => ((xup_other (xnot_at hp (by decide) : p ≠ 14)).trans ((xup_other (xnot_at hp (by decide) : p ≠ 14)).trans rfl))) (fun _ => (ite_s (fun _ => ((xup_other (xnot_at hp (by decide) : p ≠ 14)).trans ((xup_other (xnot_at hp (by decide) : p ≠ 14)).trans rfl))) (fun _ => ((xup_other (xnot_at hp (by decide) : p ≠ 14)).trans ((xup_other (xnot_at hp (by decide) : p ≠ 14)).trans rfl))))))
theorem fr_X11_setStatus_48 {p : Nat} {x2 : Int32} {M : St} (hp : xnot p [14] = true) : (f_X11_setStatus_48 x2 M) p = M p := by
  unfold f_X11_setStatus_48
  exact ((xup_other (xnot_at hp (by decide) : p ≠ 14)).trans rfl)
theorem fr_X11_setStatus {p : Nat} {a1 : Int32} {M : St} (hp : xnot p [14, 15] = true) : (f_X11_setStatus a1 M) p = M p := by
  unfold f_X11_setStatus
  exact (ite_s (fun _ => ((fr_X11_setStatus_48 (xnot_sub hp (by decide))).trans rfl)) (fun _ => ((fr_X11_setStatus_48 (xnot_sub hp (by decide))).trans ((xup_other (xnot_at hp (by decide) : p ≠ 15)).trans ((xup_other (xnot_at hp (by decide) : p ≠ 15)).trans rfl)))))
theorem fr_X11_reset {p : Nat} {M : St} (hp : xnot p [14, 15] = true) : (f_X11_reset M) p = M p := by
  unfold f_X11_reset
  exact (xb_ss ((fr_X11_setStatus (xnot_sub hp (by decide))).trans ((xup_other (xnot_at hp (by decide) : p ≠ 14)).trans rfl)) (fun q2 hq2 => (xb_ss ((fr_X11_setStatus (xnot_sub hp (by decide))).trans hq2) (fun q5 hq5 => ((xup_other (xnot_at hp (by decide) : p ≠ 14)).trans ((xup_other (xnot_at hp (by decide) : p ≠ 14)).trans ((xup_other (xnot_at hp (by decide) : p ≠ 14)).trans ((xup_other (xnot_at hp (by decide) : p ≠ 14)).trans ((xup_other (xnot_at hp (by decide) : p ≠ 14)).trans ((xup_other (xnot_at hp (by decide) : p ≠ 14)).trans ((xup_other (xnot_at hp (by decide) : p ≠ 14)).trans ((xup_other (xnot_at hp (by decide) : p ≠ 15)).trans ((xup_other (xnot_at hp (by decide) : p ≠ 15)).trans hq5)))))))))))))
theorem fr_X11_keep__16_2 {p : Nat} (hp : xnot p [16] = true) : ∀ (n : Nat) (x2 : Int32) (M : St), (f_X11_keep__16_2 n x2 M) p = M p := by
  intro n
  induction n with
  | zero => intros; rfl
  | succ n ih =>
    intro x2 M
    unfold f_X11_keep__16_2
    exact (ite_s (fun _ => ((xup_other (xnot_at hp (by decide) : p ≠ 16)).trans rfl)) (fun _ => ((ih _ _).trans ((xup_other (xnot_at hp (by decide) : p ≠ 16)).trans rfl))))
theorem fr_X11_keep__16 {p : Nat} {M : St} (hp : xnot p [16] = true) : (f_X11_keep__16 M) p = M p := by
  unfold f_X11_keep__16
  exact ((fr_X11_keep__16_2 (xnot_sub hp (by decide)) _ _ _).trans rfl)
theorem fr_X11_keep__17_2 {p : Nat} (hp : xnot p [17] = true) : ∀ (n : Nat) (x2 : Int32) (M : St), (f_X11_keep__17_2 n x2 M) p = M p := by
  intro n
  induction n with
  | zero => intros; rfl
  | succ n ih =>
    intro x2 M
    unfold f_X11_keep__17_2
    exact (ite_s (fun _ => ((xup_other (xnot_at hp (by decide) : p ≠ 17)).trans rfl)) (fun _ => ((ih _ _).trans ((xup_other (xnot_at hp (by decide) : p ≠ 17)).trans rfl))))
theorem fr_X11_keep__17 {p : Nat} {M : St} (hp : xnot p [17] = true) : (f_X11_keep__17 M) p = M p := by
  unfold f_X11_keep__17
  exact ((fr_X11_keep__17_2 (xnot_sub hp (by decide)) _ _ _).trans rfl)
theorem fr_X11_fails_135 {p : Nat} {x1 : Int32} {x4 : Int32} {s0 : Int32} {M : St} (hp : xnot p [14] = true) : (f_X11_fails_135 x1 x4 s0 M).2 p = M p := by
  unfold f_X11_fails_135
  exact (ite_p (fun _ => ((xup_other (xnot_at hp (by decide) : p ≠ 14)).trans ((xup_other (xnot_at hp (by decide) : p ≠ 14)).trans ((xup_other (xnot_at hp (by decide) : p ≠ 14)).trans rfl)))) (fun _ => ((xup_other (xnot_at hp (by decide) : p ≠ 14)).trans ((xup_other (xnot_at hp (by decide) : p ≠ 14)).trans ((xup_other (xnot_at hp (by decide) : p ≠ 14)).trans rfl)))))
theorem fr_X11_fails_107 {p : Nat} {rec : Int32 → Int32 → Int32 → Int32 → Int32 → Int32 → Int32 → St → Int32 × St} {x1 : Int32} {x2 : Int32} {x3 : Int32} {x4 : Int32} {x5 : Int32} {x7 : Int32} {s0 : Int32} {M : St} (hp : xnot p [] = true) (hrec : ∀ (y0 : Int32) (y1 : Int32) (y2 : Int32) (y3 : Int32) (y4 : Int32) (y5 : Int32) (y6 : Int32) (N : St), (rec y0 y1 y2 y3 y4 y5 y6 N).2 p = N p) : (f_X11_fails_107 rec x1 x2 x3 x4 x5 x7 s0 M).2 p = M p := by
  unfold f_X11_fails_107
  exact ((hrec _ _ _ _ _ _ _ _).trans rfl)
theorem fr_X11_fails_106 {p : Nat} {rec : Int32 → Int32 → Int32 → Int32 → Int32 → Int32 → Int32 → St → Int32 × St} {x1 : Int32} {x2 : Int32} {x3 : Int32} {x4 : Int32} {x5 : Int32} {x7 : Int32} {M : St} (hp : xnot p [] = true) (hrec : ∀ (y0 : Int32) (y1 : Int32) (y2 : Int32) (y3 : Int32) (y4 : Int32) (y5 : Int32) (y6 : Int32) (N : St), (rec y0 y1 y2 y3 y4 y5 y6 N).2 p = N p) : (f_X11_fails_106 rec x1 x2 x3 x4 x5 x7 M).2 p = M p := by
  unfold f_X11_fails_106
  exact ((fr_X11_fails_107 (xnot_sub hp (by decide)) hrec).trans rfl)
theorem fr_X11_fails_102 {p : Nat} {rec : Int32 → Int32 → Int32 → Int32 → Int32 → Int32 → Int32 → St → Int32 × St} {x1 : Int32} {x2 : Int32} {x3 : Int32} {x4 : Int32} {x5 : Int32} {x7 : Int32} {M : St} (hp : xnot p [] = true) (hrec : ∀ (y0 : Int32) (y1 : Int32) (y2 : Int32) (y3 : Int32) (y4 : Int32) (y5 : Int32) (y6 : Int32) (N : St), (rec y0 y1 y2 y3 y4 y5 y6 N).2 p = N p) : (f_X11_fails_102 rec x1 x2 x3 x4 x5 x7 M).2 p = M p := by
  unfold f_X11_fails_102
  exact ((fr_X11_fails_107 (xnot_sub hp (by decide)) hrec).trans rfl)
theorem fr_X11_fails_89 {p : Nat} {rec : Int32 → Int32 → Int32 → Int32 → Int32 → Int32 → Int32 → St → Int32 × St} {x1 : Int32} {x2 : Int32} {x3 : Int32} {x4 : Int32} {x5 : Int32} {x7 : Int32} {x8 : Int32} {M : St} (hp : xnot p [] = true) (hrec : ∀ (y0 : Int32) (y1 : Int32) (y2 : Int32) (y3 : Int32) (y4 : Int32) (y5 : Int32) (y6 : Int32) (N : St), (rec y0 y1 y2 y3 y4 y5 y6 N).2 p = N p) : (f_X11_fails_89 rec x1 x2 x3 x4 x5 x7 x8 M).2 p = M p := by
  unfold f_X11_fails_89
  exact (ite_p (fun _ => ((fr_X11_fails_106 (xnot_sub hp (by decide)) hrec).trans rfl)) (fun _ => (ite_p (fun _ => ((fr_X11_fails_106 (xnot_sub hp (by decide)) hrec).trans rfl)) (fun _ => ((fr_X11_fails_102 (xnot_sub hp (by decide)) hrec).trans rfl)))))
theorem fr_X11_fails_71 {p : Nat} {rec : Int32 → Int32 → Int32 → Int32 → Int32 → Int32 → Int32 → St → Int32 × St} {x1 : Int32} {x2 : Int32} {x3 : Int32} {x4 : Int32} {x5 : Int32} {x7 : Int32} {x8 : Int32} {M : St} (hp : xnot p [] = true) (hrec : ∀ (y0 : Int32) (y1 : Int32) (y2 : Int32) (y3 : Int32) (y4 : Int32) (y5 : Int32) (y6 : Int32) (N : St), (rec y0 y1 y2 y3 y4 y5 y6 N).2 p = N p) : (f_X11_fails_71 rec x1 x2 x3 x4 x5 x7 x8 M).2 p = M p := by
  unfold f_X11_fails_71
  exact (ite_p (fun _ => ((fr_X11_fails_89 (xnot_sub hp (by decide)) hrec).trans rfl)) (fun _ => (ite_p (fun _ => ((fr_X11_fails_102 (xnot_sub hp (by decide)) hrec).trans rfl)) (fun _ => ((fr_X11_fails_89 (xnot_sub hp (by decide)) hrec).trans rfl)))))
theorem fr_X11_fails_33 {p : Nat} (hp : xnot p [14] = true) : ∀ (n : Nat) (x1 : Int32) (x2 : Int32) (x3 : Int32) (x4 : Int32) (x5 : Int32) (x6 : Int32) (x7 : Int32) (M : St), (f_X11_fails_33 n x1 x2 x3 x4 x5 x6 x7 M).2 p = M p := by
  intro n
  induction n with
  | zero => intros; rfl
  | succ n ih =>
    intro x1 x2 x3 x4 x5 x6 x7 M
    unfold f_X11_fails_33
    exact (ite_p (fun _ => (ite_p (fun _ => (ite_p (fun _ => ((fr_X11_fails_135 (xnot_sub hp (by decide))).trans rfl)) (fun _ => ((fr_X11_fails_135 (xnot_sub hp (by decide))).trans rfl)))) (fun _ => ((fr_X11_fails_135 (xnot_sub hp (by decide))).trans rfl)))) (fun _ => (ite_p (fun _ => (ite_p (fun _ => ((fr_X11_fails_71 (xnot_sub hp (by decide)) ih).trans rfl)) (fun _ => (ite_p (fun _ => ((fr_X11_fails_102 (xnot_sub hp (by decide)) ih).trans rfl)) (fun _ => ((fr_X11_fails_71 (xnot_sub hp (by decide)) ih).trans rfl)))))) (fun _ => ((fr_X11_fails_102 (xnot_sub hp (by decide)) ih).trans rfl)))))
theorem fr_X11_fails_25 {p : Nat} {x1 : Int32} {x2 : Int32} {x3 : Int32} {x4 : Int32} {s0 : Int32} {M : St} (hp : xnot p [14] = true) : (f_X11_fails_25 x1 x2 x3 x4 s0 M).2 p = M p := by
  unfold f_X11_fails_25
  exact ((fr_X11_fails_33 (xnot_sub hp (by decide)) _ _ _ _ _ _ _ _ _).trans rfl)
theorem fr_X11_fails_24 {p : Nat} {x1 : Int32} {x2 : Int32} {x3 : Int32} {x4 : Int32} {M : St} (hp : xnot p [14] = true) : (f_X11_fails_24 x1 x2 x3 x4 M).2 p = M p := by
  unfold f_X11_fails_24
  exact ((fr_X11_fails_25 (xnot_sub hp (by decide))).trans rfl)
theorem fr_X11_fails {p : Nat} {a1 : Int32} {a2 : Int32} {a3 : Int32} {a4 : Int32} {M : St} (hp : xnot p [14] = true) : (f_X11_fails a1 a2 a3 a4 M).2 p = M p := by
  unfold f_X11_fails
  exact (ite_p (fun _ => (ite_p (fun _ => ((fr_X11_fails_24 (xnot_sub hp (by decide))).trans rfl)) (fun _ => (ite_p (fun _ => ((fr_X11_fails_25 (xnot_sub hp (by decide))).trans rfl)) (fun _ => ((fr_X11_fails_24 (xnot_sub hp (by decide))).trans rfl)))))) (fun _ => rfl))
theorem fr_X11_writeByte_109 {p : Nat} {x1 : Int32} {M : St} (hp : xnot p [14] = true) : (f_X11_writeByte_109 x1 M) p = M p := by
  unfold f_X11_writeByte_109
  exact (ite_s (fun _ => ((xup_other (xnot_at hp (by decide) : p ≠ 14)).trans rfl)) (fun _ => rfl))
theorem fr_X11_writeByte_94 {p : Nat} {x1 : Int32} {x2 : Int32} {M : St} (hp : xnot p [14] = true) : (f_X11_writeByte_94 x1 x2 M) p = M p := by
  unfold f_X11_writeByte_94
  exact (ite_s (fun _ => ((fr_X11_writeByte_109 (xnot_sub hp (by decide))).trans ((xup_other (xnot_at hp (by decide) : p ≠ 14)).trans rfl))) (fun _ => ((fr_X11_writeByte_109 (xnot_sub hp (by decide))).trans rfl)))
theorem fr_X11_writeByte_74 {p : Nat} {x1 : Int32} {x2 : Int32} {M : St} (hp : xnot p [14] = true) : (f_X11_writeByte_74 x1 x2 M) p = M p := by
  unfold f_X11_writeByte_74
  exact (ite_s (fun _ => ((fr_X11_writeByte_94 (xnot_sub hp (by decide))).trans ((xup_other (xnot_at hp (by decide) : p ≠ 14)).trans rfl))) (fun _ => ((fr_X11_writeByte_94 (xnot_sub hp (by decide))).trans rfl)))
theorem fr_X11_writeByte_50 {p : Nat} {x1 : Int32} {x2 : Int32} {M : St} (hp : xnot p [14] = true) : (f_X11_writeByte_50 x1 x2 M) p = M p := by
  unfold f_X11_writeByte_50
  exact (ite_s (fun _ => ((fr_X11_writeByte_74 (xnot_sub hp (by decide))).trans ((xup_other (xnot_at hp (by decide) : p ≠ 14)).trans rfl))) (fun _ => ((fr_X11_writeByte_74 (xnot_sub hp (by decide))).trans rfl)))
theorem fr_X11_writeByte_14 {p : Nat} {x1 : Int32} {x2 : Int32} {M : St} (hp : xnot p [14, 20] = true) : (f_X11_writeByte_14 x1 x2 M) p = M p := by
  unfold f_X11_writeByte_14
  exact (ite_s (fun _ => (ite_s (fun _ => ((fr_X11_writeByte_50 (xnot_sub hp (by decide))).trans rfl)) (fun _ => ((fr_X11_writeByte_50 (xnot_sub hp (by decide))).trans ((xup_other (xnot_at hp (by decide) : p ≠ 14)).trans ((xup_other (xnot_at hp (by decide) : p ≠ 20)).trans rfl)))))) (fun _ => ((fr_X11_writeByte_50 (xnot_sub hp (by decide))).trans rfl)))
theorem fr_X11_writeByte {p : Nat} {a1 : Int32} {a2 : Int32} {M : St} (hp : xnot p [14, 18, 20] = true) : (f_X11_writeByte a1 a2 M) p = M p := by
  unfold f_X11_writeByte
  exact (ite_s (fun _ => ((fr_X11_writeByte_14 (xnot_sub hp (by decide))).trans rfl)) (fun _ => ((fr_X11_writeByte_14 (xnot_sub hp (by decide))).trans ((xup_other (xnot_at hp (by decide) : p ≠ 18)).trans rfl))))
theorem fr_X11_write_20 {p : Nat} (hp : xnot p [14, 18, 20] = true) : ∀ (n : Nat) (x1 : Int32) (x3 : Int32) (x4 : Int32) (x5 : Int32) (M : St), (f_X11_write_20 n x1 x3 x4 x5 M) p = M p := by
  intro n
  induction n with
  | zero => intros; rfl
  | succ n ih =>
    intro x1 x3 x4 x5 M
    unfold f_X11_write_20
    exact (ite_s (fun _ => rfl) (fun _ => (xb_ss ((fr_X11_writeByte (xnot_sub hp (by decide))).trans rfl) (fun q12 hq12 => ((ih _ _ _ _ _).trans hq12)))))
theorem fr_X11_write {p : Nat} {a1 : Int32} {a2 : Int32} {a3 : Int32} {M : St} (hp : xnot p [14, 18, 20] = true) : (f_X11_write a1 a2 a3 M) p = M p := by
  unfold f_X11_write
  exact (xb_ps ((fr_X11_fails (xnot_sub hp (by decide))).trans rfl) (fun q1 hq1 => (ite_s (fun _ => ((fr_X11_write_20 (xnot_sub hp (by decide)) _ _ _ _ _ _).trans hq1)) (fun _ => hq1))))
theorem fr_X11_push {p : Nat} {a1 : Int32} {a2 : Int32} {M : St} (hp : xnot p [14, 15, 18, 20] = true) : (f_X11_push a1 a2 M) p = M p := by
  unfold f_X11_push
  exact (xb_ss ((fr_X11_write (xnot_sub hp (by decide))).trans ((xup_other (xnot_at hp (by decide) : p ≠ 15)).trans rfl)) (fun q2 hq2 => hq2))
theorem fr_X11_readByte_118 {p : Nat} {x1 : Int32} {M : St} (hp : xnot p [] = true) : (f_X11_readByte_118 x1 M).2 p = M p := by
  unfold f_X11_readByte_118
  exact (ite_p (fun _ => rfl) (fun _ => rfl))
theorem fr_X11_readByte_62 {p : Nat} (hp : xnot p [19] = true) : ∀ (n : Nat) (x2 : Int32) (x3 : Int32) (M : St), (f_X11_readByte_62 n x2 x3 M).2 p = M p := by
  intro n
  induction n with
  | zero => intros; rfl
  | succ n ih =>
    intro x2 x3 M
    unfold f_X11_readByte_62
    exact (ite_p (fun _ => rfl) (fun _ => ((ih _ _ _).trans ((xup_other (xnot_at hp (by decide) : p ≠ 19)).trans rfl))))
theorem fr_X11_readByte_57 {p : Nat} {x2 : Int32} {s0 : Int32} {M : St} (hp : xnot p [14, 19] = true) : (f_X11_readByte_57 x2 s0 M).2 p = M p := by
  unfold f_X11_readByte_57
  exact ((fr_X11_readByte_62 (xnot_sub hp (by decide)) _ _ _ _).trans ((xup_other (xnot_at hp (by decide) : p ≠ 14)).trans rfl))
theorem fr_X11_readByte_38 {p : Nat} {s0 : Int32} {M : St} (hp : xnot p [14, 19] = true) : (f_X11_readByte_38 s0 M).2 p = M p := by
  unfold f_X11_readByte_38
  exact (ite_p (fun _ => ((fr_X11_readByte_57 (xnot_sub hp (by decide))).trans rfl)) (fun _ => ((fr_X11_readByte_57 (xnot_sub hp (by decide))).trans rfl)))
theorem fr_X11_readByte {p : Nat} {a1 : Int32} {M : St} (hp : xnot p [14, 19] = true) : (f_X11_readByte a1 M).2 p = M p := by
  unfold f_X11_readByte
  exact (ite_p (fun _ => (ite_p (fun _ => (ite_p (fun _ => ((fr_X11_readByte_38 (xnot_sub hp (by decide))).trans rfl)) (fun _ => ((fr_X11_readByte_38 (xnot_sub hp (by decide))).trans rfl)))) (fun _ => (ite_p (fun _ => rfl) (fun _ => (ite_p (fun _ => ((fr_X11_readByte_118 (xnot_sub hp (by decide))).trans rfl)) (fun _ => (ite_p (fun _ => ((fr_X11_readByte_118 (xnot_sub hp (by decide))).trans rfl)) (fun _ => (ite_p (fun _ => rfl) (fun _ => (ite_p (fun _ => (ite_p (fun _ => rfl) (fun _ => rfl))) (fun _ => rfl))))))))))))) (fun _ => rfl))
theorem fr_X11_read_19 {p : Nat} (hp : xnot p [14, 19] = true) : ∀ (n : Nat) (x1 : Int32) (x2 : Int32) (x4 : Int32) (x5 : Int32) (M : St), (f_X11_read_19 n x1 x2 x4 x5 M).2 p = M p := by
  intro n
  induction n with
  | zero => intros; rfl
  | succ n ih =>
    intro x1 x2 x4 x5 M
    unfold f_X11_read_19
    exact (ite_p (fun _ => rfl) (fun _ => (xb_pp ((fr_X11_readByte (xnot_sub hp (by decide))).trans rfl) (fun q12 hq12 => ((ih _ _ _ _ _).trans hq12)))))
theorem fr_X11_read {p : Nat} {a1 : Int32} {a2 : Int32} {a3 : Int32} {M : St} (hp : xnot p [14, 19] = true) : (f_X11_read a1 a2 a3 M).2 p = M p := by
  unfold f_X11_read
  exact (xb_pp ((fr_X11_fails (xnot_sub hp (by decide))).trans rfl) (fun q1 hq1 => (ite_p (fun _ => ((fr_X11_read_19 (xnot_sub hp (by decide)) _ _ _ _ _ _).trans hq1)) (fun _ => hq1))))
theorem fr_X11_back__16_2 {p : Nat} (hp : xnot p [14, 15] = true) : ∀ (n : Nat) (x2 : Int32) (M : St), (f_X11_back__16_2 n x2 M) p = M p := by
  intro n
  induction n with
  | zero => intros; rfl
  | succ n ih =>
    intro x2 M
    unfold f_X11_back__16_2
    exact (ite_s (fun _ => ((xup_other (xnot_at hp (by decide) : p ≠ 14)).trans rfl)) (fun _ => ((ih _ _).trans ((xup_other (xnot_at hp (by decide) : p ≠ 15)).trans rfl))))
theorem fr_X11_back__16 {p : Nat} {M : St} (hp : xnot p [14, 15] = true) : (f_X11_back__16 M) p = M p := by
  unfold f_X11_back__16
  exact ((fr_X11_back__16_2 (xnot_sub hp (by decide)) _ _ _).trans rfl)
theorem fr_X11_back__17_2 {p : Nat} (hp : xnot p [14, 15] = true) : ∀ (n : Nat) (x2 : Int32) (M : St), (f_X11_back__17_2 n x2 M) p = M p := by
  intro n
  induction n with
  | zero => intros; rfl
  | succ n ih =>
    intro x2 M
    unfold f_X11_back__17_2
    exact (ite_s (fun _ => ((xup_other (xnot_at hp (by decide) : p ≠ 14)).trans rfl)) (fun _ => ((ih _ _).trans ((xup_other (xnot_at hp (by decide) : p ≠ 15)).trans rfl))))
theorem fr_X11_back__17 {p : Nat} {M : St} (hp : xnot p [14, 15] = true) : (f_X11_back__17 M) p = M p := by
  unfold f_X11_back__17
  exact ((fr_X11_back__17_2 (xnot_sub hp (by decide)) _ _ _).trans rfl)
theorem fr_X11_tried_193 {p : Nat} {s0 : Int32} {M : St} (hp : xnot p [14] = true) : (f_X11_tried_193 s0 M).2 p = M p := by
  unfold f_X11_tried_193
  exact (ite_p (fun _ => ((xup_other (xnot_at hp (by decide) : p ≠ 14)).trans rfl)) (fun _ => ((xup_other (xnot_at hp (by decide) : p ≠ 14)).trans rfl)))
theorem fr_X11_tried_135 {p : Nat} {x1 : Int32} {M : St} (hp : xnot p [14, 15, 19, 21] = true) : (f_X11_tried_135 x1 M).2 p = M p := by
  unfold f_X11_tried_135
  exact (xb_pp ((fr_X11_read (xnot_sub hp (by decide))).trans rfl) (fun q38 hq38 => (ite_p (fun _ => ((xup_other (xnot_at hp (by decide) : p ≠ 21)).trans ((xup_other (xnot_at hp (by decide) : p ≠ 15)).trans hq38))) (fun _ => (xb_sp ((fr_X11_back__17 (xnot_sub hp (by decide))).trans hq38) (fun q43 hq43 => (ite_p (fun _ => ((fr_X11_tried_193 (xnot_sub hp (by decide))).trans hq43)) (fun _ => ((fr_X11_tried_193 (xnot_sub hp (by decide))).trans hq43)))))))))
theorem fr_X11_tried_92 {p : Nat} {x1 : Int32} {x2 : Int32} {x3 : Int32} {x4 : Int32} {x5 : Int32} {s0 : Int32} {M : St} (hp : xnot p [14, 15, 18, 19, 20, 21] = true) : (f_X11_tried_92 x1 x2 x3 x4 x5 s0 M).2 p = M p := by
  unfold f_X11_tried_92
  exact (xb_sp ((fr_X11_setStatus (xnot_sub hp (by decide))).trans rfl) (fun q17 hq17 => (xb_sp ((fr_X11_push (xnot_sub hp (by decide))).trans hq17) (fun q20 hq20 => (xb_sp ((fr_X11_push (xnot_sub hp (by decide))).trans hq20) (fun q23 hq23 => (ite_p (fun _ => ((fr_X11_tried_135 (xnot_sub hp (by decide))).trans hq23)) (fun _ => (xb_sp ((fr_X11_push (xnot_sub hp (by decide))).trans hq23) (fun q29 hq29 => (xb_sp ((fr_X11_push (xnot_sub hp (by decide))).trans hq29) (fun q32 hq32 => (xb_sp ((fr_X11_push (xnot_sub hp (by decide))).trans hq32) (fun q35 hq35 => ((fr_X11_tried_135 (xnot_sub hp (by decide))).trans hq35)))))))))))))))
theorem fr_X11_tried_90 {p : Nat} {x1 : Int32} {x2 : Int32} {x3 : Int32} {x4 : Int32} {x5 : Int32} {x6 : Int32} {M : St} (hp : xnot p [14, 15, 18, 19, 20, 21] = true) : (f_X11_tried_90 x1 x2 x3 x4 x5 x6 M).2 p = M p := by
  unfold f_X11_tried_90
  exact ((fr_X11_tried_92 (xnot_sub hp (by decide))).trans rfl)
theorem fr_X11_tried_38 {p : Nat} {x1 : Int32} {x2 : Int32} {x3 : Int32} {x4 : Int32} {s0 : Int32} {s1 : Int32} {M : St} (hp : xnot p [14, 15, 18, 19, 20, 21] = true) : (f_X11_tried_38 x1 x2 x3 x4 s0 s1 M).2 p = M p := by
  unfold f_X11_tried_38
  exact (ite_p (fun _ => ((fr_X11_tried_90 (xnot_sub hp (by decide))).trans ((xup_other (xnot_at hp (by decide) : p ≠ 14)).trans rfl))) (fun _ => (ite_p (fun _ => ((fr_X11_tried_90 (xnot_sub hp (by decide))).trans ((xup_other (xnot_at hp (by decide) : p ≠ 14)).trans rfl))) (fun _ => ((fr_X11_tried_92 (xnot_sub hp (by decide))).trans ((xup_other (xnot_at hp (by decide) : p ≠ 14)).trans rfl))))))
theorem fr_X11_tried {p : Nat} {a1 : Int32} {a2 : Int32} {M : St} (hp : xnot p [14, 15, 17, 18, 19, 20, 21] = true) : (f_X11_tried a1 a2 M).2 p = M p := by
  unfold f_X11_tried
  exact (xb_sp ((fr_X11_keep__17 (xnot_sub hp (by decide))).trans rfl) (fun q1 hq1 => (ite_p (fun _ => ((fr_X11_tried_38 (xnot_sub hp (by decide))).trans hq1)) (fun _ => ((fr_X11_tried_38 (xnot_sub hp (by decide))).trans hq1)))))
theorem fr_X11_work_5 {p : Nat} (hp : xnot p [14, 15, 17, 18, 19, 20, 21] = true) : ∀ (n : Nat) (x2 : Int32) (x3 : Int32) (x4 : Int32) (M : St), (f_X11_work_5 n x2 x3 x4 M) p = M p := by
  intro n
  induction n with
  | zero => intros; rfl
  | succ n ih =>
    intro x2 x3 x4 M
    unfold f_X11_work_5
    exact (ite_s (fun _ => rfl) (fun _ => (ite_s (fun _ => rfl) (fun _ => (xb_ps ((fr_X11_tried (xnot_sub hp (by decide))).trans rfl) (fun q8 hq8 => ((ih _ _ _ _).trans hq8)))))))
theorem fr_X11_work {p : Nat} {a1 : Int32} {a2 : Int32} {M : St} (hp : xnot p [14, 15, 17, 18, 19, 20, 21] = true) : (f_X11_work a1 a2 M) p = M p := by
  unfold f_X11_work
  exact ((fr_X11_work_5 (xnot_sub hp (by decide)) _ _ _ _ _).trans rfl)
theorem fr_X11_fetch_46 {p : Nat} {x1 : Int32} {s0 : Int32} {s1 : Int32} {M : St} (hp : xnot p [15] = true) : (f_X11_fetch_46 x1 s0 s1 M).2 p = M p := by
  unfold f_X11_fetch_46
  exact ((xup_other (xnot_at hp (by decide) : p ≠ 15)).trans rfl)
theorem fr_X11_fetch {p : Nat} {M : St} (hp : xnot p [14, 15, 19] = true) : (f_X11_fetch M).2 p = M p := by
  unfold f_X11_fetch
  exact (xb_pp ((fr_X11_read (xnot_sub hp (by decide))).trans rfl) (fun q1 hq1 => (ite_p (fun _ => ((fr_X11_fetch_46 (xnot_sub hp (by decide))).trans hq1)) (fun _ => ((fr_X11_fetch_46 (xnot_sub hp (by decide))).trans hq1)))))
theorem fr_X11_index {p : Nat} {M : St} (hp : xnot p [14, 15, 19] = true) : (f_X11_index M).2 p = M p := by
  unfold f_X11_index
  exact (xb_pp ((fr_X11_fetch (xnot_sub hp (by decide))).trans rfl) (fun q1 hq1 => (ite_p (fun _ => hq1) (fun _ => hq1))))
theorem fr_X11_number {p : Nat} {a1 : Int32} {M : St} (hp : xnot p [14, 15, 19] = true) : (f_X11_number a1 M).2 p = M p := by
  unfold f_X11_number
  exact (xb_pp ((fr_X11_fetch (xnot_sub hp (by decide))).trans rfl) (fun q1 hq1 => (ite_p (fun _ => (xb_pp ((fr_X11_fetch (xnot_sub hp (by decide))).trans hq1) (fun q6 hq6 => hq6))) (fun _ => hq1))))
theorem fr_X11_findMore_66 {p : Nat} {x1 : Int32} {x2 : Int32} {M : St} (hp : xnot p [14, 15, 19] = true) : (f_X11_findMore_66 x1 x2 M) p = M p := by
  unfold f_X11_findMore_66
  exact (ite_s (fun _ => (xb_ps ((fr_X11_number (xnot_sub hp (by decide))).trans ((xup_other (xnot_at hp (by decide) : p ≠ 14)).trans rfl)) (fun q28 hq28 => ((xup_other (xnot_at hp (by decide) : p ≠ 14)).trans hq28)))) (fun _ => rfl))
theorem fr_X11_findMore_51 {p : Nat} {x1 : Int32} {x2 : Int32} {x3 : Int32} {M : St} (hp : xnot p [14, 15, 19] = true) : (f_X11_findMore_51 x1 x2 x3 M) p = M p := by
  unfold f_X11_findMore_51
  exact (ite_s (fun _ => (xb_ps ((fr_X11_index (xnot_sub hp (by decide))).trans rfl) (fun q21 hq21 => ((fr_X11_findMore_66 (xnot_sub hp (by decide))).trans ((xup_other (xnot_at hp (by decide) : p ≠ 14)).trans hq21))))) (fun _ => ((fr_X11_findMore_66 (xnot_sub hp (by decide))).trans rfl)))
theorem fr_X11_findMore_35 {p : Nat} {x1 : Int32} {x2 : Int32} {x3 : Int32} {M : St} (hp : xnot p [14, 15, 19] = true) : (f_X11_findMore_35 x1 x2 x3 M) p = M p := by
  unfold f_X11_findMore_35
  exact (ite_s (fun _ => (xb_ps ((fr_X11_fetch (xnot_sub hp (by decide))).trans rfl) (fun q15 hq15 => ((fr_X11_findMore_51 (xnot_sub hp (by decide))).trans ((xup_other (xnot_at hp (by decide) : p ≠ 14)).trans hq15))))) (fun _ => ((fr_X11_findMore_51 (xnot_sub hp (by decide))).trans rfl)))
theorem fr_X11_findMore_21 {p : Nat} {x1 : Int32} {x2 : Int32} {x3 : Int32} {M : St} (hp : xnot p [14, 15, 19] = true) : (f_X11_findMore_21 x1 x2 x3 M) p = M p := by
  unfold f_X11_findMore_21
  exact (ite_s (fun _ => (xb_ps ((fr_X11_number (xnot_sub hp (by decide))).trans rfl) (fun q9 hq9 => ((fr_X11_findMore_35 (xnot_sub hp (by decide))).trans ((xup_other (xnot_at hp (by decide) : p ≠ 14)).trans hq9))))) (fun _ => ((fr_X11_findMore_35 (xnot_sub hp (by decide))).trans rfl)))
theorem fr_X11_findMore {p : Nat} {a1 : Int32} {a2 : Int32} {M : St} (hp : xnot p [14, 15, 19] = true) : (f_X11_findMore a1 a2 M) p = M p := by
  unfold f_X11_findMore
  exact (ite_s (fun _ => (xb_ps ((fr_X11_fetch (xnot_sub hp (by decide))).trans rfl) (fun q3 hq3 => ((fr_X11_findMore_21 (xnot_sub hp (by decide))).trans ((xup_other (xnot_at hp (by decide) : p ≠ 14)).trans hq3))))) (fun _ => ((fr_X11_findMore_21 (xnot_sub hp (by decide))).trans rfl)))
theorem fr_X11_find_156 {p : Nat} {x2 : Int32} {x3 : Int32} {x4 : Int32} {M : St} (hp : xnot p [14, 15, 19] = true) : (f_X11_find_156 x2 x3 x4 M) p = M p := by
  unfold f_X11_find_156
  exact (ite_s (fun _ => (xb_ss ((fr_X11_findMore (xnot_sub hp (by decide))).trans rfl) (fun q35 hq35 => hq35))) (fun _ => rfl))
theorem fr_X11_find_134 {p : Nat} {x2 : Int32} {x3 : Int32} {x4 : Int32} {x5 : Int32} {M : St} (hp : xnot p [14, 15, 19] = true) : (f_X11_find_134 x2 x3 x4 x5 M) p = M p := by
  unfold f_X11_find_134
  exact (ite_s (fun _ => (xb_ps ((fr_X11_index (xnot_sub hp (by decide))).trans rfl) (fun q29 hq29 => ((fr_X11_find_156 (xnot_sub hp (by decide))).trans ((xup_other (xnot_at hp (by decide) : p ≠ 14)).trans hq29))))) (fun _ => ((fr_X11_find_156 (xnot_sub hp (by decide))).trans rfl)))
theorem fr_X11_find_112 {p : Nat} {x2 : Int32} {x3 : Int32} {x4 : Int32} {x5 : Int32} {M : St} (hp : xnot p [14, 15, 19] = true) : (f_X11_find_112 x2 x3 x4 x5 M) p = M p := by
  unfold f_X11_find_112
  exact (ite_s (fun _ => (xb_ps ((fr_X11_fetch (xnot_sub hp (by decide))).trans rfl) (fun q23 hq23 => ((fr_X11_find_134 (xnot_sub hp (by decide))).trans ((xup_other (xnot_at hp (by decide) : p ≠ 14)).trans hq23))))) (fun _ => ((fr_X11_find_134 (xnot_sub hp (by decide))).trans rfl)))
theorem fr_X11_find_95 {p : Nat} {x2 : Int32} {x3 : Int32} {x4 : Int32} {x5 : Int32} {x6 : Int32} {M : St} (hp : xnot p [14, 15, 19] = true) : (f_X11_find_95 x2 x3 x4 x5 x6 M) p = M p := by
  unfold f_X11_find_95
  exact (ite_s (fun _ => ((fr_X11_find_112 (xnot_sub hp (by decide))).trans ((xup_other (xnot_at hp (by decide) : p ≠ 15)).trans rfl))) (fun _ => ((fr_X11_find_112 (xnot_sub hp (by decide))).trans rfl)))
theorem fr_X11_find_79 {p : Nat} {x2 : Int32} {x3 : Int32} {x4 : Int32} {x5 : Int32} {x6 : Int32} {M : St} (hp : xnot p [14, 15, 19] = true) : (f_X11_find_79 x2 x3 x4 x5 x6 M) p = M p := by
  unfold f_X11_find_79
  exact (ite_s (fun _ => ((fr_X11_find_95 (xnot_sub hp (by decide))).trans rfl)) (fun _ => ((fr_X11_find_95 (xnot_sub hp (by decide))).trans ((xup_other (xnot_at hp (by decide) : p ≠ 14)).trans rfl))))
theorem fr_X11_find_59 {p : Nat} {x2 : Int32} {x3 : Int32} {x4 : Int32} {x5 : Int32} {x6 : Int32} {s0 : Int32} {M : St} (hp : xnot p [14, 15, 19] = true) : (f_X11_find_59 x2 x3 x4 x5 x6 s0 M) p = M p := by
  unfold f_X11_find_59
  exact (ite_s (fun _ => ((fr_X11_find_79 (xnot_sub hp (by decide))).trans ((xup_other (xnot_at hp (by decide) : p ≠ 15)).trans ((xup_other (xnot_at hp (by decide) : p ≠ 14)).trans rfl)))) (fun _ => ((fr_X11_find_79 (xnot_sub hp (by decide))).trans ((xup_other (xnot_at hp (by decide) : p ≠ 14)).trans rfl))))
theorem fr_X11_find_35 {p : Nat} {x2 : Int32} {x3 : Int32} {x4 : Int32} {x5 : Int32} {s0 : Int32} {M : St} (hp : xnot p [14, 15, 19] = true) : (f_X11_find_35 x2 x3 x4 x5 s0 M) p = M p := by
  unfold f_X11_find_35
  exact (ite_s (fun _ => ((fr_X11_find_59 (xnot_sub hp (by decide))).trans rfl)) (fun _ => (ite_s (fun _ => ((fr_X11_find_59 (xnot_sub hp (by decide))).trans rfl)) (fun _ => ((fr_X11_find_59 (xnot_sub hp (by decide))).trans rfl)))))
theorem fr_X11_find_32 {p : Nat} {x2 : Int32} {x3 : Int32} {x4 : Int32} {x5 : Int32} {M : St} (hp : xnot p [14, 15, 19] = true) : (f_X11_find_32 x2 x3 x4 x5 M) p = M p := by
  unfold f_X11_find_32
  exact ((fr_X11_find_35 (xnot_sub hp (by decide))).trans rfl)
theorem fr_X11_find {p : Nat} {a1 : Int32} {a2 : Int32} {M : St} (hp : xnot p [14, 15, 19] = true) : (f_X11_find a1 a2 M) p = M p := by
  unfold f_X11_find
  exact (ite_s (fun _ => (ite_s (fun _ => ((fr_X11_find_35 (xnot_sub hp (by decide))).trans rfl)) (fun _ => ((fr_X11_find_32 (xnot_sub hp (by decide))).trans rfl)))) (fun _ => ((fr_X11_find_32 (xnot_sub hp (by decide))).trans rfl)))
theorem fr_X11_load_47 {p : Nat} {x1 : Int32} {s0 : Int32} {M : St} (hp : xnot p [] = true) : (f_X11_load_47 x1 s0 M).2 p = M p := by
  unfold f_X11_load_47
  exact rfl
theorem fr_X11_load {p : Nat} {a1 : Int32} {M : St} (hp : xnot p [14, 19] = true) : (f_X11_load a1 M).2 p = M p := by
  unfold f_X11_load
  exact (ite_p (fun _ => (xb_pp ((fr_X11_read (xnot_sub hp (by decide))).trans rfl) (fun q6 hq6 => hq6))) (fun _ => (ite_p (fun _ => ((fr_X11_load_47 (xnot_sub hp (by decide))).trans rfl)) (fun _ => ((fr_X11_load_47 (xnot_sub hp (by decide))).trans rfl)))))
theorem fr_X11_loadAt {p : Nat} {a1 : Int32} {a2 : Int32} {M : St} (hp : xnot p [14, 15, 19] = true) : (f_X11_loadAt a1 a2 M).2 p = M p := by
  unfold f_X11_loadAt
  exact (xb_sp ((fr_X11_find (xnot_sub hp (by decide))).trans rfl) (fun q1 hq1 => (xb_pp ((fr_X11_load (xnot_sub hp (by decide))).trans hq1) (fun q4 hq4 => hq4))))
theorem fr_X11_store {p : Nat} {a1 : Int32} {a2 : Int32} {M : St} (hp : xnot p [14, 15, 18, 20] = true) : (f_X11_store a1 a2 M) p = M p := by
  unfold f_X11_store
  exact (ite_s (fun _ => (xb_ss ((fr_X11_write (xnot_sub hp (by decide))).trans rfl) (fun q16 hq16 => hq16))) (fun _ => (ite_s (fun _ => rfl) (fun _ => ((xup_other (xnot_at hp (by decide) : p ≠ 15)).trans rfl)))))
theorem fr_X11_flag_22 {p : Nat} {s0 : Int32} {M : St} (hp : xnot p [14] = true) : (f_X11_flag_22 s0 M) p = M p := by
  unfold f_X11_flag_22
  exact ((xup_other (xnot_at hp (by decide) : p ≠ 14)).trans rfl)
theorem fr_X11_flag {p : Nat} {a1 : Int32} {a2 : Int32} {M : St} (hp : xnot p [14] = true) : (f_X11_flag a1 a2 M) p = M p := by
  unfold f_X11_flag
  exact (ite_s (fun _ => ((fr_X11_flag_22 (xnot_sub hp (by decide))).trans rfl)) (fun _ => ((fr_X11_flag_22 (xnot_sub hp (by decide))).trans rfl)))
theorem fr_X11_test_32 {p : Nat} {s0 : Int32} {s1 : Int32} {M : St} (hp : xnot p [14] = true) : (f_X11_test_32 s0 s1 M) p = M p := by
  unfold f_X11_test_32
  exact (xb_ss ((fr_X11_flag (xnot_sub hp (by decide))).trans rfl) (fun q12 hq12 => (xb_ss ((fr_X11_flag (xnot_sub hp (by decide))).trans hq12) (fun q15 hq15 => hq15))))
theorem fr_X11_test_18 {p : Nat} {x3 : Int32} {s0 : Int32} {s1 : Int32} {M : St} (hp : xnot p [14] = true) : (f_X11_test_18 x3 s0 s1 M) p = M p := by
  unfold f_X11_test_18
  exact (xb_ss ((fr_X11_flag (xnot_sub hp (by decide))).trans rfl) (fun q7 hq7 => (ite_s (fun _ => ((fr_X11_test_32 (xnot_sub hp (by decide))).trans hq7)) (fun _ => ((fr_X11_test_32 (xnot_sub hp (by decide))).trans hq7)))))
theorem fr_X11_test {p : Nat} {a1 : Int32} {a2 : Int32} {M : St} (hp : xnot p [14] = true) : (f_X11_test a1 a2 M) p = M p := by
  unfold f_X11_test
  exact (ite_s (fun _ => ((fr_X11_test_18 (xnot_sub hp (by decide))).trans rfl)) (fun _ => ((fr_X11_test_18 (xnot_sub hp (by decide))).trans rfl)))
theorem fr_X11_move_48 {p : Nat} {x1 : Int32} {x4 : Int32} {M : St} (hp : xnot p [14, 15, 18, 20] = true) : (f_X11_move_48 x1 x4 M) p = M p := by
  unfold f_X11_move_48
  exact (xb_ss ((fr_X11_store (xnot_sub hp (by decide))).trans rfl) (fun q17 hq17 => (xb_ss ((fr_X11_test (xnot_sub hp (by decide))).trans hq17) (fun q20 hq20 => hq20))))
theorem fr_X11_move {p : Nat} {a1 : Int32} {a2 : Int32} {a3 : Int32} {M : St} (hp : xnot p [14, 15, 18, 19, 20] = true) : (f_X11_move a1 a2 a3 M) p = M p := by
  unfold f_X11_move
  exact (xb_ps ((fr_X11_loadAt (xnot_sub hp (by decide))).trans rfl) (fun q1 hq1 => (xb_ss ((fr_X11_find (xnot_sub hp (by decide))).trans hq1) (fun q4 hq4 => (ite_s (fun _ => ((fr_X11_move_48 (xnot_sub hp (by decide))).trans hq4)) (fun _ => (ite_s (fun _ => ((fr_X11_move_48 (xnot_sub hp (by decide))).trans hq4)) (fun _ => ((xup_other (xnot_at hp (by decide) : p ≠ 15)).trans hq4)))))))))
theorem fr_X11_sum_214 {p : Nat} {x5 : Int32} {x22 : Int32} {x23 : Int32} {s0 : Int32} {s1 : Int32} {M : St} (hp : xnot p [14] = true) : (f_X11_sum_214 x5 x22 x23 s0 s1 M).2 p = M p := by
  unfold f_X11_sum_214
  exact (xb_sp ((fr_X11_flag (xnot_sub hp (by decide))).trans rfl) (fun q55 hq55 => (xb_sp ((fr_X11_flag (xnot_sub hp (by decide))).trans hq55) (fun q58 hq58 => (ite_p (fun _ => hq58) (fun _ => (xb_sp ((fr_X11_flag (xnot_sub hp (by decide))).trans hq58) (fun q64 hq64 => hq64))))))))
theorem fr_X11_sum_191 {p : Nat} {x1 : Int32} {x5 : Int32} {x20 : Int64} {x22 : Int32} {x23 : Int32} {s0 : Int32} {s1 : Int32} {M : St} (hp : xnot p [14] = true) : (f_X11_sum_191 x1 x5 x20 x22 x23 s0 s1 M).2 p = M p := by
  unfold f_X11_sum_191
  exact (xb_sp ((fr_X11_flag (xnot_sub hp (by decide))).trans rfl) (fun q47 hq47 => (ite_p (fun _ => ((fr_X11_sum_214 (xnot_sub hp (by decide))).trans hq47)) (fun _ => ((fr_X11_sum_214 (xnot_sub hp (by decide))).trans hq47)))))
theorem fr_X11_sum_190 {p : Nat} {x1 : Int32} {x5 : Int32} {x20 : Int64} {x22 : Int32} {x23 : Int32} {s0 : Int32} {M : St} (hp : xnot p [14] = true) : (f_X11_sum_190 x1 x5 x20 x22 x23 s0 M).2 p = M p := by
  unfold f_X11_sum_190
  exact ((fr_X11_sum_191 (xnot_sub hp (by decide))).trans rfl)
theorem fr_X11_sum_186 {p : Nat} {x1 : Int32} {x5 : Int32} {x20 : Int64} {x22 : Int32} {x23 : Int32} {s0 : Int32} {M : St} (hp : xnot p [14] = true) : (f_X11_sum_186 x1 x5 x20 x22 x23 s0 M).2 p = M p := by
  unfold f_X11_sum_186
  exact ((fr_X11_sum_191 (xnot_sub hp (by decide))).trans rfl)
theorem fr_X11_sum_162 {p : Nat} {x1 : Int32} {x5 : Int32} {x20 : Int64} {x22 : Int32} {x23 : Int32} {s0 : Int32} {s1 : Int32} {M : St} (hp : xnot p [14] = true) : (f_X11_sum_162 x1 x5 x20 x22 x23 s0 s1 M).2 p = M p := by
  unfold f_X11_sum_162
  exact (xb_sp ((fr_X11_flag (xnot_sub hp (by decide))).trans rfl) (fun q34 hq34 => (ite_p (fun _ => (ite_p (fun _ => (ite_p (fun _ => ((fr_X11_sum_190 (xnot_sub hp (by decide))).trans hq34)) (fun _ => ((fr_X11_sum_186 (xnot_sub hp (by decide))).trans hq34)))) (fun _ => ((fr_X11_sum_186 (xnot_sub hp (by decide))).trans hq34)))) (fun _ => ((fr_X11_sum_190 (xnot_sub hp (by decide))).trans hq34)))))
theorem fr_X11_sum_143 {p : Nat} {x1 : Int32} {x5 : Int32} {x20 : Int64} {x22 : Int32} {s0 : Int32} {M : St} (hp : xnot p [14] = true) : (f_X11_sum_143 x1 x5 x20 x22 s0 M).2 p = M p := by
  unfold f_X11_sum_143
  exact (ite_p (fun _ => ((fr_X11_sum_162 (xnot_sub hp (by decide))).trans rfl)) (fun _ => ((fr_X11_sum_162 (xnot_sub hp (by decide))).trans rfl)))
theorem fr_X11_sum_138 {p : Nat} {x1 : Int32} {x5 : Int32} {x20 : Int64} {x22 : Int32} {M : St} (hp : xnot p [14] = true) : (f_X11_sum_138 x1 x5 x20 x22 M).2 p = M p := by
  unfold f_X11_sum_138
  exact ((fr_X11_sum_143 (xnot_sub hp (by decide))).trans rfl)
theorem fr_X11_sum_113 {p : Nat} {x1 : Int32} {x5 : Int32} {x6 : Int64} {x14 : Int64} {s0 : Int64} {M : St} (hp : xnot p [14] = true) : (f_X11_sum_113 x1 x5 x6 x14 s0 M).2 p = M p := by
  unfold f_X11_sum_113
  exact (ite_p (fun _ => ((fr_X11_sum_138 (xnot_sub hp (by decide))).trans rfl)) (fun _ => (ite_p (fun _ => ((fr_X11_sum_143 (xnot_sub hp (by decide))).trans rfl)) (fun _ => ((fr_X11_sum_138 (xnot_sub hp (by decide))).trans rfl)))))
theorem fr_X11_sum_71 {p : Nat} {x1 : Int32} {x2 : Int32} {x3 : Int32} {x4 : Int32} {x5 : Int32} {x6 : Int64} {x8 : Int64} {s0 : Int64} {M : St} (hp : xnot p [14] = true) : (f_X11_sum_71 x1 x2 x3 x4 x5 x6 x8 s0 M).2 p = M p := by
  unfold f_X11_sum_71
  exact (ite_p (fun _ => ((fr_X11_sum_113 (xnot_sub hp (by decide))).trans rfl)) (fun _ => ((fr_X11_sum_113 (xnot_sub hp (by decide))).trans rfl)))
theorem fr_X11_sum_31 {p : Nat} {x1 : Int32} {x2 : Int32} {x3 : Int32} {x4 : Int32} {x5 : Int32} {x6 : Int64} {s0 : Int64} {M : St} (hp : xnot p [14] = true) : (f_X11_sum_31 x1 x2 x3 x4 x5 x6 s0 M).2 p = M p := by
  unfold f_X11_sum_31
  exact (ite_p (fun _ => ((fr_X11_sum_71 (xnot_sub hp (by decide))).trans rfl)) (fun _ => ((fr_X11_sum_71 (xnot_sub hp (by decide))).trans rfl)))
theorem fr_X11_sum_30 {p : Nat} {x1 : Int32} {x2 : Int32} {x3 : Int32} {x4 : Int32} {x5 : Int32} {x6 : Int64} {M : St} (hp : xnot p [14] = true) : (f_X11_sum_30 x1 x2 x3 x4 x5 x6 M).2 p = M p := by
  unfold f_X11_sum_30
  exact ((fr_X11_sum_31 (xnot_sub hp (by decide))).trans rfl)
theorem fr_X11_sum {p : Nat} {a1 : Int32} {a2 : Int32} {a3 : Int32} {a4 : Int32} {a5 : Int32} {M : St} (hp : xnot p [14] = true) : (f_X11_sum a1 a2 a3 a4 a5 M).2 p = M p := by
  unfold f_X11_sum
  exact (ite_p (fun _ => (ite_p (fun _ => ((fr_X11_sum_30 (xnot_sub hp (by decide))).trans rfl)) (fun _ => ((fr_X11_sum_31 (xnot_sub hp (by decide))).trans rfl)))) (fun _ => ((fr_X11_sum_30 (xnot_sub hp (by decide))).trans rfl)))
theorem fr_X11_one_92 {p : Nat} {x2 : Int32} {x4 : Int32} {M : St} (hp : xnot p [14] = true) : (f_X11_one_92 x2 x4 M) p = M p := by
  unfold f_X11_one_92
  exact (xb_ss ((fr_X11_test (xnot_sub hp (by decide))).trans rfl) (fun q31 hq31 => hq31))
theorem fr_X11_one_80 {p : Nat} {x1 : Int32} {x2 : Int32} {x4 : Int32} {M : St} (hp : xnot p [14] = true) : (f_X11_one_80 x1 x2 x4 M) p = M p := by
  unfold f_X11_one_80
  exact (ite_s (fun _ => ((fr_X11_one_92 (xnot_sub hp (by decide))).trans rfl)) (fun _ => (ite_s (fun _ => ((fr_X11_one_92 (xnot_sub hp (by decide))).trans rfl)) (fun _ => rfl))))
theorem fr_X11_one_66 {p : Nat} {x1 : Int32} {x2 : Int32} {s0 : Int32} {M : St} (hp : xnot p [14, 15, 18, 20] = true) : (f_X11_one_66 x1 x2 s0 M) p = M p := by
  unfold f_X11_one_66
  exact (ite_s (fun _ => ((fr_X11_one_80 (xnot_sub hp (by decide))).trans rfl)) (fun _ => (xb_ss ((fr_X11_store (xnot_sub hp (by decide))).trans rfl) (fun q21 hq21 => ((fr_X11_one_80 (xnot_sub hp (by decide))).trans hq21)))))
theorem fr_X11_one_46 {p : Nat} {x1 : Int32} {x2 : Int32} {s0 : Int32} {s1 : Int32} {s2 : Int32} {s3 : Int32} {s4 : Int32} {M : St} (hp : xnot p [14, 15, 18, 20] = true) : (f_X11_one_46 x1 x2 s0 s1 s2 s3 s4 M) p = M p := by
  unfold f_X11_one_46
  exact (xb_ps ((fr_X11_sum (xnot_sub hp (by decide))).trans rfl) (fun q24 hq24 => ((fr_X11_one_66 (xnot_sub hp (by decide))).trans hq24)))
theorem fr_X11_one_31 {p : Nat} {x1 : Int32} {x2 : Int32} {x4 : Int32} {M : St} (hp : xnot p [14, 15, 18, 20] = true) : (f_X11_one_31 x1 x2 x4 M) p = M p := by
  unfold f_X11_one_31
  exact (ite_s (fun _ => ((fr_X11_one_46 (xnot_sub hp (by decide))).trans rfl)) (fun _ => ((fr_X11_one_46 (xnot_sub hp (by decide))).trans rfl)))
theorem fr_X11_one_20 {p : Nat} {x1 : Int32} {x2 : Int32} {s0 : Int32} {M : St} (hp : xnot p [14, 15, 18, 20] = true) : (f_X11_one_20 x1 x2 s0 M) p = M p := by
  unfold f_X11_one_20
  exact (ite_s (fun _ => ((fr_X11_one_31 (xnot_sub hp (by decide))).trans rfl)) (fun _ => (ite_s (fun _ => ((fr_X11_one_31 (xnot_sub hp (by decide))).trans rfl)) (fun _ => (ite_s (fun _ => ((fr_X11_one_66 (xnot_sub hp (by decide))).trans rfl)) (fun _ => ((fr_X11_one_66 (xnot_sub hp (by decide))).trans rfl)))))))
theorem fr_X11_one {p : Nat} {a1 : Int32} {a2 : Int32} {a3 : Int32} {M : St} (hp : xnot p [14, 15, 18, 19, 20] = true) : (f_X11_one a1 a2 a3 M) p = M p := by
  unfold f_X11_one
  exact (xb_ss ((fr_X11_find (xnot_sub hp (by decide))).trans rfl) (fun q1 hq1 => (ite_s (fun _ => ((fr_X11_one_20 (xnot_sub hp (by decide))).trans hq1)) (fun _ => (xb_ps ((fr_X11_load (xnot_sub hp (by decide))).trans hq1) (fun q5 hq5 => ((fr_X11_one_20 (xnot_sub hp (by decide))).trans hq5)))))))
theorem fr_X11_tens_198 {p : Nat} {x5 : Int32} {s0 : Int32} {s1 : Int32} {M : St} (hp : xnot p [14] = true) : (f_X11_tens_198 x5 s0 s1 M).2 p = M p := by
  unfold f_X11_tens_198
  exact (xb_sp ((fr_X11_flag (xnot_sub hp (by decide))).trans rfl) (fun q36 hq36 => (xb_sp ((fr_X11_flag (xnot_sub hp (by decide))).trans hq36) (fun q39 hq39 => (ite_p (fun _ => hq39) (fun _ => (xb_sp ((fr_X11_flag (xnot_sub hp (by decide))).trans hq39) (fun q45 hq45 => hq45))))))))
theorem fr_X11_tens_171 {p : Nat} {x6 : Int32} {s0 : Int32} {M : St} (hp : xnot p [14] = true) : (f_X11_tens_171 x6 s0 M).2 p = M p := by
  unfold f_X11_tens_171
  exact (xb_sp ((fr_X11_flag (xnot_sub hp (by decide))).trans rfl) (fun q30 hq30 => (ite_p (fun _ => ((fr_X11_tens_198 (xnot_sub hp (by decide))).trans hq30)) (fun _ => ((fr_X11_tens_198 (xnot_sub hp (by decide))).trans hq30)))))
theorem fr_X11_tens_142 {p : Nat} {x3 : Int32} {x5 : Int32} {s0 : Int32} {M : St} (hp : xnot p [14] = true) : (f_X11_tens_142 x3 x5 s0 M).2 p = M p := by
  unfold f_X11_tens_142
  exact (ite_p (fun _ => ((fr_X11_tens_171 (xnot_sub hp (by decide))).trans rfl)) (fun _ => (ite_p (fun _ => ((fr_X11_tens_171 (xnot_sub hp (by decide))).trans rfl)) (fun _ => ((fr_X11_tens_171 (xnot_sub hp (by decide))).trans rfl)))))
theorem fr_X11_tens_100 {p : Nat} {x2 : Int32} {x3 : Int32} {s0 : Int32} {M : St} (hp : xnot p [14] = true) : (f_X11_tens_100 x2 x3 s0 M).2 p = M p := by
  unfold f_X11_tens_100
  exact (ite_p (fun _ => (ite_p (fun _ => ((fr_X11_tens_142 (xnot_sub hp (by decide))).trans rfl)) (fun _ => ((fr_X11_tens_142 (xnot_sub hp (by decide))).trans rfl)))) (fun _ => (ite_p (fun _ => ((fr_X11_tens_142 (xnot_sub hp (by decide))).trans rfl)) (fun _ => ((fr_X11_tens_142 (xnot_sub hp (by decide))).trans rfl)))))
theorem fr_X11_tens_94 {p : Nat} {x1 : Int32} {x2 : Int32} {x3 : Int32} {s0 : Int32} {M : St} (hp : xnot p [14] = true) : (f_X11_tens_94 x1 x2 x3 s0 M).2 p = M p := by
  unfold f_X11_tens_94
  exact ((fr_X11_tens_100 (xnot_sub hp (by decide))).trans rfl)
theorem fr_X11_tens_68 {p : Nat} {x1 : Int32} {x2 : Int32} {x3 : Int32} {s0 : Int32} {M : St} (hp : xnot p [14] = true) : (f_X11_tens_68 x1 x2 x3 s0 M).2 p = M p := by
  unfold f_X11_tens_68
  exact ((fr_X11_tens_100 (xnot_sub hp (by decide))).trans rfl)
theorem fr_X11_tens_47 {p : Nat} {x1 : Int32} {x2 : Int32} {x3 : Int32} {s0 : Int32} {M : St} (hp : xnot p [14] = true) : (f_X11_tens_47 x1 x2 x3 s0 M).2 p = M p := by
  unfold f_X11_tens_47
  exact (ite_p (fun _ => (ite_p (fun _ => ((fr_X11_tens_94 (xnot_sub hp (by decide))).trans rfl)) (fun _ => ((fr_X11_tens_94 (xnot_sub hp (by decide))).trans rfl)))) (fun _ => (ite_p (fun _ => ((fr_X11_tens_68 (xnot_sub hp (by decide))).trans rfl)) (fun _ => ((fr_X11_tens_68 (xnot_sub hp (by decide))).trans rfl)))))
theorem fr_X11_tens_14 {p : Nat} {x1 : Int32} {x2 : Int32} {x3 : Int32} {s0 : Int32} {M : St} (hp : xnot p [14] = true) : (f_X11_tens_14 x1 x2 x3 s0 M).2 p = M p := by
  unfold f_X11_tens_14
  exact (ite_p (fun _ => ((fr_X11_tens_47 (xnot_sub hp (by decide))).trans rfl)) (fun _ => ((fr_X11_tens_47 (xnot_sub hp (by decide))).trans rfl)))
theorem fr_X11_tens {p : Nat} {a1 : Int32} {a2 : Int32} {a3 : Int32} {M : St} (hp : xnot p [14] = true) : (f_X11_tens a1 a2 a3 M).2 p = M p := by
  unfold f_X11_tens
  exact (ite_p (fun _ => ((fr_X11_tens_14 (xnot_sub hp (by decide))).trans rfl)) (fun _ => ((fr_X11_tens_14 (xnot_sub hp (by decide))).trans rfl)))
theorem fr_X11_keepIn {p : Nat} {a1 : Int32} {a2 : Int32} {a3 : Int32} {M : St} (hp : xnot p [15] = true) : (f_X11_keepIn a1 a2 a3 M) p = M p := by
  unfold f_X11_keepIn
  exact ((xup_other (xnot_at hp (by decide) : p ≠ 15)).trans rfl)
theorem fr_X11_extendOrStore_182 {p : Nat} {rec : Int32 → Int32 → Int32 → Int32 → Int32 → Int32 → Int32 → St → St} {x1 : Int32} {x3 : Int32} {x4 : Int32} {x5 : Int32} {x6 : Int32} {x7 : Int32} {x8 : Int32} {M : St} (hp : xnot p [] = true) (hrec : ∀ (y0 : Int32) (y1 : Int32) (y2 : Int32) (y3 : Int32) (y4 : Int32) (y5 : Int32) (y6 : Int32) (N : St), (rec y0 y1 y2 y3 y4 y5 y6 N) p = N p) : (f_X11_extendOrStore_182 rec x1 x3 x4 x5 x6 x7 x8 M) p = M p := by
  unfold f_X11_extendOrStore_182
  exact ((hrec _ _ _ _ _ _ _ _).trans rfl)
theorem fr_X11_extendOrStore_180 {p : Nat} {rec : Int32 → Int32 → Int32 → Int32 → Int32 → Int32 → Int32 → St → St} {x1 : Int32} {x3 : Int32} {x4 : Int32} {x5 : Int32} {x6 : Int32} {x8 : Int32} {s0 : Int32} {M : St} (hp : xnot p [] = true) (hrec : ∀ (y0 : Int32) (y1 : Int32) (y2 : Int32) (y3 : Int32) (y4 : Int32) (y5 : Int32) (y6 : Int32) (N : St), (rec y0 y1 y2 y3 y4 y5 y6 N) p = N p) : (f_X11_extendOrStore_180 rec x1 x3 x4 x5 x6 x8 s0 M) p = M p := by
  unfold f_X11_extendOrStore_180
  exact ((fr_X11_extendOrStore_182 (xnot_sub hp (by decide)) hrec).trans rfl)
theorem fr_X11_extendOrStore_156 {p : Nat} {rec : Int32 → Int32 → Int32 → Int32 → Int32 → Int32 → Int32 → St → St} {x1 : Int32} {x3 : Int32} {x4 : Int32} {x5 : Int32} {x6 : Int32} {x7 : Int32} {x8 : Int32} {s0 : Int32} {s2 : Int32} {s3 : Int32} {M : St} (hp : xnot p [14, 18, 20] = true) (hrec : ∀ (y0 : Int32) (y1 : Int32) (y2 : Int32) (y3 : Int32) (y4 : Int32) (y5 : Int32) (y6 : Int32) (N : St), (rec y0 y1 y2 y3 y4 y5 y6 N) p = N p) : (f_X11_extendOrStore_156 rec x1 x3 x4 x5 x6 x7 x8 s0 s2 s3 M) p = M p := by
  unfold f_X11_extendOrStore_156
  exact (xb_ss ((fr_X11_write (xnot_sub hp (by decide))).trans rfl) (fun q39 hq39 => (ite_s (fun _ => ((fr_X11_extendOrStore_180 (xnot_sub hp (by decide)) hrec).trans hq39)) (fun _ => ((fr_X11_extendOrStore_180 (xnot_sub hp (by decide)) hrec).trans hq39)))))
theorem fr_X11_extendOrStore_131 {p : Nat} {rec : Int32 → Int32 → Int32 → Int32 → Int32 → Int32 → Int32 → St → St} {x1 : Int32} {x3 : Int32} {x4 : Int32} {x5 : Int32} {x6 : Int32} {x8 : Int32} {s0 : Int32} {M : St} (hp : xnot p [14, 18, 20] = true) (hrec : ∀ (y0 : Int32) (y1 : Int32) (y2 : Int32) (y3 : Int32) (y4 : Int32) (y5 : Int32) (y6 : Int32) (N : St), (rec y0 y1 y2 y3 y4 y5 y6 N) p = N p) : (f_X11_extendOrStore_131 rec x1 x3 x4 x5 x6 x8 s0 M) p = M p := by
  unfold f_X11_extendOrStore_131
  exact (ite_s (fun _ => ((fr_X11_extendOrStore_156 (xnot_sub hp (by decide)) hrec).trans rfl)) (fun _ => ((fr_X11_extendOrStore_156 (xnot_sub hp (by decide)) hrec).trans rfl)))
theorem fr_X11_extendOrStore_96 {p : Nat} (hp : xnot p [14, 15, 18, 20] = true) : ∀ (n : Nat) (x1 : Int32) (x3 : Int32) (x4 : Int32) (x5 : Int32) (x6 : Int32) (x7 : Int32) (x8 : Int32) (M : St), (f_X11_extendOrStore_96 n x1 x3 x4 x5 x6 x7 x8 M) p = M p := by
  intro n
  induction n with
  | zero => intros; rfl
  | succ n ih =>
    intro x1 x3 x4 x5 x6 x7 x8 M
    unfold f_X11_extendOrStore_96
    exact (ite_s (fun _ => (ite_s (fun _ => ((xup_other (xnot_at hp (by decide) : p ≠ 15)).trans rfl)) (fun _ => rfl))) (fun _ => (ite_s (fun _ => ((fr_X11_extendOrStore_182 (xnot_sub hp (by decide)) ih).trans rfl)) (fun _ => (ite_s (fun _ => ((fr_X11_extendOrStore_131 (xnot_sub hp (by decide)) ih).trans rfl)) (fun _ => ((fr_X11_extendOrStore_131 (xnot_sub hp (by decide)) ih).trans rfl)))))))
theorem fr_X11_extendOrStore_91 {p : Nat} {x1 : Int32} {x3 : Int32} {x4 : Int32} {x5 : Int32} {x6 : Int32} {s0 : Int32} {M : St} (hp : xnot p [14, 15, 18, 20] = true) : (f_X11_extendOrStore_91 x1 x3 x4 x5 x6 s0 M) p = M p := by
  unfold f_X11_extendOrStore_91
  exact ((fr_X11_extendOrStore_96 (xnot_sub hp (by decide)) _ _ _ _ _ _ _ _ _).trans rfl)
theorem fr_X11_extendOrStore_69 {p : Nat} {x1 : Int32} {x3 : Int32} {x4 : Int32} {x5 : Int32} {x6 : Int32} {M : St} (hp : xnot p [14, 15, 18, 20] = true) : (f_X11_extendOrStore_69 x1 x3 x4 x5 x6 M) p = M p := by
  unfold f_X11_extendOrStore_69
  exact (ite_s (fun _ => ((fr_X11_extendOrStore_91 (xnot_sub hp (by decide))).trans rfl)) (fun _ => ((fr_X11_extendOrStore_91 (xnot_sub hp (by decide))).trans rfl)))
theorem fr_X11_extendOrStore {p : Nat} {a1 : Int32} {a2 : Int32} {M : St} (hp : xnot p [14, 15, 18, 19, 20] = true) : (f_X11_extendOrStore a1 a2 M) p = M p := by
  unfold f_X11_extendOrStore
  exact (ite_s (fun _ => (xb_ss ((fr_X11_keepIn (xnot_sub hp (by decide))).trans rfl) (fun q14 hq14 => (xb_ss ((fr_X11_test (xnot_sub hp (by decide))).trans hq14) (fun q17 hq17 => hq17))))) (fun _ => (xb_ps ((fr_X11_fetch (xnot_sub hp (by decide))).trans rfl) (fun q2 hq2 => (ite_s (fun _ => ((fr_X11_extendOrStore_69 (xnot_sub hp (by decide))).trans hq2)) (fun _ => (xb_ss ((fr_X11_find (xnot_sub hp (by decide))).trans hq2) (fun q7 hq7 => ((fr_X11_extendOrStore_69 (xnot_sub hp (by decide))).trans hq7)))))))))
theorem fr_X11_loadMany_99 {p : Nat} {rec : Int32 → Int32 → Int32 → Int32 → Int32 → Int32 → St → St} {x1 : Int32} {x2 : Int32} {x3 : Int32} {x4 : Int32} {x5 : Int32} {x6 : Int32} {M : St} (hp : xnot p [] = true) (hrec : ∀ (y0 : Int32) (y1 : Int32) (y2 : Int32) (y3 : Int32) (y4 : Int32) (y5 : Int32) (N : St), (rec y0 y1 y2 y3 y4 y5 N) p = N p) : (f_X11_loadMany_99 rec x1 x2 x3 x4 x5 x6 M) p = M p := by
  unfold f_X11_loadMany_99
  exact ((hrec _ _ _ _ _ _ _).trans rfl)
theorem fr_X11_loadMany_53 {p : Nat} (hp : xnot p [14, 15, 19] = true) : ∀ (n : Nat) (x1 : Int32) (x2 : Int32) (x3 : Int32) (x4 : Int32) (x5 : Int32) (x6 : Int32) (M : St), (f_X11_loadMany_53 n x1 x2 x3 x4 x5 x6 M) p = M p := by
  intro n
  induction n with
  | zero => intros; rfl
  | succ n ih =>
    intro x1 x2 x3 x4 x5 x6 M
    unfold f_X11_loadMany_53
    exact (ite_s (fun _ => (ite_s (fun _ => ((xup_other (xnot_at hp (by decide) : p ≠ 15)).trans rfl)) (fun _ => rfl))) (fun _ => (ite_s (fun _ => ((fr_X11_loadMany_99 (xnot_sub hp (by decide)) ih).trans rfl)) (fun _ => (xb_ps ((fr_X11_read (xnot_sub hp (by decide))).trans rfl) (fun q20 hq20 => ((fr_X11_loadMany_99 (xnot_sub hp (by decide)) ih).trans ((xup_other (xnot_at hp (by decide) : p ≠ 15)).trans hq20))))))))
theorem fr_X11_loadMany_48 {p : Nat} {x1 : Int32} {x2 : Int32} {x3 : Int32} {x4 : Int32} {s0 : Int32} {M : St} (hp : xnot p [14, 15, 19] = true) : (f_X11_loadMany_48 x1 x2 x3 x4 s0 M) p = M p := by
  unfold f_X11_loadMany_48
  exact ((fr_X11_loadMany_53 (xnot_sub hp (by decide)) _ _ _ _ _ _ _ _).trans rfl)
theorem fr_X11_loadMany_27 {p : Nat} {x1 : Int32} {x2 : Int32} {x3 : Int32} {x4 : Int32} {M : St} (hp : xnot p [14, 15, 19] = true) : (f_X11_loadMany_27 x1 x2 x3 x4 M) p = M p := by
  unfold f_X11_loadMany_27
  exact (ite_s (fun _ => ((fr_X11_loadMany_48 (xnot_sub hp (by decide))).trans rfl)) (fun _ => ((fr_X11_loadMany_48 (xnot_sub hp (by decide))).trans rfl)))
theorem fr_X11_loadMany {p : Nat} {a1 : Int32} {a2 : Int32} {M : St} (hp : xnot p [14, 15, 19] = true) : (f_X11_loadMany a1 a2 M) p = M p := by
  unfold f_X11_loadMany
  exact (xb_ps ((fr_X11_fetch (xnot_sub hp (by decide))).trans rfl) (fun q1 hq1 => (ite_s (fun _ => ((fr_X11_loadMany_27 (xnot_sub hp (by decide))).trans hq1)) (fun _ => (xb_ss ((fr_X11_find (xnot_sub hp (by decide))).trans hq1) (fun q6 hq6 => ((fr_X11_loadMany_27 (xnot_sub hp (by decide))).trans hq6)))))))
theorem fr_X11_pull {p : Nat} {a1 : Int32} {M : St} (hp : xnot p [14, 15, 19] = true) : (f_X11_pull a1 M).2 p = M p := by
  unfold f_X11_pull
  exact (xb_pp ((fr_X11_read (xnot_sub hp (by decide))).trans rfl) (fun q1 hq1 => ((xup_other (xnot_at hp (by decide) : p ≠ 15)).trans hq1)))
theorem fr_X11_rest_120 {p : Nat} {x1 : Int32} {M : St} (hp : xnot p [14] = true) : (f_X11_rest_120 x1 M) p = M p := by
  unfold f_X11_rest_120
  exact (ite_s (fun _ => (ite_s (fun _ => rfl) (fun _ => ((xup_other (xnot_at hp (by decide) : p ≠ 14)).trans rfl)))) (fun _ => rfl))
theorem fr_X11_rest_102 {p : Nat} {x1 : Int32} {M : St} (hp : xnot p [14, 15, 19] = true) : (f_X11_rest_102 x1 M) p = M p := by
  unfold f_X11_rest_102
  exact (ite_s (fun _ => (xb_ps ((fr_X11_pull (xnot_sub hp (by decide))).trans rfl) (fun q32 hq32 => ((fr_X11_rest_120 (xnot_sub hp (by decide))).trans ((xup_other (xnot_at hp (by decide) : p ≠ 15)).trans hq32))))) (fun _ => ((fr_X11_rest_120 (xnot_sub hp (by decide))).trans rfl)))
theorem fr_X11_rest_94 {p : Nat} {x1 : Int32} {x3 : Int32} {M : St} (hp : xnot p [14, 15, 19] = true) : (f_X11_rest_94 x1 x3 M) p = M p := by
  unfold f_X11_rest_94
  exact ((fr_X11_rest_102 (xnot_sub hp (by decide))).trans ((xup_other (xnot_at hp (by decide) : p ≠ 15)).trans rfl))
theorem fr_X11_rest_52 {p : Nat} {x1 : Int32} {M : St} (hp : xnot p [14, 15, 19] = true) : (f_X11_rest_52 x1 M) p = M p := by
  unfold f_X11_rest_52
  exact (xb_ps ((fr_X11_pull (xnot_sub hp (by decide))).trans rfl) (fun q17 hq17 => (xb_ps ((fr_X11_pull (xnot_sub hp (by decide))).trans hq17) (fun q20 hq20 => (ite_s (fun _ => (xb_ss ((fr_X11_setStatus (xnot_sub hp (by decide))).trans hq20) (fun q27 hq27 => ((fr_X11_rest_94 (xnot_sub hp (by decide))).trans hq27)))) (fun _ => ((fr_X11_rest_94 (xnot_sub hp (by decide))).trans ((xup_other (xnot_at hp (by decide) : p ≠ 14)).trans hq20))))))))
theorem fr_X11_rest_40 {p : Nat} {x1 : Int32} {M : St} (hp : xnot p [14, 15, 19] = true) : (f_X11_rest_40 x1 M) p = M p := by
  unfold f_X11_rest_40
  exact (ite_s (fun _ => ((fr_X11_rest_52 (xnot_sub hp (by decide))).trans rfl)) (fun _ => (ite_s (fun _ => ((fr_X11_rest_52 (xnot_sub hp (by decide))).trans rfl)) (fun _ => ((fr_X11_rest_102 (xnot_sub hp (by decide))).trans rfl)))))
theorem fr_X11_rest_21 {p : Nat} {x1 : Int32} {M : St} (hp : xnot p [14, 15, 19] = true) : (f_X11_rest_21 x1 M) p = M p := by
  unfold f_X11_rest_21
  exact (ite_s (fun _ => (xb_ps ((fr_X11_fetch (xnot_sub hp (by decide))).trans rfl) (fun q6 hq6 => (xb_ss ((fr_X11_setStatus (xnot_sub hp (by decide))).trans hq6) (fun q9 hq9 => ((fr_X11_rest_40 (xnot_sub hp (by decide))).trans ((xup_other (xnot_at hp (by decide) : p ≠ 14)).trans hq9))))))) (fun _ => ((fr_X11_rest_40 (xnot_sub hp (by decide))).trans rfl)))
theorem fr_X11_rest {p : Nat} {a1 : Int32} {M : St} (hp : xnot p [14, 15, 19] = true) : (f_X11_rest a1 M) p = M p := by
  unfold f_X11_rest
  exact (ite_s (fun _ => ((fr_X11_rest_21 (xnot_sub hp (by decide))).trans ((xup_other (xnot_at hp (by decide) : p ≠ 14)).trans ((xup_other (xnot_at hp (by decide) : p ≠ 14)).trans ((xup_other (xnot_at hp (by decide) : p ≠ 14)).trans rfl))))) (fun _ => ((fr_X11_rest_21 (xnot_sub hp (by decide))).trans rfl)))
theorem fr_X11_system_52 {p : Nat} {x1 : Int32} {M : St} (hp : xnot p [14] = true) : (f_X11_system_52 x1 M) p = M p := by
  unfold f_X11_system_52
  exact ((xup_other (xnot_at hp (by decide) : p ≠ 14)).trans rfl)
theorem fr_X11_system {p : Nat} {a1 : Int32} {M : St} (hp : xnot p [14, 15, 18, 19, 20] = true) : (f_X11_system a1 M) p = M p := by
  unfold f_X11_system
  exact (ite_s (fun _ => ((fr_X11_system_52 (xnot_sub hp (by decide))).trans rfl)) (fun _ => (ite_s (fun _ => ((fr_X11_system_52 (xnot_sub hp (by decide))).trans rfl)) (fun _ => (ite_s (fun _ => (xb_ps ((fr_X11_fetch (xnot_sub hp (by decide))).trans rfl) (fun q7 hq7 => (xb_ss ((fr_X11_push (xnot_sub hp (by decide))).trans hq7) (fun q10 hq10 => ((xup_other (xnot_at hp (by decide) : p ≠ 15)).trans ((xup_other (xnot_at hp (by decide) : p ≠ 15)).trans hq10))))))) (fun _ => (ite_s (fun _ => (xb_ps ((fr_X11_pull (xnot_sub hp (by decide))).trans ((xup_other (xnot_at hp (by decide) : p ≠ 15)).trans rfl)) (fun q17 hq17 => ((xup_other (xnot_at hp (by decide) : p ≠ 15)).trans hq17)))) (fun _ => (ite_s (fun _ => ((xup_other (xnot_at hp (by decide) : p ≠ 15)).trans rfl)) (fun _ => (ite_s (fun _ => ((xup_other (xnot_at hp (by decide) : p ≠ 15)).trans rfl)) (fun _ => (xb_ss ((fr_X11_rest (xnot_sub hp (by decide))).trans rfl) (fun q27 hq27 => hq27))))))))))))))
theorem fr_X11_three_386 {p : Nat} {x2 : Int32} {M : St} (hp : xnot p [14, 15, 18, 19, 20] = true) : (f_X11_three_386 x2 M) p = M p := by
  unfold f_X11_three_386
  exact (xb_ss ((fr_X11_system (xnot_sub hp (by decide))).trans rfl) (fun q81 hq81 => hq81))
theorem fr_X11_three_324 {p : Nat} {x1 : Int32} {x2 : Int32} {M : St} (hp : xnot p [14, 15, 18, 19, 20] = true) : (f_X11_three_324 x1 x2 M) p = M p := by
  unfold f_X11_three_324
  exact (xb_ss ((fr_X11_extendOrStore (xnot_sub hp (by decide))).trans rfl) (fun q84 hq84 => hq84))
theorem fr_X11_three_336 {p : Nat} {x1 : Int32} {x2 : Int32} {M : St} (hp : xnot p [14, 15, 19] = true) : (f_X11_three_336 x1 x2 M) p = M p := by
  unfold f_X11_three_336
  exact (xb_ss ((fr_X11_loadMany (xnot_sub hp (by decide))).trans rfl) (fun q87 hq87 => hq87))
theorem fr_X11_three_372 {p : Nat} {M : St} (hp : xnot p [15] = true) : (f_X11_three_372 M) p = M p := by
  unfold f_X11_three_372
  exact ((xup_other (xnot_at hp (by decide) : p ≠ 15)).trans rfl)
theorem fr_X11_three_348 {p : Nat} {x1 : Int32} {x2 : Int32} {M : St} (hp : xnot p [14, 15, 18, 19, 20] = true) : (f_X11_three_348 x1 x2 M) p = M p := by
  unfold f_X11_three_348
  exact (xb_ss ((fr_X11_find (xnot_sub hp (by decide))).trans rfl) (fun q90 hq90 => (ite_s (fun _ => (xb_ss ((fr_X11_push (xnot_sub hp (by decide))).trans hq90) (fun q95 hq95 => ((fr_X11_three_372 (xnot_sub hp (by decide))).trans hq95)))) (fun _ => ((fr_X11_three_372 (xnot_sub hp (by decide))).trans hq90)))))
theorem fr_X11_three_25 {p : Nat} {x1 : Int32} {x2 : Int32} {M : St} (hp : xnot p [14, 15, 18, 19, 20] = true) : (f_X11_three_25 x1 x2 M) p = M p := by
  unfold f_X11_three_25
  exact (ite_s (fun _ => (xb_ss ((fr_X11_find (xnot_sub hp (by decide))).trans rfl) (fun q11 hq11 => (xb_ss ((fr_X11_store (xnot_sub hp (by decide))).trans hq11) (fun q14 hq14 => hq14))))) (fun _ => (ite_s (fun _ => ((fr_X11_three_386 (xnot_sub hp (by decide))).trans rfl)) (fun _ => (ite_s (fun _ => ((fr_X11_three_386 (xnot_sub hp (by decide))).trans rfl)) (fun _ => (ite_s (fun _ => ((fr_X11_three_386 (xnot_sub hp (by decide))).trans rfl)) (fun _ => (ite_s (fun _ => (xb_ps ((fr_X11_loadAt (xnot_sub hp (by decide))).trans rfl) (fun q21 hq21 => ((xup_other (xnot_at hp (by decide) : p ≠ 14)).trans hq21)))) (fun _ => (ite_s (fun _ => ((fr_X11_three_386 (xnot_sub hp (by decide))).trans rfl)) (fun _ => (ite_s (fun _ => ((fr_X11_three_386 (xnot_sub hp (by decide))).trans rfl)) (fun _ => (ite_s (fun _ => ((fr_X11_three_386 (xnot_sub hp (by decide))).trans rfl)) (fun _ => (ite_s (fun _ => (xb_ps ((fr_X11_loadAt (xnot_sub hp (by decide))).trans rfl) (fun q29 hq29 => (xb_ss ((fr_X11_setStatus (xnot_sub hp (by decide))).trans hq29) (fun q32 hq32 => hq32))))) (fun _ => (ite_s (fun _ => ((fr_X11_three_386 (xnot_sub hp (by decide))).trans rfl)) (fun _ => (ite_s (fun _ => ((fr_X11_three_386 (xnot_sub hp (by decide))).trans rfl)) (fun _ => (ite_s (fun _ => ((fr_X11_three_386 (xnot_sub hp (by decide))).trans rfl)) (fun _ => (ite_s (fun _ => (xb_ps ((fr_X11_loadAt (xnot_sub hp (by decide))).trans rfl) (fun q39 hq39 => (xb_ps ((fr_X11_tens (xnot_sub hp (by decide))).trans hq39) (fun q42 hq42 => (xb_ss ((fr_X11_store (xnot_sub hp (by decide))).trans hq42) (fun q45 hq45 => hq45))))))) (fun _ => (ite_s (fun _ => ((fr_X11_three_386 (xnot_sub hp (by decide))).trans rfl)) (fun _ => (ite_s (fun _ => ((fr_X11_three_386 (xnot_sub hp (by decide))).trans rfl)) (fun _ => (ite_s (fun _ => ((fr_X11_three_386 (xnot_sub hp (by decide))).trans rfl)) (fun _ => (ite_s (fun _ => (xb_ps ((fr_X11_loadAt (xnot_sub hp (by decide))).trans rfl) (fun q52 hq52 => (xb_ss ((fr_X11_test (xnot_sub hp (by decide))).trans hq52) (fun q55 hq55 => (xb_ss ((fr_X11_store (xnot_sub hp (by decide))).trans hq55) (fun q58 hq58 => hq58))))))) (fun _ => (ite_s (fun _ => (xb_ss ((fr_X11_find (xnot_sub hp (by decide))).trans rfl) (fun q62 hq62 => (ite_s (fun _ => (xb_ss ((fr_X11_push (xnot_sub hp (by decide))).trans hq62) (fun q71 hq71 => hq71))) (fun _ => (xb_ss ((fr_X11_test (xnot_sub hp (by decide))).trans ((xup_other (xnot_at hp (by decide) : p ≠ 15)).trans hq62)) (fun q67 hq67 => hq67))))))) (fun _ => (ite_s (fun _ => ((fr_X11_three_324 (xnot_sub hp (by decide))).trans rfl)) (fun _ => (ite_s (fun _ => ((fr_X11_three_324 (xnot_sub hp (by decide))).trans rfl)) (fun _ => (ite_s (fun _ => ((fr_X11_three_386 (xnot_sub hp (by decide))).trans rfl)) (fun _ => (ite_s (fun _ => ((fr_X11_three_336 (xnot_sub hp (by decide))).trans rfl)) (fun _ => (ite_s (fun _ => ((fr_X11_three_336 (xnot_sub hp (by decide))).trans rfl)) (fun _ => (ite_s (fun _ => ((fr_X11_three_348 (xnot_sub hp (by decide))).trans rfl)) (fun _ => (ite_s (fun _ => ((fr_X11_three_348 (xnot_sub hp (by decide))).trans rfl)) (fun _ => ((fr_X11_three_386 (xnot_sub hp (by decide))).trans rfl)))))))))))))))))))))))))))))))))))))))))))))))))))
theorem fr_X11_three {p : Nat} {a1 : Int32} {a2 : Int32} {M : St} (hp : xnot p [14, 15, 18, 19, 20] = true) : (f_X11_three a1 a2 M) p = M p := by
  unfold f_X11_three
  exact (ite_s (fun _ => ((fr_X11_three_25 (xnot_sub hp (by decide))).trans rfl)) (fun _ => (ite_s (fun _ => ((fr_X11_three_25 (xnot_sub hp (by decide))).trans rfl)) (fun _ => (xb_ss ((fr_X11_one (xnot_sub hp (by decide))).trans rfl) (fun q7 hq7 => hq7))))))
theorem fr_X11_addOrTake_75 {p : Nat} {s0 : Int32} {s1 : Int32} {M : St} (hp : xnot p [15] = true) : (f_X11_addOrTake_75 s0 s1 M) p = M p := by
  unfold f_X11_addOrTake_75
  exact ((xup_other (xnot_at hp (by decide) : p ≠ 15)).trans rfl)
theorem fr_X11_addOrTake_30 {p : Nat} {x3 : Int32} {x5 : Int32} {s0 : Int32} {s1 : Int32} {M : St} (hp : xnot p [15] = true) : (f_X11_addOrTake_30 x3 x5 s0 s1 M) p = M p := by
  unfold f_X11_addOrTake_30
  exact (ite_s (fun _ => ((fr_X11_addOrTake_75 (xnot_sub hp (by decide))).trans rfl)) (fun _ => ((fr_X11_addOrTake_75 (xnot_sub hp (by decide))).trans rfl)))
theorem fr_X11_addOrTake_17 {p : Nat} {x3 : Int32} {x4 : Int32} {x5 : Int32} {s0 : Int32} {s1 : Int32} {M : St} (hp : xnot p [14, 15, 19] = true) : (f_X11_addOrTake_17 x3 x4 x5 s0 s1 M) p = M p := by
  unfold f_X11_addOrTake_17
  exact (xb_ps ((fr_X11_loadAt (xnot_sub hp (by decide))).trans rfl) (fun q49 hq49 => (ite_s (fun _ => ((fr_X11_addOrTake_30 (xnot_sub hp (by decide))).trans hq49)) (fun _ => ((fr_X11_addOrTake_30 (xnot_sub hp (by decide))).trans hq49)))))
theorem fr_X11_addOrTake {p : Nat} {a1 : Int32} {a2 : Int32} {a3 : Int32} {a4 : Int32} {a5 : Int32} {M : St} (hp : xnot p [14, 15, 18, 19, 20] = true) : (f_X11_addOrTake a1 a2 a3 a4 a5 M) p = M p := by
  unfold f_X11_addOrTake
  exact (ite_s (fun _ => (ite_s (fun _ => ((fr_X11_addOrTake_17 (xnot_sub hp (by decide))).trans rfl)) (fun _ => ((fr_X11_addOrTake_17 (xnot_sub hp (by decide))).trans rfl)))) (fun _ => (ite_s (fun _ => (xb_ps ((fr_X11_loadAt (xnot_sub hp (by decide))).trans rfl) (fun q37 hq37 => (xb_ps ((fr_X11_sum (xnot_sub hp (by decide))).trans hq37) (fun q40 hq40 => (xb_ss ((fr_X11_keepIn (xnot_sub hp (by decide))).trans hq40) (fun q43 hq43 => hq43))))))) (fun _ => (ite_s (fun _ => (ite_s (fun _ => (xb_ps ((fr_X11_loadAt (xnot_sub hp (by decide))).trans rfl) (fun q7 hq7 => (xb_ps ((fr_X11_sum (xnot_sub hp (by decide))).trans hq7) (fun q10 hq10 => (xb_ss ((fr_X11_store (xnot_sub hp (by decide))).trans hq10) (fun q13 hq13 => hq13))))))) (fun _ => (xb_ps ((fr_X11_loadAt (xnot_sub hp (by decide))).trans rfl) (fun q17 hq17 => (xb_ps ((fr_X11_loadAt (xnot_sub hp (by decide))).trans hq17) (fun q20 hq20 => (xb_ps ((fr_X11_sum (xnot_sub hp (by decide))).trans hq20) (fun q23 hq23 => (xb_ss ((fr_X11_store (xnot_sub hp (by decide))).trans hq23) (fun q26 hq26 => hq26))))))))))) (fun _ => (xb_ps ((fr_X11_sum (xnot_sub hp (by decide))).trans rfl) (fun q30 hq30 => (xb_ss ((fr_X11_keepIn (xnot_sub hp (by decide))).trans hq30) (fun q33 hq33 => hq33))))))))))
theorem fr_X11_compare_35 {p : Nat} {x3 : Int32} {s0 : Int32} {s1 : Int32} {s2 : Int32} {M : St} (hp : xnot p [14] = true) : (f_X11_compare_35 x3 s0 s1 s2 M) p = M p := by
  unfold f_X11_compare_35
  exact (xb_ps ((fr_X11_sum (xnot_sub hp (by decide))).trans rfl) (fun q41 hq41 => hq41))
theorem fr_X11_compare_22 {p : Nat} {x3 : Int32} {x4 : Int32} {s0 : Int32} {s1 : Int32} {s3 : Int32} {M : St} (hp : xnot p [14, 15, 19] = true) : (f_X11_compare_22 x3 x4 s0 s1 s3 M) p = M p := by
  unfold f_X11_compare_22
  exact (xb_ps ((fr_X11_loadAt (xnot_sub hp (by decide))).trans rfl) (fun q33 hq33 => (ite_s (fun _ => ((fr_X11_compare_35 (xnot_sub hp (by decide))).trans hq33)) (fun _ => ((fr_X11_compare_35 (xnot_sub hp (by decide))).trans hq33)))))
theorem fr_X11_compare {p : Nat} {a1 : Int32} {a2 : Int32} {a3 : Int32} {a4 : Int32} {M : St} (hp : xnot p [14, 15, 18, 19, 20] = true) : (f_X11_compare a1 a2 a3 a4 M) p = M p := by
  unfold f_X11_compare
  exact (ite_s (fun _ => (ite_s (fun _ => ((fr_X11_compare_22 (xnot_sub hp (by decide))).trans rfl)) (fun _ => ((fr_X11_compare_22 (xnot_sub hp (by decide))).trans rfl)))) (fun _ => (ite_s (fun _ => (xb_ps ((fr_X11_loadAt (xnot_sub hp (by decide))).trans rfl) (fun q24 hq24 => (xb_ps ((fr_X11_sum (xnot_sub hp (by decide))).trans hq24) (fun q27 hq27 => hq27))))) (fun _ => (ite_s (fun _ => (xb_ps ((fr_X11_loadAt (xnot_sub hp (by decide))).trans rfl) (fun q14 hq14 => (xb_ps ((fr_X11_loadAt (xnot_sub hp (by decide))).trans hq14) (fun q17 hq17 => (xb_ps ((fr_X11_sum (xnot_sub hp (by decide))).trans hq17) (fun q20 hq20 => hq20))))))) (fun _ => (xb_ps ((fr_X11_loadAt (xnot_sub hp (by decide))).trans rfl) (fun q4 hq4 => (xb_ss ((fr_X11_store (xnot_sub hp (by decide))).trans hq4) (fun q7 hq7 => (xb_ss ((fr_X11_test (xnot_sub hp (by decide))).trans hq7) (fun q10 hq10 => hq10))))))))))))
theorem fr_X11_divide {p : Nat} {a1 : Int32} {a2 : Int64} {a3 : Int32} {a4 : Int32} {M : St} (hp : xnot p [14, 15] = true) : (f_X11_divide a1 a2 a3 a4 M) p = M p := by
  unfold f_X11_divide
  exact (ite_s (fun _ => (ite_s (fun _ => ((xup_other (xnot_at hp (by decide) : p ≠ 14)).trans rfl)) (fun _ => (ite_s (fun _ => (ite_s (fun _ => (xb_ss ((fr_X11_flag (xnot_sub hp (by decide))).trans rfl) (fun q9 hq9 => (xb_ss ((fr_X11_flag (xnot_sub hp (by decide))).trans hq9) (fun q12 hq12 => hq12))))) (fun _ => (xb_ss ((fr_X11_test (xnot_sub hp (by decide))).trans ((xup_other (xnot_at hp (by decide) : p ≠ 15)).trans rfl)) (fun q18 hq18 => hq18))))) (fun _ => (ite_s (fun _ => (xb_ss ((fr_X11_flag (xnot_sub hp (by decide))).trans rfl) (fun q24 hq24 => (xb_ss ((fr_X11_flag (xnot_sub hp (by decide))).trans hq24) (fun q27 hq27 => hq27))))) (fun _ => (ite_s (fun _ => (xb_ss ((fr_X11_flag (xnot_sub hp (by decide))).trans rfl) (fun q34 hq34 => (xb_ss ((fr_X11_flag (xnot_sub hp (by decide))).trans hq34) (fun q37 hq37 => hq37))))) (fun _ => (xb_ss ((fr_X11_test (xnot_sub hp (by decide))).trans ((xup_other (xnot_at hp (by decide) : p ≠ 15)).trans rfl)) (fun q43 hq43 => hq43))))))))))) (fun _ => rfl))
theorem fr_X11_inTens {p : Nat} {a1 : Int32} {a2 : Int32} {a3 : Int32} {M : St} (hp : xnot p [14, 15, 18, 19, 20] = true) : (f_X11_inTens a1 a2 a3 M) p = M p := by
  unfold f_X11_inTens
  exact (ite_s (fun _ => (xb_ps ((fr_X11_loadAt (xnot_sub hp (by decide))).trans rfl) (fun q3 hq3 => (xb_ps ((fr_X11_loadAt (xnot_sub hp (by decide))).trans hq3) (fun q6 hq6 => (xb_ps ((fr_X11_tens (xnot_sub hp (by decide))).trans hq6) (fun q9 hq9 => (xb_ss ((fr_X11_store (xnot_sub hp (by decide))).trans hq9) (fun q12 hq12 => hq12))))))))) (fun _ => (xb_ps ((fr_X11_tens (xnot_sub hp (by decide))).trans rfl) (fun q16 hq16 => (xb_ss ((fr_X11_keepIn (xnot_sub hp (by decide))).trans hq16) (fun q19 hq19 => hq19))))))
theorem fr_X11_exchange {p : Nat} {a1 : Int32} {a2 : Int32} {M : St} (hp : xnot p [15] = true) : (f_X11_exchange a1 a2 M) p = M p := by
  unfold f_X11_exchange
  exact ((xup_other (xnot_at hp (by decide) : p ≠ 15)).trans ((xup_other (xnot_at hp (by decide) : p ≠ 15)).trans rfl))
theorem fr_X11_logic_264 {p : Nat} {x2 : Int32} {x7 : Int32} {M : St} (hp : xnot p [14] = true) : (f_X11_logic_264 x2 x7 M) p = M p := by
  unfold f_X11_logic_264
  exact (xb_ss ((fr_X11_test (xnot_sub hp (by decide))).trans rfl) (fun q61 hq61 => hq61))
theorem fr_X11_logic_239 {p : Nat} {x2 : Int32} {x3 : Int32} {x4 : Int32} {s0 : Int32} {M : St} (hp : xnot p [14, 15, 18, 20] = true) : (f_X11_logic_239 x2 x3 x4 s0 M) p = M p := by
  unfold f_X11_logic_239
  exact (ite_s (fun _ => (xb_ss ((fr_X11_keepIn (xnot_sub hp (by decide))).trans rfl) (fun q49 hq49 => ((fr_X11_logic_264 (xnot_sub hp (by decide))).trans hq49)))) (fun _ => (xb_ss ((fr_X11_store (xnot_sub hp (by decide))).trans rfl) (fun q52 hq52 => ((fr_X11_logic_264 (xnot_sub hp (by decide))).trans hq52)))))
theorem fr_X11_logic_205 {p : Nat} {x1 : Int32} {x2 : Int32} {x3 : Int32} {x4 : Int32} {x5 : Int32} {M : St} (hp : xnot p [14, 15, 18, 19, 20] = true) : (f_X11_logic_205 x1 x2 x3 x4 x5 M) p = M p := by
  unfold f_X11_logic_205
  exact (xb_ps ((fr_X11_loadAt (xnot_sub hp (by decide))).trans rfl) (fun q26 hq26 => (ite_s (fun _ => ((fr_X11_logic_239 (xnot_sub hp (by decide))).trans hq26)) (fun _ => ((fr_X11_logic_239 (xnot_sub hp (by decide))).trans hq26)))))
theorem fr_X11_logic_201 {p : Nat} {s0 : Int32} {s1 : Int32} {M : St} (hp : xnot p [15] = true) : (f_X11_logic_201 s0 s1 M) p = M p := by
  unfold f_X11_logic_201
  exact (xb_ss ((fr_X11_exchange (xnot_sub hp (by decide))).trans rfl) (fun q55 hq55 => hq55))
theorem fr_X11_logic_194 {p : Nat} {x1 : Int32} {s0 : Int32} {M : St} (hp : xnot p [15] = true) : (f_X11_logic_194 x1 s0 M) p = M p := by
  unfold f_X11_logic_194
  exact ((fr_X11_logic_201 (xnot_sub hp (by decide))).trans rfl)
theorem fr_X11_logic_179 {p : Nat} {x1 : Int32} {x2 : Int32} {s0 : Int32} {M : St} (hp : xnot p [15] = true) : (f_X11_logic_179 x1 x2 s0 M) p = M p := by
  unfold f_X11_logic_179
  exact (ite_s (fun _ => (ite_s (fun _ => ((fr_X11_logic_194 (xnot_sub hp (by decide))).trans rfl)) (fun _ => ((fr_X11_logic_201 (xnot_sub hp (by decide))).trans rfl)))) (fun _ => ((fr_X11_logic_194 (xnot_sub hp (by decide))).trans rfl)))
theorem fr_X11_logic_166 {p : Nat} {x1 : Int32} {x2 : Int32} {x3 : Int32} {M : St} (hp : xnot p [15] = true) : (f_X11_logic_166 x1 x2 x3 M) p = M p := by
  unfold f_X11_logic_166
  exact (ite_s (fun _ => ((fr_X11_logic_179 (xnot_sub hp (by decide))).trans rfl)) (fun _ => ((fr_X11_logic_179 (xnot_sub hp (by decide))).trans rfl)))
theorem fr_X11_logic_144 {p : Nat} {s0 : Int32} {s1 : Int32} {s2 : Int32} {M : St} (hp : xnot p [14, 15, 18, 19, 20] = true) : (f_X11_logic_144 s0 s1 s2 M) p = M p := by
  unfold f_X11_logic_144
  exact (xb_ss ((fr_X11_inTens (xnot_sub hp (by decide))).trans rfl) (fun q38 hq38 => hq38))
theorem fr_X11_logic_110 {p : Nat} {x4 : Int32} {s0 : Int32} {s1 : Int64} {s2 : Int32} {M : St} (hp : xnot p [14, 15] = true) : (f_X11_logic_110 x4 s0 s1 s2 M) p = M p := by
  unfold f_X11_logic_110
  exact (xb_ss ((fr_X11_divide (xnot_sub hp (by decide))).trans rfl) (fun q58 hq58 => hq58))
theorem fr_X11_logic_97 {p : Nat} {x4 : Int32} {x6 : Int32} {s0 : Int64} {s1 : Int32} {M : St} (hp : xnot p [14, 15] = true) : (f_X11_logic_97 x4 x6 s0 s1 M) p = M p := by
  unfold f_X11_logic_97
  exact (ite_s (fun _ => ((fr_X11_logic_110 (xnot_sub hp (by decide))).trans rfl)) (fun _ => ((fr_X11_logic_110 (xnot_sub hp (by decide))).trans rfl)))
theorem fr_X11_logic_54 {p : Nat} {x3 : Int32} {s0 : Int32} {s1 : Int32} {M : St} (hp : xnot p [14, 15] = true) : (f_X11_logic_54 x3 s0 s1 M) p = M p := by
  unfold f_X11_logic_54
  exact (xb_ss ((fr_X11_test (xnot_sub hp (by decide))).trans ((xup_other (xnot_at hp (by decide) : p ≠ 15)).trans rfl)) (fun q44 hq44 => hq44))
theorem fr_X11_logic {p : Nat} {a1 : Int32} {a2 : Int32} {a3 : Int32} {a4 : Int32} {a5 : Int32} {M : St} (hp : xnot p [14, 15, 18, 19, 20] = true) : (f_X11_logic a1 a2 a3 a4 a5 M) p = M p := by
  unfold f_X11_logic
  exact (ite_s (fun _ => (xb_ps ((fr_X11_loadAt (xnot_sub hp (by decide))).trans rfl) (fun q17 hq17 => (ite_s (fun _ => (ite_s (fun _ => ((fr_X11_logic_97 (xnot_sub hp (by decide))).trans hq17)) (fun _ => ((fr_X11_logic_97 (xnot_sub hp (by decide))).trans hq17)))) (fun _ => (ite_s (fun _ => ((fr_X11_logic_54 (xnot_sub hp (by decide))).trans hq17)) (fun _ => ((fr_X11_logic_54 (xnot_sub hp (by decide))).trans hq17)))))))) (fun _ => (ite_s (fun _ => ((fr_X11_logic_205 (xnot_sub hp (by decide))).trans rfl)) (fun _ => (ite_s (fun _ => ((fr_X11_logic_205 (xnot_sub hp (by decide))).trans rfl)) (fun _ => (ite_s (fun _ => (ite_s (fun _ => ((fr_X11_logic_144 (xnot_sub hp (by decide))).trans rfl)) (fun _ => ((fr_X11_logic_144 (xnot_sub hp (by decide))).trans rfl)))) (fun _ => (ite_s (fun _ => (ite_s (fun _ => ((fr_X11_logic_166 (xnot_sub hp (by decide))).trans rfl)) (fun _ => ((fr_X11_logic_179 (xnot_sub hp (by decide))).trans rfl)))) (fun _ => ((fr_X11_logic_166 (xnot_sub hp (by decide))).trans rfl)))))))))))
theorem fr_X11_quick_142 {p : Nat} {s0 : Int32} {s1 : Int32} {M : St} (hp : xnot p [14, 15, 18, 20] = true) : (f_X11_quick_142 s0 s1 M) p = M p := by
  unfold f_X11_quick_142
  exact (xb_ss ((fr_X11_store (xnot_sub hp (by decide))).trans rfl) (fun q50 hq50 => hq50))
theorem fr_X11_quick_109 {p : Nat} {x1 : Int32} {s0 : Int32} {s1 : Int32} {M : St} (hp : xnot p [14, 15, 18, 19, 20] = true) : (f_X11_quick_109 x1 s0 s1 M) p = M p := by
  unfold f_X11_quick_109
  exact (ite_s (fun _ => (xb_ps ((fr_X11_fetch (xnot_sub hp (by decide))).trans rfl) (fun q30 hq30 => (ite_s (fun _ => (xb_ss ((fr_X11_keepIn (xnot_sub hp (by decide))).trans hq30) (fun q35 hq35 => (ite_s (fun _ => hq35) (fun _ => ((xup_other (xnot_at hp (by decide) : p ≠ 15)).trans hq35)))))) (fun _ => hq30))))) (fun _ => (xb_ss ((fr_X11_find (xnot_sub hp (by decide))).trans rfl) (fun q43 hq43 => (ite_s (fun _ => ((fr_X11_quick_142 (xnot_sub hp (by decide))).trans hq43)) (fun _ => ((fr_X11_quick_142 (xnot_sub hp (by decide))).trans hq43)))))))
theorem fr_X11_quick_70 {p : Nat} {s0 : Int32} {s1 : Int32} {M : St} (hp : xnot p [15] = true) : (f_X11_quick_70 s0 s1 M) p = M p := by
  unfold f_X11_quick_70
  exact ((xup_other (xnot_at hp (by decide) : p ≠ 15)).trans rfl)
theorem fr_X11_quick_10 {p : Nat} {x1 : Int32} {x2 : Int32} {x3 : Int32} {x4 : Int32} {s0 : Int32} {M : St} (hp : xnot p [14, 15, 18, 19, 20] = true) : (f_X11_quick_10 x1 x2 x3 x4 s0 M) p = M p := by
  unfold f_X11_quick_10
  exact (ite_s (fun _ => (ite_s (fun _ => ((fr_X11_quick_109 (xnot_sub hp (by decide))).trans rfl)) (fun _ => ((fr_X11_quick_109 (xnot_sub hp (by decide))).trans rfl)))) (fun _ => (xb_ss ((fr_X11_find (xnot_sub hp (by decide))).trans rfl) (fun q9 hq9 => (ite_s (fun _ => (ite_s (fun _ => ((fr_X11_quick_70 (xnot_sub hp (by decide))).trans hq9)) (fun _ => ((fr_X11_quick_70 (xnot_sub hp (by decide))).trans hq9)))) (fun _ => (xb_ps ((fr_X11_load (xnot_sub hp (by decide))).trans hq9) (fun q13 hq13 => (xb_ps ((fr_X11_sum (xnot_sub hp (by decide))).trans hq13) (fun q16 hq16 => (xb_ss ((fr_X11_store (xnot_sub hp (by decide))).trans hq16) (fun q19 hq19 => hq19))))))))))))
theorem fr_X11_quick {p : Nat} {a1 : Int32} {a2 : Int32} {a3 : Int32} {a4 : Int32} {M : St} (hp : xnot p [14, 15, 18, 19, 20] = true) : (f_X11_quick a1 a2 a3 a4 M) p = M p := by
  unfold f_X11_quick
  exact (ite_s (fun _ => ((fr_X11_quick_10 (xnot_sub hp (by decide))).trans rfl)) (fun _ => ((fr_X11_quick_10 (xnot_sub hp (by decide))).trans rfl)))
theorem fr_X11_branch_69 {p : Nat} {x2 : Int32} {x3 : Int32} {M : St} (hp : xnot p [15] = true) : (f_X11_branch_69 x2 x3 M) p = M p := by
  unfold f_X11_branch_69
  exact ((xup_other (xnot_at hp (by decide) : p ≠ 15)).trans rfl)
theorem fr_X11_branch_54 {p : Nat} {x2 : Int32} {x3 : Int32} {x4 : Int32} {M : St} (hp : xnot p [15] = true) : (f_X11_branch_54 x2 x3 x4 M) p = M p := by
  unfold f_X11_branch_54
  exact (ite_s (fun _ => ((fr_X11_branch_69 (xnot_sub hp (by decide))).trans rfl)) (fun _ => (ite_s (fun _ => rfl) (fun _ => ((fr_X11_branch_69 (xnot_sub hp (by decide))).trans rfl)))))
theorem fr_X11_branch_26 {p : Nat} {x1 : Int32} {x2 : Int32} {s0 : Int32} {M : St} (hp : xnot p [14, 15, 18, 20] = true) : (f_X11_branch_26 x1 x2 s0 M) p = M p := by
  unfold f_X11_branch_26
  exact (ite_s (fun _ => (xb_ss ((fr_X11_push (xnot_sub hp (by decide))).trans rfl) (fun q9 hq9 => ((fr_X11_branch_54 (xnot_sub hp (by decide))).trans hq9)))) (fun _ => ((fr_X11_branch_54 (xnot_sub hp (by decide))).trans rfl)))
theorem fr_X11_branch {p : Nat} {a1 : Int32} {M : St} (hp : xnot p [14, 15, 18, 19, 20] = true) : (f_X11_branch a1 M) p = M p := by
  unfold f_X11_branch
  exact (ite_s (fun _ => (xb_ps ((fr_X11_fetch (xnot_sub hp (by decide))).trans rfl) (fun q3 hq3 => ((fr_X11_branch_26 (xnot_sub hp (by decide))).trans hq3)))) (fun _ => ((fr_X11_branch_26 (xnot_sub hp (by decide))).trans rfl)))
theorem fr_X11_peripheral_105 {p : Nat} {rec : Int32 → Int32 → Int32 → Int32 → Int32 → Int32 → St → St} {x2 : Int32} {x3 : Int32} {x4 : Int32} {x5 : Int32} {x6 : Int32} {x7 : Int32} {M : St} (hp : xnot p [] = true) (hrec : ∀ (y0 : Int32) (y1 : Int32) (y2 : Int32) (y3 : Int32) (y4 : Int32) (y5 : Int32) (N : St), (rec y0 y1 y2 y3 y4 y5 N) p = N p) : (f_X11_peripheral_105 rec x2 x3 x4 x5 x6 x7 M) p = M p := by
  unfold f_X11_peripheral_105
  exact ((hrec _ _ _ _ _ _ _).trans rfl)
theorem fr_X11_peripheral_36 {p : Nat} (hp : xnot p [14, 15, 18, 19, 20] = true) : ∀ (n : Nat) (x2 : Int32) (x3 : Int32) (x4 : Int32) (x5 : Int32) (x6 : Int32) (x7 : Int32) (M : St), (f_X11_peripheral_36 n x2 x3 x4 x5 x6 x7 M) p = M p := by
  intro n
  induction n with
  | zero => intros; rfl
  | succ n ih =>
    intro x2 x3 x4 x5 x6 x7 M
    unfold f_X11_peripheral_36
    exact (ite_s (fun _ => (ite_s (fun _ => rfl) (fun _ => (xb_ss ((fr_X11_keepIn (xnot_sub hp (by decide))).trans rfl) (fun q11 hq11 => hq11))))) (fun _ => (ite_s (fun _ => (xb_ss ((fr_X11_write (xnot_sub hp (by decide))).trans rfl) (fun q18 hq18 => ((fr_X11_peripheral_105 (xnot_sub hp (by decide)) ih).trans hq18)))) (fun _ => (xb_ps ((fr_X11_read (xnot_sub hp (by decide))).trans rfl) (fun q22 hq22 => ((fr_X11_peripheral_105 (xnot_sub hp (by decide)) ih).trans hq22)))))))
theorem fr_X11_peripheral_28 {p : Nat} {x2 : Int32} {x3 : Int32} {x4 : Int32} {s0 : Int32} {M : St} (hp : xnot p [14, 15, 18, 19, 20] = true) : (f_X11_peripheral_28 x2 x3 x4 s0 M) p = M p := by
  unfold f_X11_peripheral_28
  exact ((fr_X11_peripheral_36 (xnot_sub hp (by decide)) _ _ _ _ _ _ _ _).trans rfl)
theorem fr_X11_peripheral {p : Nat} {a1 : Int32} {a2 : Int32} {a3 : Int32} {M : St} (hp : xnot p [14, 15, 18, 19, 20] = true) : (f_X11_peripheral a1 a2 a3 M) p = M p := by
  unfold f_X11_peripheral
  exact (xb_ps ((fr_X11_fetch (xnot_sub hp (by decide))).trans rfl) (fun q1 hq1 => (ite_s (fun _ => ((fr_X11_peripheral_28 (xnot_sub hp (by decide))).trans hq1)) (fun _ => ((fr_X11_peripheral_28 (xnot_sub hp (by decide))).trans hq1)))))
theorem fr_X11_bits_101 {p : Nat} {s0 : Int32} {s1 : Int32} {M : St} (hp : xnot p [14, 15, 18, 20] = true) : (f_X11_bits_101 s0 s1 M) p = M p := by
  unfold f_X11_bits_101
  exact (xb_ss ((fr_X11_store (xnot_sub hp (by decide))).trans rfl) (fun q24 hq24 => hq24))
theorem fr_X11_bits_58 {p : Nat} {x2 : Int32} {x4 : Int32} {x5 : Int32} {x6 : Int32} {s0 : Int32} {s1 : Int32} {M : St} (hp : xnot p [14, 15, 18, 20] = true) : (f_X11_bits_58 x2 x4 x5 x6 s0 s1 M) p = M p := by
  unfold f_X11_bits_58
  exact (xb_ss ((fr_X11_flag (xnot_sub hp (by decide))).trans rfl) (fun q12 hq12 => (ite_s (fun _ => hq12) (fun _ => (ite_s (fun _ => ((fr_X11_bits_101 (xnot_sub hp (by decide))).trans hq12)) (fun _ => (ite_s (fun _ => ((fr_X11_bits_101 (xnot_sub hp (by decide))).trans hq12)) (fun _ => ((fr_X11_bits_101 (xnot_sub hp (by decide))).trans hq12)))))))))
theorem fr_X11_bits_31 {p : Nat} {x1 : Int32} {x2 : Int32} {x4 : Int32} {s0 : Int32} {s1 : Int32} {M : St} (hp : xnot p [14, 15, 18, 19, 20] = true) : (f_X11_bits_31 x1 x2 x4 s0 s1 M) p = M p := by
  unfold f_X11_bits_31
  exact (xb_ps ((fr_X11_loadAt (xnot_sub hp (by decide))).trans rfl) (fun q7 hq7 => (ite_s (fun _ => ((fr_X11_bits_58 (xnot_sub hp (by decide))).trans hq7)) (fun _ => ((fr_X11_bits_58 (xnot_sub hp (by decide))).trans hq7)))))
theorem fr_X11_bits_11 {p : Nat} {x1 : Int32} {x2 : Int32} {x3 : Int32} {s0 : Int32} {M : St} (hp : xnot p [14, 15, 18, 19, 20] = true) : (f_X11_bits_11 x1 x2 x3 s0 M) p = M p := by
  unfold f_X11_bits_11
  exact (ite_s (fun _ => ((fr_X11_bits_31 (xnot_sub hp (by decide))).trans rfl)) (fun _ => ((fr_X11_bits_31 (xnot_sub hp (by decide))).trans rfl)))
theorem fr_X11_bits {p : Nat} {a1 : Int32} {a2 : Int32} {a3 : Int32} {M : St} (hp : xnot p [14, 15, 18, 19, 20] = true) : (f_X11_bits a1 a2 a3 M) p = M p := by
  unfold f_X11_bits
  exact (ite_s (fun _ => ((fr_X11_bits_11 (xnot_sub hp (by decide))).trans rfl)) (fun _ => ((fr_X11_bits_11 (xnot_sub hp (by decide))).trans rfl)))
theorem fr_X11_twelve_54 {p : Nat} {s0 : Int32} {s1 : Int32} {s2 : Int32} {M : St} (hp : xnot p [14, 15, 18, 19, 20] = true) : (f_X11_twelve_54 s0 s1 s2 M) p = M p := by
  unfold f_X11_twelve_54
  exact (xb_ss ((fr_X11_bits (xnot_sub hp (by decide))).trans rfl) (fun q52 hq52 => hq52))
theorem fr_X11_twelve_33 {p : Nat} {x1 : Int32} {x2 : Int32} {x3 : Int32} {x4 : Int32} {M : St} (hp : xnot p [14, 15, 18, 19, 20] = true) : (f_X11_twelve_33 x1 x2 x3 x4 M) p = M p := by
  unfold f_X11_twelve_33
  exact (ite_s (fun _ => (xb_ps ((fr_X11_fetch (xnot_sub hp (by decide))).trans rfl) (fun q20 hq20 => ((fr_X11_twelve_54 (xnot_sub hp (by decide))).trans hq20)))) (fun _ => ((fr_X11_twelve_54 (xnot_sub hp (by decide))).trans rfl)))
theorem fr_X11_twelve_239 {p : Nat} {s0 : Int32} {s1 : Int32} {s2 : Int32} {s3 : Int32} {s5 : Int32} {M : St} (hp : xnot p [14, 15, 18, 20] = true) : (f_X11_twelve_239 s0 s1 s2 s3 s5 M) p = M p := by
  unfold f_X11_twelve_239
  exact (xb_ps ((fr_X11_sum (xnot_sub hp (by decide))).trans rfl) (fun q66 hq66 => (xb_ss ((fr_X11_store (xnot_sub hp (by decide))).trans hq66) (fun q69 hq69 => hq69))))
theorem fr_X11_twelve_221 {p : Nat} {x2 : Int32} {x3 : Int32} {x5 : Int32} {x6 : Int32} {M : St} (hp : xnot p [14, 15, 18, 20] = true) : (f_X11_twelve_221 x2 x3 x5 x6 M) p = M p := by
  unfold f_X11_twelve_221
  exact (ite_s (fun _ => ((fr_X11_twelve_239 (xnot_sub hp (by decide))).trans rfl)) (fun _ => ((fr_X11_twelve_239 (xnot_sub hp (by decide))).trans rfl)))
theorem fr_X11_twelve_279 {p : Nat} {x2 : Int32} {s0 : Int32} {M : St} (hp : xnot p [14, 15, 18, 20] = true) : (f_X11_twelve_279 x2 s0 M) p = M p := by
  unfold f_X11_twelve_279
  exact (xb_ss ((fr_X11_store (xnot_sub hp (by decide))).trans rfl) (fun q58 hq58 => (xb_ss ((fr_X11_test (xnot_sub hp (by decide))).trans hq58) (fun q61 hq61 => hq61))))
theorem fr_X11_twelve_151 {p : Nat} {x2 : Int32} {s0 : Int32} {M : St} (hp : xnot p [14, 15] = true) : (f_X11_twelve_151 x2 s0 M) p = M p := by
  unfold f_X11_twelve_151
  exact (ite_s (fun _ => ((xup_other (xnot_at hp (by decide) : p ≠ 14)).trans rfl)) (fun _ => (xb_ss ((fr_X11_setStatus (xnot_sub hp (by decide))).trans rfl) (fun q79 hq79 => hq79))))
theorem fr_X11_twelve_119 {p : Nat} {x2 : Int32} {x3 : Int32} {x6 : Int32} {s0 : Int32} {M : St} (hp : xnot p [14, 15] = true) : (f_X11_twelve_119 x2 x3 x6 s0 M) p = M p := by
  unfold f_X11_twelve_119
  exact (ite_s (fun _ => ((fr_X11_twelve_151 (xnot_sub hp (by decide))).trans rfl)) (fun _ => (ite_s (fun _ => ((fr_X11_twelve_151 (xnot_sub hp (by decide))).trans rfl)) (fun _ => ((fr_X11_twelve_151 (xnot_sub hp (by decide))).trans rfl)))))
theorem fr_X11_twelve_103 {p : Nat} {x2 : Int32} {x3 : Int32} {x5 : Int32} {s0 : Int32} {M : St} (hp : xnot p [14, 15] = true) : (f_X11_twelve_103 x2 x3 x5 s0 M) p = M p := by
  unfold f_X11_twelve_103
  exact (ite_s (fun _ => ((fr_X11_twelve_119 (xnot_sub hp (by decide))).trans rfl)) (fun _ => ((fr_X11_twelve_119 (xnot_sub hp (by decide))).trans rfl)))
theorem fr_X11_twelve_72 {p : Nat} {x1 : Int32} {x2 : Int32} {x3 : Int32} {s0 : Int32} {M : St} (hp : xnot p [14, 15, 18, 19, 20] = true) : (f_X11_twelve_72 x1 x2 x3 s0 M) p = M p := by
  unfold f_X11_twelve_72
  exact (xb_ps ((fr_X11_number (xnot_sub hp (by decide))).trans rfl) (fun q23 hq23 => (ite_s (fun _ => (xb_ps ((fr_X11_loadAt (xnot_sub hp (by decide))).trans hq23) (fun q31 hq31 => (ite_s (fun _ => (xb_ps ((fr_X11_sum (xnot_sub hp (by decide))).trans hq31) (fun q46 hq46 => hq46))) (fun _ => (ite_s (fun _ => ((fr_X11_twelve_221 (xnot_sub hp (by decide))).trans hq31)) (fun _ => (ite_s (fun _ => ((fr_X11_twelve_221 (xnot_sub hp (by decide))).trans hq31)) (fun _ => (ite_s (fun _ => ((fr_X11_twelve_279 (xnot_sub hp (by decide))).trans hq31)) (fun _ => (ite_s (fun _ => ((fr_X11_twelve_279 (xnot_sub hp (by decide))).trans hq31)) (fun _ => ((fr_X11_twelve_279 (xnot_sub hp (by decide))).trans hq31)))))))))))))) (fun _ => (ite_s (fun _ => ((fr_X11_twelve_103 (xnot_sub hp (by decide))).trans hq23)) (fun _ => ((fr_X11_twelve_103 (xnot_sub hp (by decide))).trans hq23)))))))
theorem fr_X11_twelve_23 {p : Nat} {x1 : Int32} {x2 : Int32} {x3 : Int32} {x4 : Int32} {M : St} (hp : xnot p [14, 15, 18, 19, 20] = true) : (f_X11_twelve_23 x1 x2 x3 x4 M) p = M p := by
  unfold f_X11_twelve_23
  exact (ite_s (fun _ => (ite_s (fun _ => ((fr_X11_twelve_33 (xnot_sub hp (by decide))).trans rfl)) (fun _ => (ite_s (fun _ => ((fr_X11_twelve_72 (xnot_sub hp (by decide))).trans rfl)) (fun _ => ((fr_X11_twelve_72 (xnot_sub hp (by decide))).trans rfl)))))) (fun _ => ((fr_X11_twelve_33 (xnot_sub hp (by decide))).trans rfl)))
theorem fr_X11_twelve {p : Nat} {a1 : Int32} {a2 : Int32} {a3 : Int32} {a4 : Int32} {M : St} (hp : xnot p [14, 15, 18, 19, 20] = true) : (f_X11_twelve a1 a2 a3 a4 M) p = M p := by
  unfold f_X11_twelve
  exact (ite_s (fun _ => ((fr_X11_twelve_23 (xnot_sub hp (by decide))).trans rfl)) (fun _ => (ite_s (fun _ => (xb_ss ((fr_X11_peripheral (xnot_sub hp (by decide))).trans rfl) (fun q5 hq5 => hq5))) (fun _ => ((fr_X11_twelve_23 (xnot_sub hp (by decide))).trans rfl)))))
theorem fr_X11_shifted_295 {p : Nat} {x6 : Int32} {s0 : Int32} {s1 : Int32} {M : St} (hp : xnot p [14] = true) : (f_X11_shifted_295 x6 s0 s1 M).2 p = M p := by
  unfold f_X11_shifted_295
  exact (xb_sp ((fr_X11_flag (xnot_sub hp (by decide))).trans rfl) (fun q36 hq36 => hq36))
theorem fr_X11_shifted_294 {p : Nat} {x6 : Int32} {s0 : Int32} {M : St} (hp : xnot p [14] = true) : (f_X11_shifted_294 x6 s0 M).2 p = M p := by
  unfold f_X11_shifted_294
  exact ((fr_X11_shifted_295 (xnot_sub hp (by decide))).trans rfl)
theorem fr_X11_shifted_254 {p : Nat} {rec : Int32 → Int32 → Int32 → Int32 → Int32 → Int32 → Int32 → Int32 → Int32 → St → Int32 × St} {x2 : Int32} {x3 : Int32} {x4 : Int32} {x5 : Int32} {x6 : Int32} {x7 : Int32} {x8 : Int32} {x9 : Int32} {x10 : Int32} {M : St} (hp : xnot p [] = true) (hrec : ∀ (y0 : Int32) (y1 : Int32) (y2 : Int32) (y3 : Int32) (y4 : Int32) (y5 : Int32) (y6 : Int32) (y7 : Int32) (y8 : Int32) (N : St), (rec y0 y1 y2 y3 y4 y5 y6 y7 y8 N).2 p = N p) : (f_X11_shifted_254 rec x2 x3 x4 x5 x6 x7 x8 x9 x10 M).2 p = M p := by
  unfold f_X11_shifted_254
  exact ((hrec _ _ _ _ _ _ _ _ _ _).trans rfl)
theorem fr_X11_shifted_239 {p : Nat} {rec : Int32 → Int32 → Int32 → Int32 → Int32 → Int32 → Int32 → Int32 → Int32 → St → Int32 × St} {x2 : Int32} {x3 : Int32} {x4 : Int32} {x5 : Int32} {x6 : Int32} {x7 : Int32} {x8 : Int32} {x10 : Int32} {s0 : Int32} {M : St} (hp : xnot p [14] = true) (hrec : ∀ (y0 : Int32) (y1 : Int32) (y2 : Int32) (y3 : Int32) (y4 : Int32) (y5 : Int32) (y6 : Int32) (y7 : Int32) (y8 : Int32) (N : St), (rec y0 y1 y2 y3 y4 y5 y6 y7 y8 N).2 p = N p) : (f_X11_shifted_239 rec x2 x3 x4 x5 x6 x7 x8 x10 s0 M).2 p = M p := by
  unfold f_X11_shifted_239
  exact (ite_p (fun _ => ((fr_X11_shifted_254 (xnot_sub hp (by decide)) hrec).trans rfl)) (fun _ => (xb_sp ((fr_X11_flag (xnot_sub hp (by decide))).trans rfl) (fun q80 hq80 => ((fr_X11_shifted_254 (xnot_sub hp (by decide)) hrec).trans hq80)))))
theorem fr_X11_shifted_234 {p : Nat} {rec : Int32 → Int32 → Int32 → Int32 → Int32 → Int32 → Int32 → Int32 → Int32 → St → Int32 × St} {x2 : Int32} {x3 : Int32} {x4 : Int32} {x5 : Int32} {x6 : Int32} {x7 : Int32} {x8 : Int32} {x10 : Int32} {M : St} (hp : xnot p [14] = true) (hrec : ∀ (y0 : Int32) (y1 : Int32) (y2 : Int32) (y3 : Int32) (y4 : Int32) (y5 : Int32) (y6 : Int32) (y7 : Int32) (y8 : Int32) (N : St), (rec y0 y1 y2 y3 y4 y5 y6 y7 y8 N).2 p = N p) : (f_X11_shifted_234 rec x2 x3 x4 x5 x6 x7 x8 x10 M).2 p = M p := by
  unfold f_X11_shifted_234
  exact ((fr_X11_shifted_239 (xnot_sub hp (by decide)) hrec).trans rfl)
theorem fr_X11_shifted_229 {p : Nat} {rec : Int32 → Int32 → Int32 → Int32 → Int32 → Int32 → Int32 → Int32 → Int32 → St → Int32 × St} {x2 : Int32} {x3 : Int32} {x4 : Int32} {x5 : Int32} {x6 : Int32} {x7 : Int32} {x8 : Int32} {x10 : Int32} {x11 : Int32} {s0 : Int32} {M : St} (hp : xnot p [14] = true) (hrec : ∀ (y0 : Int32) (y1 : Int32) (y2 : Int32) (y3 : Int32) (y4 : Int32) (y5 : Int32) (y6 : Int32) (y7 : Int32) (y8 : Int32) (N : St), (rec y0 y1 y2 y3 y4 y5 y6 y7 y8 N).2 p = N p) : (f_X11_shifted_229 rec x2 x3 x4 x5 x6 x7 x8 x10 x11 s0 M).2 p = M p := by
  unfold f_X11_shifted_229
  exact (ite_p (fun _ => ((fr_X11_shifted_239 (xnot_sub hp (by decide)) hrec).trans rfl)) (fun _ => ((fr_X11_shifted_234 (xnot_sub hp (by decide)) hrec).trans rfl)))
theorem fr_X11_shifted_209 {p : Nat} {rec : Int32 → Int32 → Int32 → Int32 → Int32 → Int32 → Int32 → Int32 → Int32 → St → Int32 × St} {x2 : Int32} {x3 : Int32} {x4 : Int32} {x5 : Int32} {x7 : Int32} {x8 : Int32} {x9 : Int32} {x10 : Int32} {x11 : Int32} {s0 : Int32} {M : St} (hp : xnot p [14] = true) (hrec : ∀ (y0 : Int32) (y1 : Int32) (y2 : Int32) (y3 : Int32) (y4 : Int32) (y5 : Int32) (y6 : Int32) (y7 : Int32) (y8 : Int32) (N : St), (rec y0 y1 y2 y3 y4 y5 y6 y7 y8 N).2 p = N p) : (f_X11_shifted_209 rec x2 x3 x4 x5 x7 x8 x9 x10 x11 s0 M).2 p = M p := by
  unfold f_X11_shifted_209
  exact (ite_p (fun _ => (ite_p (fun _ => ((fr_X11_shifted_229 (xnot_sub hp (by decide)) hrec).trans rfl)) (fun _ => ((fr_X11_shifted_229 (xnot_sub hp (by decide)) hrec).trans rfl)))) (fun _ => ((fr_X11_shifted_234 (xnot_sub hp (by decide)) hrec).trans rfl)))
theorem fr_X11_shifted_208 {p : Nat} {rec : Int32 → Int32 → Int32 → Int32 → Int32 → Int32 → Int32 → Int32 → Int32 → St → Int32 × St} {x2 : Int32} {x3 : Int32} {x4 : Int32} {x5 : Int32} {x7 : Int32} {x8 : Int32} {x9 : Int32} {x10 : Int32} {x11 : Int32} {s0 : Int32} {s1 : Int32} {M : St} (hp : xnot p [14] = true) (hrec : ∀ (y0 : Int32) (y1 : Int32) (y2 : Int32) (y3 : Int32) (y4 : Int32) (y5 : Int32) (y6 : Int32) (y7 : Int32) (y8 : Int32) (N : St), (rec y0 y1 y2 y3 y4 y5 y6 y7 y8 N).2 p = N p) : (f_X11_shifted_208 rec x2 x3 x4 x5 x7 x8 x9 x10 x11 s0 s1 M).2 p = M p := by
  unfold f_X11_shifted_208
  exact ((fr_X11_shifted_209 (xnot_sub hp (by decide)) hrec).trans rfl)
theorem fr_X11_shifted_179 {p : Nat} {rec : Int32 → Int32 → Int32 → Int32 → Int32 → Int32 → Int32 → Int32 → Int32 → St → Int32 × St} {x2 : Int32} {x3 : Int32} {x4 : Int32} {x5 : Int32} {x7 : Int32} {x8 : Int32} {x9 : Int32} {x10 : Int32} {x11 : Int32} {s0 : Int32} {s1 : Int32} {M : St} (hp : xnot p [14] = true) (hrec : ∀ (y0 : Int32) (y1 : Int32) (y2 : Int32) (y3 : Int32) (y4 : Int32) (y5 : Int32) (y6 : Int32) (y7 : Int32) (y8 : Int32) (N : St), (rec y0 y1 y2 y3 y4 y5 y6 y7 y8 N).2 p = N p) : (f_X11_shifted_179 rec x2 x3 x4 x5 x7 x8 x9 x10 x11 s0 s1 M).2 p = M p := by
  unfold f_X11_shifted_179
  exact ((fr_X11_shifted_209 (xnot_sub hp (by decide)) hrec).trans rfl)
theorem fr_X11_shifted_158 {p : Nat} {rec : Int32 → Int32 → Int32 → Int32 → Int32 → Int32 → Int32 → Int32 → Int32 → St → Int32 × St} {x2 : Int32} {x3 : Int32} {x4 : Int32} {x5 : Int32} {x6 : Int32} {x7 : Int32} {x8 : Int32} {x9 : Int32} {x10 : Int32} {x11 : Int32} {s0 : Int32} {M : St} (hp : xnot p [14] = true) (hrec : ∀ (y0 : Int32) (y1 : Int32) (y2 : Int32) (y3 : Int32) (y4 : Int32) (y5 : Int32) (y6 : Int32) (y7 : Int32) (y8 : Int32) (N : St), (rec y0 y1 y2 y3 y4 y5 y6 y7 y8 N).2 p = N p) : (f_X11_shifted_158 rec x2 x3 x4 x5 x6 x7 x8 x9 x10 x11 s0 M).2 p = M p := by
  unfold f_X11_shifted_158
  exact (ite_p (fun _ => (ite_p (fun _ => ((fr_X11_shifted_208 (xnot_sub hp (by decide)) hrec).trans rfl)) (fun _ => ((fr_X11_shifted_208 (xnot_sub hp (by decide)) hrec).trans rfl)))) (fun _ => (ite_p (fun _ => ((fr_X11_shifted_179 (xnot_sub hp (by decide)) hrec).trans rfl)) (fun _ => ((fr_X11_shifted_179 (xnot_sub hp (by decide)) hrec).trans rfl)))))
theorem fr_X11_shifted_125 {p : Nat} {rec : Int32 → Int32 → Int32 → Int32 → Int32 → Int32 → Int32 → Int32 → Int32 → St → Int32 × St} {x2 : Int32} {x3 : Int32} {x4 : Int32} {x5 : Int32} {x6 : Int32} {x7 : Int32} {x8 : Int32} {x9 : Int32} {x10 : Int32} {x11 : Int32} {M : St} (hp : xnot p [14] = true) (hrec : ∀ (y0 : Int32) (y1 : Int32) (y2 : Int32) (y3 : Int32) (y4 : Int32) (y5 : Int32) (y6 : Int32) (y7 : Int32) (y8 : Int32) (N : St), (rec y0 y1 y2 y3 y4 y5 y6 y7 y8 N).2 p = N p) : (f_X11_shifted_125 rec x2 x3 x4 x5 x6 x7 x8 x9 x10 x11 M).2 p = M p := by
  unfold f_X11_shifted_125
  exact ((fr_X11_shifted_158 (xnot_sub hp (by decide)) hrec).trans rfl)
theorem fr_X11_shifted_157 {p : Nat} {rec : Int32 → Int32 → Int32 → Int32 → Int32 → Int32 → Int32 → Int32 → Int32 → St → Int32 × St} {x2 : Int32} {x3 : Int32} {x4 : Int32} {x5 : Int32} {x6 : Int32} {x7 : Int32} {x8 : Int32} {x9 : Int32} {x10 : Int32} {x11 : Int32} {M : St} (hp : xnot p [14] = true) (hrec : ∀ (y0 : Int32) (y1 : Int32) (y2 : Int32) (y3 : Int32) (y4 : Int32) (y5 : Int32) (y6 : Int32) (y7 : Int32) (y8 : Int32) (N : St), (rec y0 y1 y2 y3 y4 y5 y6 y7 y8 N).2 p = N p) : (f_X11_shifted_157 rec x2 x3 x4 x5 x6 x7 x8 x9 x10 x11 M).2 p = M p := by
  unfold f_X11_shifted_157
  exact ((fr_X11_shifted_158 (xnot_sub hp (by decide)) hrec).trans rfl)
theorem fr_X11_shifted_105 {p : Nat} {rec : Int32 → Int32 → Int32 → Int32 → Int32 → Int32 → Int32 → Int32 → Int32 → St → Int32 × St} {x2 : Int32} {x3 : Int32} {x4 : Int32} {x5 : Int32} {x6 : Int32} {x7 : Int32} {x8 : Int32} {x9 : Int32} {x10 : Int32} {s0 : Int32} {M : St} (hp : xnot p [14] = true) (hrec : ∀ (y0 : Int32) (y1 : Int32) (y2 : Int32) (y3 : Int32) (y4 : Int32) (y5 : Int32) (y6 : Int32) (y7 : Int32) (y8 : Int32) (N : St), (rec y0 y1 y2 y3 y4 y5 y6 y7 y8 N).2 p = N p) : (f_X11_shifted_105 rec x2 x3 x4 x5 x6 x7 x8 x9 x10 s0 M).2 p = M p := by
  unfold f_X11_shifted_105
  exact (ite_p (fun _ => (ite_p (fun _ => (ite_p (fun _ => ((fr_X11_shifted_125 (xnot_sub hp (by decide)) hrec).trans rfl)) (fun _ => ((fr_X11_shifted_158 (xnot_sub hp (by decide)) hrec).trans rfl)))) (fun _ => ((fr_X11_shifted_125 (xnot_sub hp (by decide)) hrec).trans rfl)))) (fun _ => (ite_p (fun _ => ((fr_X11_shifted_158 (xnot_sub hp (by decide)) hrec).trans rfl)) (fun _ => (ite_p (fun _ => (ite_p (fun _ => ((fr_X11_shifted_157 (xnot_sub hp (by decide)) hrec).trans rfl)) (fun _ => ((fr_X11_shifted_158 (xnot_sub hp (by decide)) hrec).trans rfl)))) (fun _ => ((fr_X11_shifted_157 (xnot_sub hp (by decide)) hrec).trans rfl)))))))
theorem fr_X11_shifted_90 {p : Nat} {rec : Int32 → Int32 → Int32 → Int32 → Int32 → Int32 → Int32 → Int32 → Int32 → St → Int32 × St} {x2 : Int32} {x3 : Int32} {x4 : Int32} {x5 : Int32} {x6 : Int32} {x7 : Int32} {x9 : Int32} {x10 : Int32} {s0 : Int32} {M : St} (hp : xnot p [14] = true) (hrec : ∀ (y0 : Int32) (y1 : Int32) (y2 : Int32) (y3 : Int32) (y4 : Int32) (y5 : Int32) (y6 : Int32) (y7 : Int32) (y8 : Int32) (N : St), (rec y0 y1 y2 y3 y4 y5 y6 y7 y8 N).2 p = N p) : (f_X11_shifted_90 rec x2 x3 x4 x5 x6 x7 x9 x10 s0 M).2 p = M p := by
  unfold f_X11_shifted_90
  exact (ite_p (fun _ => ((fr_X11_shifted_105 (xnot_sub hp (by decide)) hrec).trans rfl)) (fun _ => ((fr_X11_shifted_105 (xnot_sub hp (by decide)) hrec).trans rfl)))
theorem fr_X11_shifted_81 {p : Nat} {rec : Int32 → Int32 → Int32 → Int32 → Int32 → Int32 → Int32 → Int32 → Int32 → St → Int32 × St} {x2 : Int32} {x3 : Int32} {x4 : Int32} {x5 : Int32} {x6 : Int32} {x7 : Int32} {x9 : Int32} {x10 : Int32} {s0 : Int32} {s1 : Int32} {M : St} (hp : xnot p [14] = true) (hrec : ∀ (y0 : Int32) (y1 : Int32) (y2 : Int32) (y3 : Int32) (y4 : Int32) (y5 : Int32) (y6 : Int32) (y7 : Int32) (y8 : Int32) (N : St), (rec y0 y1 y2 y3 y4 y5 y6 y7 y8 N).2 p = N p) : (f_X11_shifted_81 rec x2 x3 x4 x5 x6 x7 x9 x10 s0 s1 M).2 p = M p := by
  unfold f_X11_shifted_81
  exact (ite_p (fun _ => ((fr_X11_shifted_90 (xnot_sub hp (by decide)) hrec).trans rfl)) (fun _ => ((fr_X11_shifted_90 (xnot_sub hp (by decide)) hrec).trans rfl)))
theorem fr_X11_shifted_61 {p : Nat} (hp : xnot p [14] = true) : ∀ (n : Nat) (x2 : Int32) (x3 : Int32) (x4 : Int32) (x5 : Int32) (x6 : Int32) (x7 : Int32) (x8 : Int32) (x9 : Int32) (x10 : Int32) (M : St), (f_X11_shifted_61 n x2 x3 x4 x5 x6 x7 x8 x9 x10 M).2 p = M p := by
  intro n
  induction n with
  | zero => intros; rfl
  | succ n ih =>
    intro x2 x3 x4 x5 x6 x7 x8 x9 x10 M
    unfold f_X11_shifted_61
    exact (ite_p (fun _ => (xb_sp ((fr_X11_test (xnot_sub hp (by decide))).trans rfl) (fun q18 hq18 => (xb_sp ((fr_X11_flag (xnot_sub hp (by decide))).trans hq18) (fun q21 hq21 => (ite_p (fun _ => (ite_p (fun _ => ((fr_X11_shifted_294 (xnot_sub hp (by decide))).trans hq21)) (fun _ => (ite_p (fun _ => ((fr_X11_shifted_294 (xnot_sub hp (by decide))).trans hq21)) (fun _ => ((fr_X11_shifted_295 (xnot_sub hp (by decide))).trans hq21)))))) (fun _ => ((fr_X11_shifted_294 (xnot_sub hp (by decide))).trans hq21)))))))) (fun _ => (ite_p (fun _ => ((fr_X11_shifted_81 (xnot_sub hp (by decide)) ih).trans rfl)) (fun _ => ((fr_X11_shifted_81 (xnot_sub hp (by decide)) ih).trans rfl)))))
theorem fr_X11_shifted_53 {p : Nat} {x2 : Int32} {x3 : Int32} {x4 : Int32} {x5 : Int32} {x6 : Int32} {x7 : Int32} {s0 : Int32} {M : St} (hp : xnot p [14] = true) : (f_X11_shifted_53 x2 x3 x4 x5 x6 x7 s0 M).2 p = M p := by
  unfold f_X11_shifted_53
  exact ((fr_X11_shifted_61 (xnot_sub hp (by decide)) _ _ _ _ _ _ _ _ _ _ _).trans rfl)
theorem fr_X11_shifted_52 {p : Nat} {x2 : Int32} {x3 : Int32} {x4 : Int32} {x5 : Int32} {x6 : Int32} {x7 : Int32} {M : St} (hp : xnot p [14] = true) : (f_X11_shifted_52 x2 x3 x4 x5 x6 x7 M).2 p = M p := by
  unfold f_X11_shifted_52
  exact ((fr_X11_shifted_53 (xnot_sub hp (by decide))).trans rfl)
theorem fr_X11_shifted_27 {p : Nat} {x2 : Int32} {x3 : Int32} {x4 : Int32} {x5 : Int32} {x6 : Int32} {s0 : Int32} {M : St} (hp : xnot p [14] = true) : (f_X11_shifted_27 x2 x3 x4 x5 x6 s0 M).2 p = M p := by
  unfold f_X11_shifted_27
  exact (ite_p (fun _ => (ite_p (fun _ => (ite_p (fun _ => ((fr_X11_shifted_52 (xnot_sub hp (by decide))).trans rfl)) (fun _ => ((fr_X11_shifted_53 (xnot_sub hp (by decide))).trans rfl)))) (fun _ => ((fr_X11_shifted_52 (xnot_sub hp (by decide))).trans rfl)))) (fun _ => ((fr_X11_shifted_52 (xnot_sub hp (by decide))).trans rfl)))
theorem fr_X11_shifted {p : Nat} {a1 : Int32} {a2 : Int32} {a3 : Int32} {a4 : Int32} {a5 : Int32} {M : St} (hp : xnot p [14] = true) : (f_X11_shifted a1 a2 a3 a4 a5 M).2 p = M p := by
  unfold f_X11_shifted
  exact (ite_p (fun _ => ((fr_X11_shifted_27 (xnot_sub hp (by decide))).trans rfl)) (fun _ => (ite_p (fun _ => ((fr_X11_shifted_27 (xnot_sub hp (by decide))).trans rfl)) (fun _ => ((fr_X11_shifted_27 (xnot_sub hp (by decide))).trans rfl)))))
theorem fr_X11_shifts_55 {p : Nat} {x1 : Int32} {x2 : Int32} {x4 : Int32} {s0 : Int32} {M : St} (hp : xnot p [14, 15] = true) : (f_X11_shifts_55 x1 x2 x4 s0 M) p = M p := by
  unfold f_X11_shifts_55
  exact (xb_ps ((fr_X11_shifted (xnot_sub hp (by decide))).trans rfl) (fun q20 hq20 => (xb_ss ((fr_X11_keepIn (xnot_sub hp (by decide))).trans hq20) (fun q23 hq23 => hq23))))
theorem fr_X11_shifts {p : Nat} {a1 : Int32} {a2 : Int32} {a3 : Int32} {a4 : Int32} {M : St} (hp : xnot p [14, 15, 18, 19, 20] = true) : (f_X11_shifts a1 a2 a3 a4 M) p = M p := by
  unfold f_X11_shifts
  exact (ite_s (fun _ => (xb_ps ((fr_X11_loadAt (xnot_sub hp (by decide))).trans rfl) (fun q8 hq8 => (xb_ps ((fr_X11_shifted (xnot_sub hp (by decide))).trans hq8) (fun q11 hq11 => (xb_ss ((fr_X11_store (xnot_sub hp (by decide))).trans hq11) (fun q14 hq14 => hq14))))))) (fun _ => (ite_s (fun _ => ((fr_X11_shifts_55 (xnot_sub hp (by decide))).trans rfl)) (fun _ => (ite_s (fun _ => ((fr_X11_shifts_55 (xnot_sub hp (by decide))).trans rfl)) (fun _ => ((fr_X11_shifts_55 (xnot_sub hp (by decide))).trans rfl)))))))
theorem fr_X11_fourteen_97 {p : Nat} {s0 : Int32} {s1 : Int32} {M : St} (hp : xnot p [14] = true) : (f_X11_fourteen_97 s0 s1 M) p = M p := by
  unfold f_X11_fourteen_97
  exact (xb_ss ((fr_X11_flag (xnot_sub hp (by decide))).trans rfl) (fun q25 hq25 => ((xup_other (xnot_at hp (by decide) : p ≠ 14)).trans hq25)))
theorem fr_X11_fourteen_84 {p : Nat} {x7 : Int32} {M : St} (hp : xnot p [14] = true) : (f_X11_fourteen_84 x7 M) p = M p := by
  unfold f_X11_fourteen_84
  exact (ite_s (fun _ => ((fr_X11_fourteen_97 (xnot_sub hp (by decide))).trans rfl)) (fun _ => ((fr_X11_fourteen_97 (xnot_sub hp (by decide))).trans rfl)))
theorem fr_X11_fourteen {p : Nat} {a1 : Int32} {a2 : Int32} {a3 : Int32} {a4 : Int32} {a5 : Int32} {M : St} (hp : xnot p [14, 15, 19] = true) : (f_X11_fourteen a1 a2 a3 a4 a5 M) p = M p := by
  unfold f_X11_fourteen
  exact (ite_s (fun _ => (xb_ss ((fr_X11_test (xnot_sub hp (by decide))).trans ((xup_other (xnot_at hp (by decide) : p ≠ 15)).trans rfl)) (fun q19 hq19 => hq19))) (fun _ => (ite_s (fun _ => (xb_ss ((fr_X11_find (xnot_sub hp (by decide))).trans rfl) (fun q13 hq13 => ((xup_other (xnot_at hp (by decide) : p ≠ 15)).trans hq13)))) (fun _ => (xb_ps ((fr_X11_loadAt (xnot_sub hp (by decide))).trans rfl) (fun q3 hq3 => (ite_s (fun _ => ((fr_X11_fourteen_84 (xnot_sub hp (by decide))).trans hq3)) (fun _ => (ite_s (fun _ => ((fr_X11_fourteen_84 (xnot_sub hp (by decide))).trans hq3)) (fun _ => hq3))))))))))
theorem fr_X11_perform_112 {p : Nat} {x1 : Int32} {x2 : Int32} {M : St} (hp : xnot p [14, 15, 18, 19, 20] = true) : (f_X11_perform_112 x1 x2 M) p = M p := by
  unfold f_X11_perform_112
  exact (xb_ss ((fr_X11_move (xnot_sub hp (by decide))).trans rfl) (fun q36 hq36 => hq36))
theorem fr_X11_perform_166 {p : Nat} {s0 : Int32} {s1 : Int32} {s2 : Int32} {s3 : Int32} {s4 : Int32} {M : St} (hp : xnot p [14, 15, 18, 19, 20] = true) : (f_X11_perform_166 s0 s1 s2 s3 s4 M) p = M p := by
  unfold f_X11_perform_166
  exact (xb_ss ((fr_X11_addOrTake (xnot_sub hp (by decide))).trans rfl) (fun q46 hq46 => hq46))
theorem fr_X11_perform_146 {p : Nat} {x1 : Int32} {x2 : Int32} {x3 : Int32} {x4 : Int32} {x5 : Int32} {M : St} (hp : xnot p [14, 15, 18, 19, 20] = true) : (f_X11_perform_146 x1 x2 x3 x4 x5 M) p = M p := by
  unfold f_X11_perform_146
  exact (ite_s (fun _ => ((fr_X11_perform_166 (xnot_sub hp (by decide))).trans rfl)) (fun _ => ((fr_X11_perform_166 (xnot_sub hp (by decide))).trans rfl)))
theorem fr_X11_perform_206 {p : Nat} {s0 : Int32} {s1 : Int32} {s2 : Int32} {s3 : Int32} {s4 : Int32} {M : St} (hp : xnot p [14, 15, 18, 19, 20] = true) : (f_X11_perform_206 s0 s1 s2 s3 s4 M) p = M p := by
  unfold f_X11_perform_206
  exact (xb_ss ((fr_X11_logic (xnot_sub hp (by decide))).trans rfl) (fun q49 hq49 => hq49))
theorem fr_X11_perform_185 {p : Nat} {x1 : Int32} {x2 : Int32} {x3 : Int32} {x4 : Int32} {x5 : Int32} {M : St} (hp : xnot p [14, 15, 18, 19, 20] = true) : (f_X11_perform_185 x1 x2 x3 x4 x5 M) p = M p := by
  unfold f_X11_perform_185
  exact (ite_s (fun _ => ((fr_X11_perform_206 (xnot_sub hp (by decide))).trans rfl)) (fun _ => ((fr_X11_perform_206 (xnot_sub hp (by decide))).trans rfl)))
theorem fr_X11_perform_259 {p : Nat} {x1 : Int32} {x2 : Int32} {x3 : Int32} {x4 : Int32} {x5 : Int32} {M : St} (hp : xnot p [14, 15, 19] = true) : (f_X11_perform_259 x1 x2 x3 x4 x5 M) p = M p := by
  unfold f_X11_perform_259
  exact (xb_ss ((fr_X11_fourteen (xnot_sub hp (by decide))).trans rfl) (fun q43 hq43 => hq43))
theorem fr_X11_perform_34 {p : Nat} {x1 : Int32} {x2 : Int32} {x3 : Int32} {x4 : Int32} {s0 : Int32} {M : St} (hp : xnot p [14, 15, 18, 19, 20] = true) : (f_X11_perform_34 x1 x2 x3 x4 s0 M) p = M p := by
  unfold f_X11_perform_34
  exact (ite_s (fun _ => ((fr_X11_perform_112 (xnot_sub hp (by decide))).trans rfl)) (fun _ => (ite_s (fun _ => ((fr_X11_perform_112 (xnot_sub hp (by decide))).trans rfl)) (fun _ => (ite_s (fun _ => ((fr_X11_perform_112 (xnot_sub hp (by decide))).trans rfl)) (fun _ => (ite_s (fun _ => (xb_ss ((fr_X11_three (xnot_sub hp (by decide))).trans rfl) (fun q8 hq8 => hq8))) (fun _ => (ite_s (fun _ => ((fr_X11_perform_146 (xnot_sub hp (by decide))).trans rfl)) (fun _ => (ite_s (fun _ => ((fr_X11_perform_146 (xnot_sub hp (by decide))).trans rfl)) (fun _ => (ite_s (fun _ => (xb_ss ((fr_X11_compare (xnot_sub hp (by decide))).trans rfl) (fun q14 hq14 => hq14))) (fun _ => (ite_s (fun _ => ((fr_X11_perform_185 (xnot_sub hp (by decide))).trans rfl)) (fun _ => (ite_s (fun _ => ((fr_X11_perform_185 (xnot_sub hp (by decide))).trans rfl)) (fun _ => (ite_s (fun _ => (xb_ss ((fr_X11_quick (xnot_sub hp (by decide))).trans rfl) (fun q20 hq20 => hq20))) (fun _ => (ite_s (fun _ => ((fr_X11_perform_259 (xnot_sub hp (by decide))).trans rfl)) (fun _ => (ite_s (fun _ => (xb_ss ((fr_X11_branch (xnot_sub hp (by decide))).trans rfl) (fun q25 hq25 => hq25))) (fun _ => (ite_s (fun _ => (xb_ss ((fr_X11_twelve (xnot_sub hp (by decide))).trans rfl) (fun q29 hq29 => hq29))) (fun _ => (ite_s (fun _ => (xb_ss ((fr_X11_shifts (xnot_sub hp (by decide))).trans rfl) (fun q33 hq33 => hq33))) (fun _ => ((fr_X11_perform_259 (xnot_sub hp (by decide))).trans rfl)))))))))))))))))))))))))))))
theorem fr_X11_perform {p : Nat} {a1 : Int32} {M : St} (hp : xnot p [14, 15, 18, 19, 20] = true) : (f_X11_perform a1 M) p = M p := by
  unfold f_X11_perform
  exact (ite_s (fun _ => ((fr_X11_perform_34 (xnot_sub hp (by decide))).trans rfl)) (fun _ => ((fr_X11_perform_34 (xnot_sub hp (by decide))).trans rfl)))
theorem fr_X11_instruct_253 {p : Nat} {x1 : Int32} {M : St} (hp : xnot p [] = true) : (f_X11_instruct_253 x1 M).2 p = M p := by
  unfold f_X11_instruct_253
  exact (ite_p (fun _ => (ite_p (fun _ => rfl) (fun _ => rfl))) (fun _ => rfl))
theorem fr_X11_instruct_229 {p : Nat} {x1 : Int32} {M : St} (hp : xnot p [14, 15, 17, 18, 19, 20, 21] = true) : (f_X11_instruct_229 x1 M).2 p = M p := by
  unfold f_X11_instruct_229
  exact (ite_p (fun _ => ((fr_X11_instruct_253 (xnot_sub hp (by decide))).trans rfl)) (fun _ => (ite_p (fun _ => (xb_sp ((fr_X11_work (xnot_sub hp (by decide))).trans rfl) (fun q75 hq75 => ((fr_X11_instruct_253 (xnot_sub hp (by decide))).trans hq75)))) (fun _ => ((fr_X11_instruct_253 (xnot_sub hp (by decide))).trans rfl)))))
theorem fr_X11_instruct_204 {p : Nat} {x1 : Int32} {s0 : Int32} {M : St} (hp : xnot p [14, 15, 17, 18, 19, 20, 21] = true) : (f_X11_instruct_204 x1 s0 M).2 p = M p := by
  unfold f_X11_instruct_204
  exact (ite_p (fun _ => ((fr_X11_instruct_229 (xnot_sub hp (by decide))).trans ((xup_other (xnot_at hp (by decide) : p ≠ 14)).trans rfl))) (fun _ => (xb_sp ((fr_X11_work (xnot_sub hp (by decide))).trans ((xup_other (xnot_at hp (by decide) : p ≠ 14)).trans rfl)) (fun q67 hq67 => ((fr_X11_instruct_229 (xnot_sub hp (by decide))).trans hq67)))))
theorem fr_X11_instruct_203 {p : Nat} {x1 : Int32} {M : St} (hp : xnot p [14, 15, 17, 18, 19, 20, 21] = true) : (f_X11_instruct_203 x1 M).2 p = M p := by
  unfold f_X11_instruct_203
  exact ((fr_X11_instruct_204 (xnot_sub hp (by decide))).trans rfl)
theorem fr_X11_instruct_162 {p : Nat} {x1 : Int32} {x2 : Int32} {s0 : Int32} {M : St} (hp : xnot p [14, 15, 17, 18, 19, 20, 21] = true) : (f_X11_instruct_162 x1 x2 s0 M).2 p = M p := by
  unfold f_X11_instruct_162
  exact (ite_p (fun _ => (ite_p (fun _ => ((fr_X11_instruct_203 (xnot_sub hp (by decide))).trans rfl)) (fun _ => (ite_p (fun _ => ((fr_X11_instruct_204 (xnot_sub hp (by decide))).trans rfl)) (fun _ => ((fr_X11_instruct_203 (xnot_sub hp (by decide))).trans rfl)))))) (fun _ => (xb_sp ((fr_X11_back__16 (xnot_sub hp (by decide))).trans rfl) (fun q57 hq57 => (xb_sp ((fr_X11_work (xnot_sub hp (by decide))).trans hq57) (fun q60 hq60 => hq60))))))
theorem fr_X11_instruct_146 {p : Nat} {x1 : Int32} {x2 : Int32} {x4 : Int32} {M : St} (hp : xnot p [14, 15, 17, 18, 19, 20, 21] = true) : (f_X11_instruct_146 x1 x2 x4 M).2 p = M p := by
  unfold f_X11_instruct_146
  exact (ite_p (fun _ => ((fr_X11_instruct_162 (xnot_sub hp (by decide))).trans rfl)) (fun _ => ((fr_X11_instruct_162 (xnot_sub hp (by decide))).trans rfl)))
theorem fr_X11_instruct_127 {p : Nat} {x1 : Int32} {x2 : Int32} {x3 : Int32} {s0 : Int32} {M : St} (hp : xnot p [14, 15, 17, 18, 19, 20, 21] = true) : (f_X11_instruct_127 x1 x2 x3 s0 M).2 p = M p := by
  unfold f_X11_instruct_127
  exact (ite_p (fun _ => (ite_p (fun _ => (xb_sp ((fr_X11_perform (xnot_sub hp (by decide))).trans rfl) (fun q43 hq43 => ((fr_X11_instruct_146 (xnot_sub hp (by decide))).trans hq43)))) (fun _ => ((fr_X11_instruct_146 (xnot_sub hp (by decide))).trans rfl)))) (fun _ => ((fr_X11_instruct_146 (xnot_sub hp (by decide))).trans rfl)))
theorem fr_X11_instruct_126 {p : Nat} {x1 : Int32} {x2 : Int32} {x3 : Int32} {M : St} (hp : xnot p [14, 15, 17, 18, 19, 20, 21] = true) : (f_X11_instruct_126 x1 x2 x3 M).2 p = M p := by
  unfold f_X11_instruct_126
  exact ((fr_X11_instruct_127 (xnot_sub hp (by decide))).trans rfl)
theorem fr_X11_instruct_62 {p : Nat} {x1 : Int32} {x2 : Int32} {x3 : Int32} {s0 : Int32} {M : St} (hp : xnot p [14, 15, 17, 18, 19, 20, 21] = true) : (f_X11_instruct_62 x1 x2 x3 s0 M).2 p = M p := by
  unfold f_X11_instruct_62
  exact (ite_p (fun _ => ((fr_X11_instruct_127 (xnot_sub hp (by decide))).trans ((xup_other (xnot_at hp (by decide) : p ≠ 14)).trans rfl))) (fun _ => (ite_p (fun _ => ((fr_X11_instruct_127 (xnot_sub hp (by decide))).trans ((xup_other (xnot_at hp (by decide) : p ≠ 14)).trans rfl))) (fun _ => (ite_p (fun _ => ((fr_X11_instruct_127 (xnot_sub hp (by decide))).trans ((xup_other (xnot_at hp (by decide) : p ≠ 14)).trans rfl))) (fun _ => (ite_p (fun _ => ((fr_X11_instruct_126 (xnot_sub hp (by decide))).trans ((xup_other (xnot_at hp (by decide) : p ≠ 14)).trans rfl))) (fun _ => (ite_p (fun _ => ((fr_X11_instruct_127 (xnot_sub hp (by decide))).trans ((xup_other (xnot_at hp (by decide) : p ≠ 14)).trans rfl))) (fun _ => ((fr_X11_instruct_126 (xnot_sub hp (by decide))).trans ((xup_other (xnot_at hp (by decide) : p ≠ 14)).trans rfl))))))))))))
theorem fr_X11_instruct {p : Nat} {M : St} (hp : xnot p [14, 15, 16, 17, 18, 19, 20, 21] = true) : (f_X11_instruct M).2 p = M p := by
  unfold f_X11_instruct
  exact (xb_sp ((fr_X11_keep__16 (xnot_sub hp (by decide))).trans rfl) (fun q1 hq1 => (xb_pp ((fr_X11_fetch (xnot_sub hp (by decide))).trans ((xup_other (xnot_at hp (by decide) : p ≠ 14)).trans ((xup_other (xnot_at hp (by decide) : p ≠ 14)).trans ((xup_other (xnot_at hp (by decide) : p ≠ 14)).trans ((xup_other (xnot_at hp (by decide) : p ≠ 14)).trans hq1))))) (fun q8 hq8 => (ite_p (fun _ => ((fr_X11_instruct_62 (xnot_sub hp (by decide))).trans hq8)) (fun _ => ((fr_X11_instruct_62 (xnot_sub hp (by decide))).trans hq8)))))))
theorem fr_X11_stepped_150 {p : Nat} {x3 : Int32} {s0 : Int32} {M : St} (hp : xnot p [14] = true) : (f_X11_stepped_150 x3 s0 M).2 p = M p := by
  unfold f_X11_stepped_150
  exact ((xup_other (xnot_at hp (by decide) : p ≠ 14)).trans rfl)
theorem fr_X11_stepped_145 {p : Nat} {x3 : Int32} {M : St} (hp : xnot p [14] = true) : (f_X11_stepped_145 x3 M).2 p = M p := by
  unfold f_X11_stepped_145
  exact ((fr_X11_stepped_150 (xnot_sub hp (by decide))).trans rfl)
theorem fr_X11_stepped_113 {p : Nat} {x3 : Int32} {M : St} (hp : xnot p [14] = true) : (f_X11_stepped_113 x3 M).2 p = M p := by
  unfold f_X11_stepped_113
  exact (ite_p (fun _ => rfl) (fun _ => (ite_p (fun _ => (ite_p (fun _ => ((fr_X11_stepped_145 (xnot_sub hp (by decide))).trans ((xup_other (xnot_at hp (by decide) : p ≠ 14)).trans rfl))) (fun _ => ((fr_X11_stepped_150 (xnot_sub hp (by decide))).trans ((xup_other (xnot_at hp (by decide) : p ≠ 14)).trans rfl))))) (fun _ => ((fr_X11_stepped_145 (xnot_sub hp (by decide))).trans ((xup_other (xnot_at hp (by decide) : p ≠ 14)).trans rfl))))))
theorem fr_X11_stepped_64 {p : Nat} {x1 : Int32} {s0 : Int32} {M : St} (hp : xnot p [14, 15, 16, 17, 18, 19, 20, 21] = true) : (f_X11_stepped_64 x1 s0 M).2 p = M p := by
  unfold f_X11_stepped_64
  exact (ite_p (fun _ => (ite_p (fun _ => (xb_pp ((fr_X11_instruct (xnot_sub hp (by decide))).trans ((xup_other (xnot_at hp (by decide) : p ≠ 14)).trans rfl)) (fun q19 hq19 => ((fr_X11_stepped_113 (xnot_sub hp (by decide))).trans hq19)))) (fun _ => ((fr_X11_stepped_113 (xnot_sub hp (by decide))).trans ((xup_other (xnot_at hp (by decide) : p ≠ 14)).trans rfl))))) (fun _ => (xb_sp ((fr_X11_work (xnot_sub hp (by decide))).trans ((xup_other (xnot_at hp (by decide) : p ≠ 14)).trans ((xup_other (xnot_at hp (by decide) : p ≠ 14)).trans rfl))) (fun q24 hq24 => ((fr_X11_stepped_113 (xnot_sub hp (by decide))).trans hq24)))))
theorem fr_X11_stepped_59 {p : Nat} {x1 : Int32} {M : St} (hp : xnot p [14, 15, 16, 17, 18, 19, 20, 21] = true) : (f_X11_stepped_59 x1 M).2 p = M p := by
  unfold f_X11_stepped_59
  exact ((fr_X11_stepped_64 (xnot_sub hp (by decide))).trans rfl)
theorem fr_X11_stepped_63 {p : Nat} {x1 : Int32} {M : St} (hp : xnot p [14, 15, 16, 17, 18, 19, 20, 21] = true) : (f_X11_stepped_63 x1 M).2 p = M p := by
  unfold f_X11_stepped_63
  exact ((fr_X11_stepped_64 (xnot_sub hp (by decide))).trans rfl)
theorem fr_X11_stepped_29 {p : Nat} {s0 : Int32} {M : St} (hp : xnot p [14, 15, 16, 17, 18, 19, 20, 21] = true) : (f_X11_stepped_29 s0 M).2 p = M p := by
  unfold f_X11_stepped_29
  exact (ite_p (fun _ => ((fr_X11_stepped_59 (xnot_sub hp (by decide))).trans rfl)) (fun _ => (ite_p (fun _ => (ite_p (fun _ => ((fr_X11_stepped_63 (xnot_sub hp (by decide))).trans rfl)) (fun _ => ((fr_X11_stepped_59 (xnot_sub hp (by decide))).trans rfl)))) (fun _ => ((fr_X11_stepped_63 (xnot_sub hp (by decide))).trans rfl)))))
theorem fr_X11_stepped_25 {p : Nat} {M : St} (hp : xnot p [14, 15, 16, 17, 18, 19, 20, 21] = true) : (f_X11_stepped_25 M).2 p = M p := by
  unfold f_X11_stepped_25
  exact ((fr_X11_stepped_29 (xnot_sub hp (by decide))).trans rfl)
theorem fr_X11_stepped {p : Nat} {M : St} (hp : xnot p [14, 15, 16, 17, 18, 19, 20, 21] = true) : (f_X11_stepped M).2 p = M p := by
  unfold f_X11_stepped
  exact (ite_p (fun _ => ((fr_X11_stepped_25 (xnot_sub hp (by decide))).trans rfl)) (fun _ => (ite_p (fun _ => ((fr_X11_stepped_25 (xnot_sub hp (by decide))).trans rfl)) (fun _ => ((fr_X11_stepped_29 (xnot_sub hp (by decide))).trans rfl)))))
theorem fr_X11_step_13 {p : Nat} {s0 : Int32} {M : St} (hp : xnot p [14, 15, 16, 17, 18, 19, 20, 21] = true) : (f_X11_step_13 s0 M).2 p = M p := by
  unfold f_X11_step_13
  exact (ite_p (fun _ => (xb_pp ((fr_X11_stepped (xnot_sub hp (by decide))).trans ((xup_other (xnot_at hp (by decide) : p ≠ 14)).trans rfl)) (fun q6 hq6 => hq6))) (fun _ => ((xup_other (xnot_at hp (by decide) : p ≠ 14)).trans rfl)))
theorem fr_X11_step {p : Nat} {M : St} (hp : xnot p [14, 15, 16, 17, 18, 19, 20, 21] = true) : (f_X11_step M).2 p = M p := by
  unfold f_X11_step
  exact (ite_p (fun _ => ((fr_X11_step_13 (xnot_sub hp (by decide))).trans rfl)) (fun _ => ((fr_X11_step_13 (xnot_sub hp (by decide))).trans rfl)))
theorem fr_X11_run_21 {p : Nat} (hp : xnot p [14, 15, 16, 17, 18, 19, 20, 21] = true) : ∀ (n : Nat) (x1 : Int32) (x2 : Int32) (M : St), (f_X11_run_21 n x1 x2 M).2 p = M p := by
  intro n
  induction n with
  | zero => intros; rfl
  | succ n ih =>
    intro x1 x2 M
    unfold f_X11_run_21
    exact (ite_p (fun _ => (ite_p (fun _ => rfl) (fun _ => (ite_p (fun _ => (xb_pp ((fr_X11_stepped (xnot_sub hp (by decide))).trans rfl) (fun q17 hq17 => ((ih _ _ _).trans hq17)))) (fun _ => rfl))))) (fun _ => rfl))
theorem fr_X11_run_16 {p : Nat} {x1 : Int32} {s0 : Int32} {M : St} (hp : xnot p [14, 15, 16, 17, 18, 19, 20, 21] = true) : (f_X11_run_16 x1 s0 M).2 p = M p := by
  unfold f_X11_run_16
  exact ((fr_X11_run_21 (xnot_sub hp (by decide)) _ _ _ _).trans ((xup_other (xnot_at hp (by decide) : p ≠ 14)).trans rfl))
theorem fr_X11_run_11 {p : Nat} {x1 : Int32} {M : St} (hp : xnot p [14, 15, 16, 17, 18, 19, 20, 21] = true) : (f_X11_run_11 x1 M).2 p = M p := by
  unfold f_X11_run_11
  exact ((fr_X11_run_16 (xnot_sub hp (by decide))).trans rfl)
theorem fr_X11_run {p : Nat} {a1 : Int32} {M : St} (hp : xnot p [14, 15, 16, 17, 18, 19, 20, 21] = true) : (f_X11_run a1 M).2 p = M p := by
  unfold f_X11_run
  exact (ite_p (fun _ => ((fr_X11_run_11 (xnot_sub hp (by decide))).trans rfl)) (fun _ => (ite_p (fun _ => ((fr_X11_run_16 (xnot_sub hp (by decide))).trans rfl)) (fun _ => ((fr_X11_run_11 (xnot_sub hp (by decide))).trans rfl)))))
theorem fr_X11_level {p : Nat} {a1 : Int32} {M : St} (hp : xnot p [14] = true) : (f_X11_level a1 M) p = M p := by
  unfold f_X11_level
  exact (ite_s (fun _ => ((xup_other (xnot_at hp (by decide) : p ≠ 14)).trans ((xup_other (xnot_at hp (by decide) : p ≠ 14)).trans rfl))) (fun _ => (ite_s (fun _ => ((xup_other (xnot_at hp (by decide) : p ≠ 14)).trans ((xup_other (xnot_at hp (by decide) : p ≠ 14)).trans rfl))) (fun _ => ((xup_other (xnot_at hp (by decide) : p ≠ 14)).trans ((xup_other (xnot_at hp (by decide) : p ≠ 14)).trans rfl))))))
theorem fr_X11_type {p : Nat} {a1 : Int32} {M : St} (hp : xnot p [14, 19] = true) : (f_X11_type a1 M).2 p = M p := by
  unfold f_X11_type
  exact (ite_p (fun _ => ((xup_other (xnot_at hp (by decide) : p ≠ 14)).trans rfl)) (fun _ => ((xup_other (xnot_at hp (by decide) : p ≠ 14)).trans ((xup_other (xnot_at hp (by decide) : p ≠ 19)).trans ((xup_other (xnot_at hp (by decide) : p ≠ 14)).trans rfl)))))
theorem fr_X11_said {p : Nat} {a1 : Int32} {M : St} (hp : xnot p [14] = true) : (f_X11_said a1 M).2 p = M p := by
  unfold f_X11_said
  exact (ite_p (fun _ => ((xup_other (xnot_at hp (by decide) : p ≠ 14)).trans rfl)) (fun _ => (ite_p (fun _ => ((xup_other (xnot_at hp (by decide) : p ≠ 14)).trans rfl)) (fun _ => ((xup_other (xnot_at hp (by decide) : p ≠ 14)).trans rfl)))))
theorem fr_X11_get {p : Nat} {a1 : Int32} {M : St} (hp : xnot p [14] = true) : (f_X11_get a1 M).2 p = M p := by
  unfold f_X11_get
  exact (ite_p (fun _ => ((xup_other (xnot_at hp (by decide) : p ≠ 14)).trans rfl)) (fun _ => (ite_p (fun _ => (ite_p (fun _ => ((xup_other (xnot_at hp (by decide) : p ≠ 14)).trans rfl)) (fun _ => ((xup_other (xnot_at hp (by decide) : p ≠ 14)).trans rfl)))) (fun _ => ((xup_other (xnot_at hp (by decide) : p ≠ 14)).trans rfl)))))
theorem fr_X11_set {p : Nat} {a1 : Int32} {a2 : Int32} {M : St} (hp : xnot p [14, 15] = true) : (f_X11_set a1 a2 M) p = M p := by
  unfold f_X11_set
  exact (ite_s (fun _ => ((xup_other (xnot_at hp (by decide) : p ≠ 14)).trans rfl)) (fun _ => (ite_s (fun _ => (ite_s (fun _ => (xb_ss ((fr_X11_setStatus (xnot_sub hp (by decide))).trans ((xup_other (xnot_at hp (by decide) : p ≠ 14)).trans rfl)) (fun q14 hq14 => hq14))) (fun _ => ((xup_other (xnot_at hp (by decide) : p ≠ 15)).trans ((xup_other (xnot_at hp (by decide) : p ≠ 14)).trans rfl))))) (fun _ => ((xup_other (xnot_at hp (by decide) : p ≠ 14)).trans rfl)))))
theorem fr_X11_memory {p : Nat} {a1 : Int32} {M : St} (hp : xnot p [14] = true) : (f_X11_memory a1 M).2 p = M p := by
  unfold f_X11_memory
  exact (ite_p (fun _ => ((xup_other (xnot_at hp (by decide) : p ≠ 14)).trans rfl)) (fun _ => (ite_p (fun _ => ((xup_other (xnot_at hp (by decide) : p ≠ 14)).trans rfl)) (fun _ => ((xup_other (xnot_at hp (by decide) : p ≠ 14)).trans rfl)))))
theorem fr_X11_device_15 {p : Nat} {x1 : Int32} {s0 : Int32} {M : St} (hp : xnot p [14] = true) : (f_X11_device_15 x1 s0 M).2 p = M p := by
  unfold f_X11_device_15
  exact (ite_p (fun _ => (ite_p (fun _ => ((xup_other (xnot_at hp (by decide) : p ≠ 14)).trans rfl)) (fun _ => (ite_p (fun _ => ((xup_other (xnot_at hp (by decide) : p ≠ 14)).trans rfl)) (fun _ => (ite_p (fun _ => (ite_p (fun _ => ((xup_other (xnot_at hp (by decide) : p ≠ 14)).trans rfl)) (fun _ => ((xup_other (xnot_at hp (by decide) : p ≠ 14)).trans rfl)))) (fun _ => (ite_p (fun _ => ((xup_other (xnot_at hp (by decide) : p ≠ 14)).trans rfl)) (fun _ => ((xup_other (xnot_at hp (by decide) : p ≠ 14)).trans rfl)))))))))) (fun _ => ((xup_other (xnot_at hp (by decide) : p ≠ 14)).trans rfl)))
theorem fr_X11_device_10 {p : Nat} {x1 : Int32} {M : St} (hp : xnot p [14] = true) : (f_X11_device_10 x1 M).2 p = M p := by
  unfold f_X11_device_10
  exact ((fr_X11_device_15 (xnot_sub hp (by decide))).trans rfl)
theorem fr_X11_device {p : Nat} {a1 : Int32} {M : St} (hp : xnot p [14] = true) : (f_X11_device a1 M).2 p = M p := by
  unfold f_X11_device
  exact (ite_p (fun _ => ((fr_X11_device_10 (xnot_sub hp (by decide))).trans rfl)) (fun _ => (ite_p (fun _ => ((fr_X11_device_15 (xnot_sub hp (by decide))).trans rfl)) (fun _ => ((fr_X11_device_10 (xnot_sub hp (by decide))).trans rfl)))))
theorem fr_X11_state {p : Nat} {M : St} (hp : xnot p [14] = true) : (f_X11_state M).2 p = M p := by
  unfold f_X11_state
  exact (ite_p (fun _ => (ite_p (fun _ => ((xup_other (xnot_at hp (by decide) : p ≠ 14)).trans rfl)) (fun _ => ((xup_other (xnot_at hp (by decide) : p ≠ 14)).trans rfl)))) (fun _ => ((xup_other (xnot_at hp (by decide) : p ≠ 14)).trans rfl)))
theorem fr_X11_counted {p : Nat} {a1 : Int32} {M : St} (hp : xnot p [14] = true) : (f_X11_counted a1 M).2 p = M p := by
  unfold f_X11_counted
  exact (ite_p (fun _ => ((xup_other (xnot_at hp (by decide) : p ≠ 14)).trans rfl)) (fun _ => (ite_p (fun _ => ((xup_other (xnot_at hp (by decide) : p ≠ 14)).trans rfl)) (fun _ => ((xup_other (xnot_at hp (by decide) : p ≠ 14)).trans rfl)))))
theorem fr_X8_changeStatus_51 {p : Nat} {x2 : Int32} {M : St} (hp : xnot p [2] = true) : (f_X8_changeStatus_51 x2 M) p = M p := by
  unfold f_X8_changeStatus_51
  exact ((xup_other (xnot_at hp (by decide) : p ≠ 2)).trans rfl)
theorem fr_X8_changeStatus {p : Nat} {a1 : Int32} {M : St} (hp : xnot p [2] = true) : (f_X8_changeStatus a1 M) p = M p := by
  unfold f_X8_changeStatus
  exact (ite_s (fun _ => ((fr_X8_changeStatus_51 (xnot_sub hp (by decide))).trans rfl)) (fun _ => ((fr_X8_changeStatus_51 (xnot_sub hp (by decide))).trans ((xup_other (xnot_at hp (by decide) : p ≠ 2)).trans ((xup_other (xnot_at hp (by decide) : p ≠ 2)).trans rfl)))))
theorem fr_X2_clearError {p : Nat} {M : St} (hp : xnot p [4] = true) : (f_X2_clearError M) p = M p := by
  unfold f_X2_clearError
  exact ((xup_other (xnot_at hp (by decide) : p ≠ 4)).trans rfl)
theorem fr_X2_allows_125 {p : Nat} {x1 : Int32} {x3 : Int32} {M : St} (hp : xnot p [4] = true) : (f_X2_allows_125 x1 x3 M).2 p = M p := by
  unfold f_X2_allows_125
  exact ((xup_other (xnot_at hp (by decide) : p ≠ 4)).trans ((xup_other (xnot_at hp (by decide) : p ≠ 4)).trans rfl))
theorem fr_X2_allows_105 {p : Nat} {x1 : Int32} {x3 : Int32} {x6 : Int32} {x7 : Int32} {M : St} (hp : xnot p [4] = true) : (f_X2_allows_105 x1 x3 x6 x7 M).2 p = M p := by
  unfold f_X2_allows_105
  exact (ite_p (fun _ => (ite_p (fun _ => ((fr_X2_allows_125 (xnot_sub hp (by decide))).trans ((xup_other (xnot_at hp (by decide) : p ≠ 4)).trans rfl))) (fun _ => rfl))) (fun _ => rfl))
theorem fr_X2_allows_84 {p : Nat} {x1 : Int32} {x2 : Int32} {x3 : Int32} {x6 : Int32} {s0 : Int32} {M : St} (hp : xnot p [4] = true) : (f_X2_allows_84 x1 x2 x3 x6 s0 M).2 p = M p := by
  unfold f_X2_allows_84
  exact (ite_p (fun _ => ((fr_X2_allows_105 (xnot_sub hp (by decide))).trans rfl)) (fun _ => (ite_p (fun _ => ((fr_X2_allows_105 (xnot_sub hp (by decide))).trans rfl)) (fun _ => ((fr_X2_allows_125 (xnot_sub hp (by decide))).trans ((xup_other (xnot_at hp (by decide) : p ≠ 4)).trans rfl))))))
theorem fr_X2_allows_83 {p : Nat} {x1 : Int32} {x2 : Int32} {x3 : Int32} {x6 : Int32} {M : St} (hp : xnot p [4] = true) : (f_X2_allows_83 x1 x2 x3 x6 M).2 p = M p := by
  unfold f_X2_allows_83
  exact ((fr_X2_allows_84 (xnot_sub hp (by decide))).trans rfl)
theorem fr_X2_allows_53 {p : Nat} {x1 : Int32} {x2 : Int32} {x3 : Int32} {x4 : Int32} {x5 : Int32} {s0 : Int32} {M : St} (hp : xnot p [4] = true) : (f_X2_allows_53 x1 x2 x3 x4 x5 s0 M).2 p = M p := by
  unfold f_X2_allows_53
  exact (ite_p (fun _ => ((fr_X2_allows_83 (xnot_sub hp (by decide))).trans rfl)) (fun _ => (ite_p (fun _ => ((fr_X2_allows_83 (xnot_sub hp (by decide))).trans rfl)) (fun _ => (ite_p (fun _ => ((fr_X2_allows_83 (xnot_sub hp (by decide))).trans rfl)) (fun _ => ((fr_X2_allows_84 (xnot_sub hp (by decide))).trans rfl)))))))
theorem fr_X2_allows_52 {p : Nat} {x1 : Int32} {x2 : Int32} {x3 : Int32} {x4 : Int32} {x5 : Int32} {M : St} (hp : xnot p [4] = true) : (f_X2_allows_52 x1 x2 x3 x4 x5 M).2 p = M p := by
  unfold f_X2_allows_52
  exact ((fr_X2_allows_53 (xnot_sub hp (by decide))).trans rfl)
theorem fr_X2_allows_48 {p : Nat} {x1 : Int32} {x2 : Int32} {x3 : Int32} {x4 : Int32} {x5 : Int32} {M : St} (hp : xnot p [4] = true) : (f_X2_allows_48 x1 x2 x3 x4 x5 M).2 p = M p := by
  unfold f_X2_allows_48
  exact ((fr_X2_allows_53 (xnot_sub hp (by decide))).trans rfl)
theorem fr_X2_allows {p : Nat} {a1 : Int32} {a2 : Int32} {a3 : Int32} {M : St} (hp : xnot p [4] = true) : (f_X2_allows a1 a2 a3 M).2 p = M p := by
  unfold f_X2_allows
  exact (ite_p (fun _ => (ite_p (fun _ => ((fr_X2_allows_52 (xnot_sub hp (by decide))).trans rfl)) (fun _ => (ite_p (fun _ => (ite_p (fun _ => ((fr_X2_allows_52 (xnot_sub hp (by decide))).trans rfl)) (fun _ => ((fr_X2_allows_48 (xnot_sub hp (by decide))).trans rfl)))) (fun _ => ((fr_X2_allows_48 (xnot_sub hp (by decide))).trans rfl)))))) (fun _ => rfl))
theorem fr_X2_readByte {p : Nat} {a1 : Int32} {M : St} (hp : xnot p [4] = true) : (f_X2_readByte a1 M).2 p = M p := by
  unfold f_X2_readByte
  exact (ite_p (fun _ => (ite_p (fun _ => (ite_p (fun _ => rfl) (fun _ => ((xup_other (xnot_at hp (by decide) : p ≠ 4)).trans ((xup_other (xnot_at hp (by decide) : p ≠ 4)).trans rfl))))) (fun _ => (ite_p (fun _ => rfl) (fun _ => (ite_p (fun _ => rfl) (fun _ => (ite_p (fun _ => rfl) (fun _ => (ite_p (fun _ => rfl) (fun _ => (ite_p (fun _ => (ite_p (fun _ => rfl) (fun _ => rfl))) (fun _ => rfl))))))))))))) (fun _ => rfl))
theorem fr_X2_read_32 {p : Nat} (hp : xnot p [4] = true) : ∀ (n : Nat) (x4 : Int32) (x5 : Int32) (x6 : Int32) (x7 : Int32) (M : St), (f_X2_read_32 n x4 x5 x6 x7 M).2 p = M p := by
  intro n
  induction n with
  | zero => intros; rfl
  | succ n ih =>
    intro x4 x5 x6 x7 M
    unfold f_X2_read_32
    exact (ite_p (fun _ => rfl) (fun _ => (xb_pp ((fr_X2_readByte (xnot_sub hp (by decide))).trans rfl) (fun q14 hq14 => ((ih _ _ _ _ _).trans hq14)))))
theorem fr_X2_read {p : Nat} {a1 : Int32} {a2 : Int32} {a3 : Int32} {M : St} (hp : xnot p [4] = true) : (f_X2_read a1 a2 a3 M).2 p = M p := by
  unfold f_X2_read
  exact (xb_pp ((fr_X2_allows (xnot_sub hp (by decide))).trans rfl) (fun q4 hq4 => (ite_p (fun _ => hq4) (fun _ => ((fr_X2_read_32 (xnot_sub hp (by decide)) _ _ _ _ _ _).trans hq4)))))
theorem fr_X2_quietTimer {p : Nat} {M : St} (hp : xnot p [4] = true) : (f_X2_quietTimer M) p = M p := by
  unfold f_X2_quietTimer
  exact ((xup_other (xnot_at hp (by decide) : p ≠ 4)).trans ((xup_other (xnot_at hp (by decide) : p ≠ 4)).trans ((xup_other (xnot_at hp (by decide) : p ≠ 4)).trans rfl)))
theorem fr_X7_startAnew {p : Nat} {M : St} (hp : xnot p [2, 4, 8] = true) : (f_X7_startAnew M) p = M p := by
  unfold f_X7_startAnew
  exact (xb_ss ((fr_X8_changeStatus (xnot_sub hp (by decide))).trans rfl) (fun q1 hq1 => (xb_ss ((fr_X2_clearError (xnot_sub hp (by decide))).trans hq1) (fun q4 hq4 => (xb_ps ((fr_X2_read (xnot_sub hp (by decide))).trans hq4) (fun q7 hq7 => (xb_ps ((fr_X2_read (xnot_sub hp (by decide))).trans ((xup_other (xnot_at hp (by decide) : p ≠ 2)).trans hq7)) (fun q11 hq11 => (xb_ss ((fr_X2_quietTimer (xnot_sub hp (by decide))).trans ((xup_other (xnot_at hp (by decide) : p ≠ 2)).trans hq11)) (fun q15 hq15 => ((xup_other (xnot_at hp (by decide) : p ≠ 8)).trans ((xup_other (xnot_at hp (by decide) : p ≠ 8)).trans ((xup_other (xnot_at hp (by decide) : p ≠ 8)).trans ((xup_other (xnot_at hp (by decide) : p ≠ 8)).trans hq15))))))))))))))
theorem fr_X10_reset {p : Nat} {M : St} (hp : xnot p [2, 4, 8] = true) : (f_X10_reset M) p = M p := by
  unfold f_X10_reset
  exact (xb_ss ((fr_X7_startAnew (xnot_sub hp (by decide))).trans rfl) (fun q1 hq1 => hq1))
theorem fr_X2_enqueue {p : Nat} {a1 : Int32} {M : St} (hp : xnot p [4, 6] = true) : (f_X2_enqueue a1 M).2 p = M p := by
  unfold f_X2_enqueue
  exact (ite_p (fun _ => ((xup_other (xnot_at hp (by decide) : p ≠ 4)).trans ((xup_other (xnot_at hp (by decide) : p ≠ 6)).trans rfl))) (fun _ => rfl))
theorem fr_X10_type {p : Nat} {a1 : Int32} {M : St} (hp : xnot p [4, 6] = true) : (f_X10_type a1 M).2 p = M p := by
  unfold f_X10_type
  exact (xb_pp ((fr_X2_enqueue (xnot_sub hp (by decide))).trans rfl) (fun q1 hq1 => hq1))
theorem fr_X2_store {p : Nat} {a1 : Int32} {a2 : Int32} {M : St} (hp : xnot p [5] = true) : (f_X2_store a1 a2 M) p = M p := by
  unfold f_X2_store
  exact ((xup_other (xnot_at hp (by decide) : p ≠ 5)).trans ((xup_other (xnot_at hp (by decide) : p ≠ 5)).trans rfl))
theorem fr_X8_keep {p : Nat} {M : St} (hp : xnot p [3] = true) : (f_X8_keep M) p = M p := by
  unfold f_X8_keep
  exact ((xcp_other (xnot_at hp (by decide) : p ≠ 3)).trans rfl)
theorem fr_X2_writeByte {p : Nat} {a1 : Int32} {a2 : Int32} {M : St} (hp : xnot p [4, 5, 7] = true) : (f_X2_writeByte a1 a2 M) p = M p := by
  unfold f_X2_writeByte
  exact (ite_s (fun _ => (ite_s (fun _ => (ite_s (fun _ => rfl) (fun _ => ((xup_other (xnot_at hp (by decide) : p ≠ 4)).trans ((xup_other (xnot_at hp (by decide) : p ≠ 7)).trans rfl))))) (fun _ => (ite_s (fun _ => rfl) (fun _ => (ite_s (fun _ => ((xup_other (xnot_at hp (by decide) : p ≠ 4)).trans rfl)) (fun _ => (ite_s (fun _ => ((xup_other (xnot_at hp (by decide) : p ≠ 4)).trans rfl)) (fun _ => (ite_s (fun _ => ((xup_other (xnot_at hp (by decide) : p ≠ 4)).trans rfl)) (fun _ => (ite_s (fun _ => ((xup_other (xnot_at hp (by decide) : p ≠ 4)).trans rfl)) (fun _ => rfl))))))))))))) (fun _ => ((xup_other (xnot_at hp (by decide) : p ≠ 5)).trans rfl)))
theorem fr_X2_write_28 {p : Nat} (hp : xnot p [4, 5, 7] = true) : ∀ (n : Nat) (x3 : Int32) (x4 : Int32) (x5 : Int32) (x6 : Int32) (M : St), (f_X2_write_28 n x3 x4 x5 x6 M) p = M p := by
  intro n
  induction n with
  | zero => intros; rfl
  | succ n ih =>
    intro x3 x4 x5 x6 M
    unfold f_X2_write_28
    exact (ite_s (fun _ => rfl) (fun _ => (xb_ss ((fr_X2_writeByte (xnot_sub hp (by decide))).trans rfl) (fun q14 hq14 => ((ih _ _ _ _ _).trans hq14)))))
theorem fr_X2_write {p : Nat} {a1 : Int32} {a2 : Int32} {a3 : Int32} {M : St} (hp : xnot p [4, 5, 7] = true) : (f_X2_write a1 a2 a3 M) p = M p := by
  unfold f_X2_write
  exact (xb_ps ((fr_X2_allows (xnot_sub hp (by decide))).trans rfl) (fun q4 hq4 => (ite_s (fun _ => hq4) (fun _ => ((fr_X2_write_28 (xnot_sub hp (by decide)) _ _ _ _ _ _).trans hq4)))))
theorem fr_X6_push {p : Nat} {a1 : Int32} {a2 : Int32} {M : St} (hp : xnot p [2, 4, 5, 7] = true) : (f_X6_push a1 a2 M) p = M p := by
  unfold f_X6_push
  exact (xb_ss ((fr_X2_write (xnot_sub hp (by decide))).trans ((xup_other (xnot_at hp (by decide) : p ≠ 2)).trans rfl)) (fun q5 hq5 => hq5))
theorem fr_X8_takeBack {p : Nat} {M : St} (hp : xnot p [2] = true) : (f_X8_takeBack M) p = M p := by
  unfold f_X8_takeBack
  exact ((xcp_other (xnot_at hp (by decide) : p ≠ 2)).trans rfl)
theorem fr_X7_enters_162 {p : Nat} {x1 : Int32} {M : St} (hp : xnot p [2, 4, 9] = true) : (f_X7_enters_162 x1 M).2 p = M p := by
  unfold f_X7_enters_162
  exact (xb_pp ((fr_X2_read (xnot_sub hp (by decide))).trans rfl) (fun q40 hq40 => (ite_p (fun _ => ((xup_other (xnot_at hp (by decide) : p ≠ 9)).trans ((xup_other (xnot_at hp (by decide) : p ≠ 2)).trans hq40))) (fun _ => (xb_sp ((fr_X8_takeBack (xnot_sub hp (by decide))).trans ((xup_other (xnot_at hp (by decide) : p ≠ 2)).trans hq40)) (fun q48 hq48 => hq48))))))
theorem fr_X7_enters_56 {p : Nat} {x1 : Int32} {x2 : Int32} {x3 : Int32} {s0 : Int32} {s1 : Int32} {M : St} (hp : xnot p [2, 3, 4, 5, 7, 9] = true) : (f_X7_enters_56 x1 x2 x3 s0 s1 M).2 p = M p := by
  unfold f_X7_enters_56
  exact (xb_sp ((fr_X8_keep (xnot_sub hp (by decide))).trans rfl) (fun q10 hq10 => (xb_sp ((fr_X2_clearError (xnot_sub hp (by decide))).trans hq10) (fun q13 hq13 => (xb_sp ((fr_X8_changeStatus (xnot_sub hp (by decide))).trans hq13) (fun q16 hq16 => (xb_sp ((fr_X6_push (xnot_sub hp (by decide))).trans hq16) (fun q19 hq19 => (xb_sp ((fr_X6_push (xnot_sub hp (by decide))).trans hq19) (fun q22 hq22 => (ite_p (fun _ => ((fr_X7_enters_162 (xnot_sub hp (by decide))).trans hq22)) (fun _ => (xb_sp ((fr_X6_push (xnot_sub hp (by decide))).trans hq22) (fun q31 hq31 => (xb_sp ((fr_X6_push (xnot_sub hp (by decide))).trans hq31) (fun q34 hq34 => (xb_sp ((fr_X6_push (xnot_sub hp (by decide))).trans hq34) (fun q37 hq37 => ((fr_X7_enters_162 (xnot_sub hp (by decide))).trans hq37)))))))))))))))))))
theorem fr_X7_enters_35 {p : Nat} {x1 : Int32} {x2 : Int32} {s0 : Int32} {M : St} (hp : xnot p [2, 3, 4, 5, 7, 9] = true) : (f_X7_enters_35 x1 x2 s0 M).2 p = M p := by
  unfold f_X7_enters_35
  exact (ite_p (fun _ => ((fr_X7_enters_56 (xnot_sub hp (by decide))).trans rfl)) (fun _ => ((fr_X7_enters_56 (xnot_sub hp (by decide))).trans rfl)))
theorem fr_X7_enters_30 {p : Nat} {x1 : Int32} {x2 : Int32} {M : St} (hp : xnot p [2, 3, 4, 5, 7, 9] = true) : (f_X7_enters_30 x1 x2 M).2 p = M p := by
  unfold f_X7_enters_30
  exact ((fr_X7_enters_35 (xnot_sub hp (by decide))).trans rfl)
theorem fr_X7_enters {p : Nat} {a1 : Int32} {M : St} (hp : xnot p [2, 3, 4, 5, 7, 9] = true) : (f_X7_enters a1 M).2 p = M p := by
  unfold f_X7_enters
  exact (ite_p (fun _ => ((fr_X7_enters_30 (xnot_sub hp (by decide))).trans rfl)) (fun _ => (ite_p (fun _ => ((fr_X7_enters_30 (xnot_sub hp (by decide))).trans rfl)) (fun _ => ((fr_X7_enters_35 (xnot_sub hp (by decide))).trans rfl)))))
theorem fr_X7_workOff_36 {p : Nat} {s0 : Int32} {M : St} (hp : xnot p [8] = true) : (f_X7_workOff_36 s0 M) p = M p := by
  unfold f_X7_workOff_36
  exact ((xup_other (xnot_at hp (by decide) : p ≠ 8)).trans rfl)
theorem fr_X7_workOff_31 {p : Nat} {M : St} (hp : xnot p [8] = true) : (f_X7_workOff_31 M) p = M p := by
  unfold f_X7_workOff_31
  exact ((fr_X7_workOff_36 (xnot_sub hp (by decide))).trans rfl)
theorem fr_X7_workOff {p : Nat} {a1 : Int32} {M : St} (hp : xnot p [2, 3, 4, 5, 7, 8, 9] = true) : (f_X7_workOff a1 M) p = M p := by
  unfold f_X7_workOff
  exact (xb_ps ((fr_X7_enters (xnot_sub hp (by decide))).trans rfl) (fun q1 hq1 => (ite_s (fun _ => (ite_s (fun _ => (xb_ps ((fr_X7_enters (xnot_sub hp (by decide))).trans hq1) (fun q12 hq12 => (ite_s (fun _ => ((fr_X7_workOff_31 (xnot_sub hp (by decide))).trans hq12)) (fun _ => ((fr_X7_workOff_36 (xnot_sub hp (by decide))).trans hq12)))))) (fun _ => ((fr_X7_workOff_31 (xnot_sub hp (by decide))).trans hq1)))) (fun _ => hq1))))
theorem fr_X7_interrupt {p : Nat} {a1 : Int32} {M : St} (hp : xnot p [2, 3, 4, 5, 7, 8, 9] = true) : (f_X7_interrupt a1 M).2 p = M p := by
  unfold f_X7_interrupt
  exact (xb_sp ((fr_X7_workOff (xnot_sub hp (by decide))).trans ((xup_other (xnot_at hp (by decide) : p ≠ 8)).trans rfl)) (fun q2 hq2 => hq2))
theorem fr_X6_fetch_13 {p : Nat} (hp : xnot p [2, 4] = true) : ∀ (n : Nat) (x1 : Int32) (x2 : Int32) (x3 : Int32) (M : St), (f_X6_fetch_13 n x1 x2 x3 M).2 p = M p := by
  intro n
  induction n with
  | zero => intros; rfl
  | succ n ih =>
    intro x1 x2 x3 M
    unfold f_X6_fetch_13
    exact (ite_p (fun _ => (ite_p (fun _ => rfl) (fun _ => rfl))) (fun _ => (xb_pp ((fr_X2_read (xnot_sub hp (by decide))).trans rfl) (fun q9 hq9 => ((ih _ _ _ _).trans ((xup_other (xnot_at hp (by decide) : p ≠ 2)).trans hq9))))))
theorem fr_X6_fetch_12 {p : Nat} {x1 : Int32} {x2 : Int32} {s0 : Int32} {M : St} (hp : xnot p [2, 4] = true) : (f_X6_fetch_12 x1 x2 s0 M).2 p = M p := by
  unfold f_X6_fetch_12
  exact ((fr_X6_fetch_13 (xnot_sub hp (by decide)) _ _ _ _ _).trans rfl)
theorem fr_X6_fetch {p : Nat} {a1 : Int32} {M : St} (hp : xnot p [2, 4] = true) : (f_X6_fetch a1 M).2 p = M p := by
  unfold f_X6_fetch
  exact (ite_p (fun _ => ((fr_X6_fetch_12 (xnot_sub hp (by decide))).trans rfl)) (fun _ => ((fr_X6_fetch_12 (xnot_sub hp (by decide))).trans rfl)))
theorem fr_X3_pair {p : Nat} {a1 : Nat} {a2 : Int32} {a3 : Int32} {a4 : Int32} {a5 : Int32} {M : St} (hp : xnot p [11] = true) : (f_X3_pair a1 a2 a3 a4 a5 M).2 p = M p := by
  unfold f_X3_pair
  exact (ite_p (fun _ => ((xup_other (xnot_at hp (by decide) : p ≠ 11)).trans ((xup_other (xnot_at hp (by decide) : p ≠ 11)).trans ((xup_other (xnot_at hp (by decide) : p ≠ 11)).trans rfl)))) (fun _ => ((xup_other (xnot_at hp (by decide) : p ≠ 11)).trans ((xup_other (xnot_at hp (by decide) : p ≠ 11)).trans ((xup_other (xnot_at hp (by decide) : p ≠ 11)).trans rfl)))))
theorem fr_X3_moving_68 {p : Nat} {x1 : Int32} {x2 : Int32} {x3 : Int32} {s0 : Nat} {M : St} (hp : xnot p [11] = true) : (f_X3_moving_68 x1 x2 x3 s0 M).2 p = M p := by
  unfold f_X3_moving_68
  exact (xb_pp ((fr_X3_pair (xnot_sub hp (by decide))).trans rfl) (fun q31 hq31 => hq31))
theorem fr_X3_moving_50 {p : Nat} {x1 : Int32} {x2 : Int32} {s0 : Int32} {M : St} (hp : xnot p [11] = true) : (f_X3_moving_50 x1 x2 s0 M).2 p = M p := by
  unfold f_X3_moving_50
  exact (ite_p (fun _ => ((fr_X3_moving_68 (xnot_sub hp (by decide))).trans rfl)) (fun _ => ((fr_X3_moving_68 (xnot_sub hp (by decide))).trans rfl)))
theorem fr_X3_moving_49 {p : Nat} {x1 : Int32} {x2 : Int32} {M : St} (hp : xnot p [11] = true) : (f_X3_moving_49 x1 x2 M).2 p = M p := by
  unfold f_X3_moving_49
  exact ((fr_X3_moving_50 (xnot_sub hp (by decide))).trans rfl)
theorem fr_X3_moving {p : Nat} {M : St} (hp : xnot p [11] = true) : (f_X3_moving M).2 p = M p := by
  unfold f_X3_moving
  exact (ite_p (fun _ => ((fr_X3_moving_49 (xnot_sub hp (by decide))).trans rfl)) (fun _ => (ite_p (fun _ => ((fr_X3_moving_49 (xnot_sub hp (by decide))).trans rfl)) (fun _ => (ite_p (fun _ => ((fr_X3_moving_49 (xnot_sub hp (by decide))).trans rfl)) (fun _ => ((fr_X3_moving_50 (xnot_sub hp (by decide))).trans rfl)))))))
theorem fr_X3_single {p : Nat} {a1 : Nat} {a2 : Int32} {a3 : Int32} {M : St} (hp : xnot p [11] = true) : (f_X3_single a1 a2 a3 M).2 p = M p := by
  unfold f_X3_single
  exact (xb_pp ((fr_X3_pair (xnot_sub hp (by decide))).trans rfl) (fun q7 hq7 => hq7))
theorem fr_X3_ofGroupThree_152 {p : Nat} {x1 : Int32} {x2 : Int32} {M : St} (hp : xnot p [11] = true) : (f_X3_ofGroupThree_152 x1 x2 M).2 p = M p := by
  unfold f_X3_ofGroupThree_152
  exact (xb_pp ((fr_X3_single (xnot_sub hp (by decide))).trans rfl) (fun q102 hq102 => hq102))
theorem fr_X3_ofGroupThree_172 {p : Nat} {x1 : Int32} {x2 : Int32} {M : St} (hp : xnot p [11] = true) : (f_X3_ofGroupThree_172 x1 x2 M).2 p = M p := by
  unfold f_X3_ofGroupThree_172
  exact (xb_pp ((fr_X3_single (xnot_sub hp (by decide))).trans rfl) (fun q105 hq105 => hq105))
theorem fr_X3_ofGroupThree_200 {p : Nat} {x1 : Int32} {x2 : Int32} {M : St} (hp : xnot p [11] = true) : (f_X3_ofGroupThree_200 x1 x2 M).2 p = M p := by
  unfold f_X3_ofGroupThree_200
  exact (xb_pp ((fr_X3_single (xnot_sub hp (by decide))).trans rfl) (fun q108 hq108 => hq108))
theorem fr_X3_ofGroupThree_229 {p : Nat} {x1 : Int32} {x2 : Int32} {M : St} (hp : xnot p [11] = true) : (f_X3_ofGroupThree_229 x1 x2 M).2 p = M p := by
  unfold f_X3_ofGroupThree_229
  exact (xb_pp ((fr_X3_single (xnot_sub hp (by decide))).trans rfl) (fun q111 hq111 => hq111))
theorem fr_X3_ofGroupThree_252 {p : Nat} {x1 : Int32} {x2 : Int32} {M : St} (hp : xnot p [11] = true) : (f_X3_ofGroupThree_252 x1 x2 M).2 p = M p := by
  unfold f_X3_ofGroupThree_252
  exact (xb_pp ((fr_X3_single (xnot_sub hp (by decide))).trans rfl) (fun q114 hq114 => hq114))
theorem fr_X3_ofGroupThree_310 {p : Nat} {x1 : Int32} {M : St} (hp : xnot p [11] = true) : (f_X3_ofGroupThree_310 x1 M).2 p = M p := by
  unfold f_X3_ofGroupThree_310
  exact (ite_p (fun _ => (xb_pp ((fr_X3_single (xnot_sub hp (by decide))).trans rfl) (fun q129 hq129 => hq129))) (fun _ => (xb_pp ((fr_X3_single (xnot_sub hp (by decide))).trans rfl) (fun q125 hq125 => hq125))))
theorem fr_X3_ofGroupThree_348 {p : Nat} {x1 : Int32} {M : St} (hp : xnot p [11] = true) : (f_X3_ofGroupThree_348 x1 M).2 p = M p := by
  unfold f_X3_ofGroupThree_348
  exact (xb_pp ((fr_X3_single (xnot_sub hp (by decide))).trans rfl) (fun q135 hq135 => hq135))
theorem fr_X3_ofGroupThree {p : Nat} {M : St} (hp : xnot p [11] = true) : (f_X3_ofGroupThree M).2 p = M p := by
  unfold f_X3_ofGroupThree
  exact (ite_p (fun _ => ((fr_X3_ofGroupThree_152 (xnot_sub hp (by decide))).trans rfl)) (fun _ => (ite_p (fun _ => ((fr_X3_ofGroupThree_152 (xnot_sub hp (by decide))).trans rfl)) (fun _ => (ite_p (fun _ => ((fr_X3_ofGroupThree_152 (xnot_sub hp (by decide))).trans rfl)) (fun _ => (ite_p (fun _ => (xb_pp ((fr_X3_single (xnot_sub hp (by decide))).trans rfl) (fun q11 hq11 => hq11))) (fun _ => (ite_p (fun _ => ((fr_X3_ofGroupThree_172 (xnot_sub hp (by decide))).trans rfl)) (fun _ => (ite_p (fun _ => ((fr_X3_ofGroupThree_172 (xnot_sub hp (by decide))).trans rfl)) (fun _ => (ite_p (fun _ => ((fr_X3_ofGroupThree_172 (xnot_sub hp (by decide))).trans rfl)) (fun _ => (ite_p (fun _ => (xb_pp ((fr_X3_single (xnot_sub hp (by decide))).trans rfl) (fun q24 hq24 => hq24))) (fun _ => (ite_p (fun _ => ((fr_X3_ofGroupThree_200 (xnot_sub hp (by decide))).trans rfl)) (fun _ => (ite_p (fun _ => ((fr_X3_ofGroupThree_200 (xnot_sub hp (by decide))).trans rfl)) (fun _ => (ite_p (fun _ => ((fr_X3_ofGroupThree_200 (xnot_sub hp (by decide))).trans rfl)) (fun _ => (ite_p (fun _ => (xb_pp ((fr_X3_single (xnot_sub hp (by decide))).trans rfl) (fun q37 hq37 => hq37))) (fun _ => (ite_p (fun _ => ((fr_X3_ofGroupThree_229 (xnot_sub hp (by decide))).trans rfl)) (fun _ => (ite_p (fun _ => ((fr_X3_ofGroupThree_229 (xnot_sub hp (by decide))).trans rfl)) (fun _ => (ite_p (fun _ => ((fr_X3_ofGroupThree_229 (xnot_sub hp (by decide))).trans rfl)) (fun _ => (ite_p (fun _ => (xb_pp ((fr_X3_single (xnot_sub hp (by decide))).trans rfl) (fun q44 hq44 => hq44))) (fun _ => (ite_p (fun _ => ((fr_X3_ofGroupThree_252 (xnot_sub hp (by decide))).trans rfl)) (fun _ => (ite_p (fun _ => ((fr_X3_ofGroupThree_252 (xnot_sub hp (by decide))).trans rfl)) (fun _ => (ite_p (fun _ => ((fr_X3_ofGroupThree_252 (xnot_sub hp (by decide))).trans rfl)) (fun _ => (ite_p (fun _ => (xb_pp ((fr_X3_single (xnot_sub hp (by decide))).trans rfl) (fun q51 hq51 => hq51))) (fun _ => (ite_p (fun _ => (ite_p (fun _ => (xb_pp ((fr_X3_single (xnot_sub hp (by decide))).trans rfl) (fun q70 hq70 => hq70))) (fun _ => (xb_pp ((fr_X3_single (xnot_sub hp (by decide))).trans rfl) (fun q66 hq66 => hq66))))) (fun _ => (ite_p (fun _ => ((fr_X3_ofGroupThree_310 (xnot_sub hp (by decide))).trans rfl)) (fun _ => (ite_p (fun _ => ((fr_X3_ofGroupThree_310 (xnot_sub hp (by decide))).trans rfl)) (fun _ => (ite_p (fun _ => rfl) (fun _ => (ite_p (fun _ => ((fr_X3_ofGroupThree_348 (xnot_sub hp (by decide))).trans rfl)) (fun _ => (ite_p (fun _ => ((fr_X3_ofGroupThree_348 (xnot_sub hp (by decide))).trans rfl)) (fun _ => (ite_p (fun _ => (xb_pp ((fr_X3_single (xnot_sub hp (by decide))).trans rfl) (fun q85 hq85 => hq85))) (fun _ => (ite_p (fun _ => (xb_pp ((fr_X3_single (xnot_sub hp (by decide))).trans rfl) (fun q95 hq95 => hq95))) (fun _ => (ite_p (fun _ => rfl) (fun _ => rfl))))))))))))))))))))))))))))))))))))))))))))))))))))))))))
theorem fr_X3_withAddress_12 {p : Nat} {x1 : Nat} {s0 : Int32} {M : St} (hp : xnot p [11] = true) : (f_X3_withAddress_12 x1 s0 M).2 p = M p := by
  unfold f_X3_withAddress_12
  exact (xb_pp ((fr_X3_pair (xnot_sub hp (by decide))).trans rfl) (fun q19 hq19 => hq19))
theorem fr_X3_withAddress {p : Nat} {a1 : Nat} {M : St} (hp : xnot p [11] = true) : (f_X3_withAddress a1 M).2 p = M p := by
  unfold f_X3_withAddress
  exact (ite_p (fun _ => ((fr_X3_withAddress_12 (xnot_sub hp (by decide))).trans rfl)) (fun _ => ((fr_X3_withAddress_12 (xnot_sub hp (by decide))).trans rfl)))
theorem fr_X3_summing {p : Nat} {a1 : Nat} {a2 : Nat} {a3 : Nat} {M : St} (hp : xnot p [11] = true) : (f_X3_summing a1 a2 a3 M).2 p = M p := by
  unfold f_X3_summing
  exact (ite_p (fun _ => (xb_pp ((fr_X3_withAddress (xnot_sub hp (by decide))).trans rfl) (fun q78 hq78 => hq78))) (fun _ => (ite_p (fun _ => (xb_pp ((fr_X3_pair (xnot_sub hp (by decide))).trans rfl) (fun q74 hq74 => hq74))) (fun _ => (ite_p (fun _ => (xb_pp ((fr_X3_pair (xnot_sub hp (by decide))).trans rfl) (fun q24 hq24 => hq24))) (fun _ => (ite_p (fun _ => (xb_pp ((fr_X3_pair (xnot_sub hp (by decide))).trans rfl) (fun q40 hq40 => hq40))) (fun _ => (xb_pp ((fr_X3_pair (xnot_sub hp (by decide))).trans rfl) (fun q55 hq55 => hq55))))))))))
theorem fr_X3_comparing {p : Nat} {M : St} (hp : xnot p [11] = true) : (f_X3_comparing M).2 p = M p := by
  unfold f_X3_comparing
  exact (ite_p (fun _ => (xb_pp ((fr_X3_withAddress (xnot_sub hp (by decide))).trans rfl) (fun q69 hq69 => hq69))) (fun _ => (ite_p (fun _ => (xb_pp ((fr_X3_pair (xnot_sub hp (by decide))).trans rfl) (fun q65 hq65 => hq65))) (fun _ => (ite_p (fun _ => (xb_pp ((fr_X3_pair (xnot_sub hp (by decide))).trans rfl) (fun q46 hq46 => hq46))) (fun _ => (xb_pp ((fr_X3_pair (xnot_sub hp (by decide))).trans rfl) (fun q30 hq30 => hq30))))))))
theorem fr_X3_exchanging_62 {p : Nat} {s0 : Int32} {s1 : Int32} {s2 : Int32} {s3 : Int32} {s4 : Nat} {M : St} (hp : xnot p [11] = true) : (f_X3_exchanging_62 s0 s1 s2 s3 s4 M).2 p = M p := by
  unfold f_X3_exchanging_62
  exact (xb_pp ((fr_X3_pair (xnot_sub hp (by decide))).trans rfl) (fun q30 hq30 => hq30))
theorem fr_X3_exchanging_57 {p : Nat} {s0 : Int32} {s1 : Int32} {s2 : Int32} {s3 : Nat} {M : St} (hp : xnot p [11] = true) : (f_X3_exchanging_57 s0 s1 s2 s3 M).2 p = M p := by
  unfold f_X3_exchanging_57
  exact ((fr_X3_exchanging_62 (xnot_sub hp (by decide))).trans rfl)
theorem fr_X3_exchanging_30 {p : Nat} {s0 : Int32} {M : St} (hp : xnot p [11] = true) : (f_X3_exchanging_30 s0 M).2 p = M p := by
  unfold f_X3_exchanging_30
  exact (ite_p (fun _ => ((fr_X3_exchanging_57 (xnot_sub hp (by decide))).trans rfl)) (fun _ => (ite_p (fun _ => ((fr_X3_exchanging_57 (xnot_sub hp (by decide))).trans rfl)) (fun _ => ((fr_X3_exchanging_62 (xnot_sub hp (by decide))).trans rfl)))))
theorem fr_X3_exchanging_26 {p : Nat} {M : St} (hp : xnot p [11] = true) : (f_X3_exchanging_26 M).2 p = M p := by
  unfold f_X3_exchanging_26
  exact ((fr_X3_exchanging_30 (xnot_sub hp (by decide))).trans rfl)
theorem fr_X3_exchanging {p : Nat} {M : St} (hp : xnot p [11] = true) : (f_X3_exchanging M).2 p = M p := by
  unfold f_X3_exchanging
  exact (ite_p (fun _ => (ite_p (fun _ => ((fr_X3_exchanging_30 (xnot_sub hp (by decide))).trans rfl)) (fun _ => ((fr_X3_exchanging_26 (xnot_sub hp (by decide))).trans rfl)))) (fun _ => ((fr_X3_exchanging_26 (xnot_sub hp (by decide))).trans rfl)))
theorem fr_X3_joining_123 {p : Nat} {x1 : Nat} {x3 : Nat} {x4 : Int32} {M : St} (hp : xnot p [11] = true) : (f_X3_joining_123 x1 x3 x4 M).2 p = M p := by
  unfold f_X3_joining_123
  exact (ite_p (fun _ => (xb_pp ((fr_X3_pair (xnot_sub hp (by decide))).trans rfl) (fun q101 hq101 => hq101))) (fun _ => (ite_p (fun _ => (xb_pp ((fr_X3_exchanging (xnot_sub hp (by decide))).trans rfl) (fun q88 hq88 => hq88))) (fun _ => rfl))))
theorem fr_X3_joining {p : Nat} {a1 : Nat} {a2 : Nat} {a3 : Nat} {M : St} (hp : xnot p [11] = true) : (f_X3_joining a1 a2 a3 M).2 p = M p := by
  unfold f_X3_joining
  exact (ite_p (fun _ => (xb_pp ((fr_X3_pair (xnot_sub hp (by decide))).trans rfl) (fun q79 hq79 => hq79))) (fun _ => (ite_p (fun _ => (xb_pp ((fr_X3_pair (xnot_sub hp (by decide))).trans rfl) (fun q66 hq66 => hq66))) (fun _ => (ite_p (fun _ => (ite_p (fun _ => (ite_p (fun _ => (xb_pp ((fr_X3_pair (xnot_sub hp (by decide))).trans rfl) (fun q34 hq34 => hq34))) (fun _ => ((fr_X3_joining_123 (xnot_sub hp (by decide))).trans rfl)))) (fun _ => ((fr_X3_joining_123 (xnot_sub hp (by decide))).trans rfl)))) (fun _ => (xb_pp ((fr_X3_pair (xnot_sub hp (by decide))).trans rfl) (fun q50 hq50 => hq50))))))))
theorem fr_X3_quick_85 {p : Nat} {x1 : Int32} {s0 : Nat} {M : St} (hp : xnot p [11] = true) : (f_X3_quick_85 x1 s0 M).2 p = M p := by
  unfold f_X3_quick_85
  exact (xb_pp ((fr_X3_single (xnot_sub hp (by decide))).trans rfl) (fun q51 hq51 => hq51))
theorem fr_X3_quick_67 {p : Nat} {s0 : Int32} {M : St} (hp : xnot p [11] = true) : (f_X3_quick_67 s0 M).2 p = M p := by
  unfold f_X3_quick_67
  exact (ite_p (fun _ => ((fr_X3_quick_85 (xnot_sub hp (by decide))).trans rfl)) (fun _ => ((fr_X3_quick_85 (xnot_sub hp (by decide))).trans rfl)))
theorem fr_X3_quick_66 {p : Nat} {M : St} (hp : xnot p [11] = true) : (f_X3_quick_66 M).2 p = M p := by
  unfold f_X3_quick_66
  exact ((fr_X3_quick_67 (xnot_sub hp (by decide))).trans rfl)
theorem fr_X3_quick {p : Nat} {M : St} (hp : xnot p [11] = true) : (f_X3_quick M).2 p = M p := by
  unfold f_X3_quick
  exact (ite_p (fun _ => (ite_p (fun _ => rfl) (fun _ => (xb_pp ((fr_X3_single (xnot_sub hp (by decide))).trans rfl) (fun q38 hq38 => hq38))))) (fun _ => (ite_p (fun _ => ((fr_X3_quick_66 (xnot_sub hp (by decide))).trans rfl)) (fun _ => (ite_p (fun _ => ((fr_X3_quick_66 (xnot_sub hp (by decide))).trans rfl)) (fun _ => ((fr_X3_quick_67 (xnot_sub hp (by decide))).trans rfl)))))))
theorem fr_X3_bits_36 {p : Nat} {x3 : Int32} {s0 : Int32} {s1 : Nat} {M : St} (hp : xnot p [11] = true) : (f_X3_bits_36 x3 s0 s1 M).2 p = M p := by
  unfold f_X3_bits_36
  exact (xb_pp ((fr_X3_single (xnot_sub hp (by decide))).trans rfl) (fun q22 hq22 => hq22))
theorem fr_X3_bits_18 {p : Nat} {x1 : Nat} {s0 : Int32} {M : St} (hp : xnot p [11] = true) : (f_X3_bits_18 x1 s0 M).2 p = M p := by
  unfold f_X3_bits_18
  exact (ite_p (fun _ => ((fr_X3_bits_36 (xnot_sub hp (by decide))).trans rfl)) (fun _ => ((fr_X3_bits_36 (xnot_sub hp (by decide))).trans rfl)))
theorem fr_X3_bits {p : Nat} {a1 : Nat} {a2 : Int32} {M : St} (hp : xnot p [11] = true) : (f_X3_bits a1 a2 M).2 p = M p := by
  unfold f_X3_bits
  exact (ite_p (fun _ => ((fr_X3_bits_18 (xnot_sub hp (by decide))).trans rfl)) (fun _ => ((fr_X3_bits_18 (xnot_sub hp (by decide))).trans rfl)))
theorem fr_X3_byRegister {p : Nat} {M : St} (hp : xnot p [11] = true) : (f_X3_byRegister M).2 p = M p := by
  unfold f_X3_byRegister
  exact (ite_p (fun _ => rfl) (fun _ => (xb_pp ((fr_X3_bits (xnot_sub hp (by decide))).trans rfl) (fun q11 hq11 => hq11))))
theorem fr_X3_withNumber_100 {p : Nat} {s0 : Int32} {s1 : Int32} {s2 : Int32} {s3 : Int32} {s4 : Nat} {M : St} (hp : xnot p [11] = true) : (f_X3_withNumber_100 s0 s1 s2 s3 s4 M).2 p = M p := by
  unfold f_X3_withNumber_100
  exact (xb_pp ((fr_X3_pair (xnot_sub hp (by decide))).trans rfl) (fun q45 hq45 => hq45))
theorem fr_X3_withNumber_99 {p : Nat} {s0 : Int32} {s1 : Int32} {s2 : Int32} {s3 : Nat} {M : St} (hp : xnot p [11] = true) : (f_X3_withNumber_99 s0 s1 s2 s3 M).2 p = M p := by
  unfold f_X3_withNumber_99
  exact ((fr_X3_withNumber_100 (xnot_sub hp (by decide))).trans rfl)
theorem fr_X3_withNumber_65 {p : Nat} {x1 : Nat} {M : St} (hp : xnot p [11] = true) : (f_X3_withNumber_65 x1 M).2 p = M p := by
  unfold f_X3_withNumber_65
  exact (ite_p (fun _ => ((fr_X3_withNumber_99 (xnot_sub hp (by decide))).trans rfl)) (fun _ => (ite_p (fun _ => ((fr_X3_withNumber_99 (xnot_sub hp (by decide))).trans rfl)) (fun _ => ((fr_X3_withNumber_100 (xnot_sub hp (by decide))).trans rfl)))))
theorem fr_X3_withNumber_26 {p : Nat} {x1 : Nat} {s0 : Int32} {M : St} (hp : xnot p [11] = true) : (f_X3_withNumber_26 x1 s0 M).2 p = M p := by
  unfold f_X3_withNumber_26
  exact (ite_p (fun _ => ((fr_X3_withNumber_65 (xnot_sub hp (by decide))).trans rfl)) (fun _ => (ite_p (fun _ => (ite_p (fun _ => ((fr_X3_withNumber_65 (xnot_sub hp (by decide))).trans rfl)) (fun _ => (ite_p (fun _ => rfl) (fun _ => rfl))))) (fun _ => ((fr_X3_withNumber_65 (xnot_sub hp (by decide))).trans rfl)))))
theorem fr_X3_withNumber_21 {p : Nat} {x1 : Nat} {M : St} (hp : xnot p [11] = true) : (f_X3_withNumber_21 x1 M).2 p = M p := by
  unfold f_X3_withNumber_21
  exact ((fr_X3_withNumber_26 (xnot_sub hp (by decide))).trans rfl)
theorem fr_X3_withNumber {p : Nat} {a1 : Nat} {M : St} (hp : xnot p [11] = true) : (f_X3_withNumber a1 M).2 p = M p := by
  unfold f_X3_withNumber
  exact (ite_p (fun _ => ((fr_X3_withNumber_21 (xnot_sub hp (by decide))).trans rfl)) (fun _ => (ite_p (fun _ => ((fr_X3_withNumber_21 (xnot_sub hp (by decide))).trans rfl)) (fun _ => (ite_p (fun _ => ((fr_X3_withNumber_21 (xnot_sub hp (by decide))).trans rfl)) (fun _ => ((fr_X3_withNumber_26 (xnot_sub hp (by decide))).trans rfl)))))))
theorem fr_X3_byNumber_108 {p : Nat} {s0 : Int32} {s1 : Nat} {M : St} (hp : xnot p [11] = true) : (f_X3_byNumber_108 s0 s1 M).2 p = M p := by
  unfold f_X3_byNumber_108
  exact (xb_pp ((fr_X3_bits (xnot_sub hp (by decide))).trans rfl) (fun q43 hq43 => hq43))
theorem fr_X3_byNumber_107 {p : Nat} {s0 : Nat} {M : St} (hp : xnot p [11] = true) : (f_X3_byNumber_107 s0 M).2 p = M p := by
  unfold f_X3_byNumber_107
  exact ((fr_X3_byNumber_108 (xnot_sub hp (by decide))).trans rfl)
theorem fr_X3_byNumber {p : Nat} {M : St} (hp : xnot p [11] = true) : (f_X3_byNumber M).2 p = M p := by
  unfold f_X3_byNumber
  exact (ite_p (fun _ => (xb_pp ((fr_X3_withNumber (xnot_sub hp (by decide))).trans rfl) (fun q5 hq5 => hq5))) (fun _ => (ite_p (fun _ => (xb_pp ((fr_X3_withNumber (xnot_sub hp (by decide))).trans rfl) (fun q9 hq9 => hq9))) (fun _ => (ite_p (fun _ => (xb_pp ((fr_X3_withNumber (xnot_sub hp (by decide))).trans rfl) (fun q13 hq13 => hq13))) (fun _ => (ite_p (fun _ => (xb_pp ((fr_X3_withNumber (xnot_sub hp (by decide))).trans rfl) (fun q17 hq17 => hq17))) (fun _ => (ite_p (fun _ => (ite_p (fun _ => ((fr_X3_byNumber_107 (xnot_sub hp (by decide))).trans rfl)) (fun _ => (ite_p (fun _ => ((fr_X3_byNumber_107 (xnot_sub hp (by decide))).trans rfl)) (fun _ => ((fr_X3_byNumber_108 (xnot_sub hp (by decide))).trans rfl)))))) (fun _ => (ite_p (fun _ => (xb_pp ((fr_X3_withNumber (xnot_sub hp (by decide))).trans rfl) (fun q36 hq36 => hq36))) (fun _ => (ite_p (fun _ => (xb_pp ((fr_X3_withNumber (xnot_sub hp (by decide))).trans rfl) (fun q40 hq40 => hq40))) (fun _ => rfl))))))))))))))
theorem fr_X3_shifting_57 {p : Nat} {s0 : Int32} {s1 : Int32} {s2 : Nat} {M : St} (hp : xnot p [11] = true) : (f_X3_shifting_57 s0 s1 s2 M).2 p = M p := by
  unfold f_X3_shifting_57
  exact (xb_pp ((fr_X3_single (xnot_sub hp (by decide))).trans rfl) (fun q34 hq34 => hq34))
theorem fr_X3_shifting_56 {p : Nat} {s0 : Int32} {s1 : Nat} {M : St} (hp : xnot p [11] = true) : (f_X3_shifting_56 s0 s1 M).2 p = M p := by
  unfold f_X3_shifting_56
  exact ((fr_X3_shifting_57 (xnot_sub hp (by decide))).trans rfl)
theorem fr_X3_shifting {p : Nat} {M : St} (hp : xnot p [11] = true) : (f_X3_shifting M).2 p = M p := by
  unfold f_X3_shifting
  exact (ite_p (fun _ => (ite_p (fun _ => ((fr_X3_shifting_56 (xnot_sub hp (by decide))).trans rfl)) (fun _ => (ite_p (fun _ => ((fr_X3_shifting_56 (xnot_sub hp (by decide))).trans rfl)) (fun _ => ((fr_X3_shifting_57 (xnot_sub hp (by decide))).trans rfl)))))) (fun _ => (xb_pp ((fr_X3_pair (xnot_sub hp (by decide))).trans rfl) (fun q31 hq31 => hq31))))
theorem fr_X3_ofGroupFourteen {p : Nat} {M : St} (hp : xnot p [11] = true) : (f_X3_ofGroupFourteen M).2 p = M p := by
  unfold f_X3_ofGroupFourteen
  exact (ite_p (fun _ => rfl) (fun _ => (ite_p (fun _ => (xb_pp ((fr_X3_single (xnot_sub hp (by decide))).trans rfl) (fun q16 hq16 => hq16))) (fun _ => (ite_p (fun _ => (xb_pp ((fr_X3_single (xnot_sub hp (by decide))).trans rfl) (fun q26 hq26 => hq26))) (fun _ => rfl))))))
theorem fr_X3_decode_88 {p : Nat} {M : St} (hp : xnot p [11] = true) : (f_X3_decode_88 M).2 p = M p := by
  unfold f_X3_decode_88
  exact (xb_pp ((fr_X3_moving (xnot_sub hp (by decide))).trans rfl) (fun q56 hq56 => hq56))
theorem fr_X3_decode {p : Nat} {a1 : Int32} {M : St} (hp : xnot p [11] = true) : (f_X3_decode a1 M).2 p = M p := by
  unfold f_X3_decode
  exact (ite_p (fun _ => ((fr_X3_decode_88 (xnot_sub hp (by decide))).trans ((xup_other (xnot_at hp (by decide) : p ≠ 11)).trans rfl))) (fun _ => (ite_p (fun _ => ((fr_X3_decode_88 (xnot_sub hp (by decide))).trans ((xup_other (xnot_at hp (by decide) : p ≠ 11)).trans rfl))) (fun _ => (ite_p (fun _ => ((fr_X3_decode_88 (xnot_sub hp (by decide))).trans ((xup_other (xnot_at hp (by decide) : p ≠ 11)).trans rfl))) (fun _ => (ite_p (fun _ => (xb_pp ((fr_X3_ofGroupThree (xnot_sub hp (by decide))).trans ((xup_other (xnot_at hp (by decide) : p ≠ 11)).trans rfl)) (fun q6 hq6 => hq6))) (fun _ => (ite_p (fun _ => (xb_pp ((fr_X3_summing (xnot_sub hp (by decide))).trans ((xup_other (xnot_at hp (by decide) : p ≠ 11)).trans rfl)) (fun q10 hq10 => hq10))) (fun _ => (ite_p (fun _ => (xb_pp ((fr_X3_summing (xnot_sub hp (by decide))).trans ((xup_other (xnot_at hp (by decide) : p ≠ 11)).trans rfl)) (fun q14 hq14 => hq14))) (fun _ => (ite_p (fun _ => (xb_pp ((fr_X3_comparing (xnot_sub hp (by decide))).trans ((xup_other (xnot_at hp (by decide) : p ≠ 11)).trans rfl)) (fun q18 hq18 => hq18))) (fun _ => (ite_p (fun _ => (xb_pp ((fr_X3_joining (xnot_sub hp (by decide))).trans ((xup_other (xnot_at hp (by decide) : p ≠ 11)).trans rfl)) (fun q22 hq22 => hq22))) (fun _ => (ite_p (fun _ => (xb_pp ((fr_X3_joining (xnot_sub hp (by decide))).trans ((xup_other (xnot_at hp (by decide) : p ≠ 11)).trans rfl)) (fun q26 hq26 => hq26))) (fun _ => (ite_p (fun _ => (xb_pp ((fr_X3_quick (xnot_sub hp (by decide))).trans ((xup_other (xnot_at hp (by decide) : p ≠ 11)).trans rfl)) (fun q30 hq30 => hq30))) (fun _ => (ite_p (fun _ => ((xup_other (xnot_at hp (by decide) : p ≠ 11)).trans rfl)) (fun _ => (ite_p (fun _ => ((xup_other (xnot_at hp (by decide) : p ≠ 11)).trans rfl)) (fun _ => (ite_p (fun _ => (ite_p (fun _ => (xb_pp ((fr_X3_byRegister (xnot_sub hp (by decide))).trans ((xup_other (xnot_at hp (by decide) : p ≠ 11)).trans rfl)) (fun q45 hq45 => hq45))) (fun _ => (xb_pp ((fr_X3_byNumber (xnot_sub hp (by decide))).trans ((xup_other (xnot_at hp (by decide) : p ≠ 11)).trans rfl)) (fun q41 hq41 => hq41))))) (fun _ => (ite_p (fun _ => (xb_pp ((fr_X3_shifting (xnot_sub hp (by decide))).trans ((xup_other (xnot_at hp (by decide) : p ≠ 11)).trans rfl)) (fun q49 hq49 => hq49))) (fun _ => (ite_p (fun _ => (xb_pp ((fr_X3_ofGroupFourteen (xnot_sub hp (by decide))).trans ((xup_other (xnot_at hp (by decide) : p ≠ 11)).trans rfl)) (fun q53 hq53 => hq53))) (fun _ => ((xup_other (xnot_at hp (by decide) : p ≠ 11)).trans rfl)))))))))))))))))))))))))))))))
theorem fr_X7_begin {p : Nat} {M : St} (hp : xnot p [2, 3, 4, 8, 11] = true) : (f_X7_begin M).2 p = M p := by
  unfold f_X7_begin
  exact (xb_sp ((fr_X8_keep (xnot_sub hp (by decide))).trans rfl) (fun q1 hq1 => (xb_pp ((fr_X6_fetch (xnot_sub hp (by decide))).trans ((xup_other (xnot_at hp (by decide) : p ≠ 8)).trans hq1)) (fun q8 hq8 => (ite_p (fun _ => (xb_pp ((fr_X3_decode (xnot_sub hp (by decide))).trans ((xup_other (xnot_at hp (by decide) : p ≠ 8)).trans hq8)) (fun q14 hq14 => (ite_p (fun _ => hq14) (fun _ => (ite_p (fun _ => hq14) (fun _ => hq14))))))) (fun _ => ((xup_other (xnot_at hp (by decide) : p ≠ 8)).trans hq8)))))))
theorem fr_X6_find_297 {p : Nat} {x4 : Int32} {M : St} (hp : xnot p [10] = true) : (f_X6_find_297 x4 M) p = M p := by
  unfold f_X6_find_297
  exact ((xup_other (xnot_at hp (by decide) : p ≠ 10)).trans rfl)
theorem fr_X6_find {p : Nat} {a1 : Int32} {a2 : Int32} {M : St} (hp : xnot p [2, 4, 10] = true) : (f_X6_find a1 a2 M) p = M p := by
  unfold f_X6_find
  exact (ite_s (fun _ => ((xup_other (xnot_at hp (by decide) : p ≠ 10)).trans ((xup_other (xnot_at hp (by decide) : p ≠ 10)).trans rfl))) (fun _ => (ite_s (fun _ => ((xup_other (xnot_at hp (by decide) : p ≠ 10)).trans ((xup_other (xnot_at hp (by decide) : p ≠ 10)).trans rfl))) (fun _ => (ite_s (fun _ => ((fr_X6_find_297 (xnot_sub hp (by decide))).trans ((xup_other (xnot_at hp (by decide) : p ≠ 10)).trans rfl))) (fun _ => (ite_s (fun _ => ((xup_other (xnot_at hp (by decide) : p ≠ 2)).trans ((xup_other (xnot_at hp (by decide) : p ≠ 10)).trans ((xup_other (xnot_at hp (by decide) : p ≠ 10)).trans rfl)))) (fun _ => (ite_s (fun _ => ((xup_other (xnot_at hp (by decide) : p ≠ 10)).trans ((xup_other (xnot_at hp (by decide) : p ≠ 2)).trans ((xup_other (xnot_at hp (by decide) : p ≠ 10)).trans rfl)))) (fun _ => (ite_s (fun _ => (xb_ps ((fr_X6_fetch (xnot_sub hp (by decide))).trans ((xup_other (xnot_at hp (by decide) : p ≠ 10)).trans rfl)) (fun q22 hq22 => ((xup_other (xnot_at hp (by decide) : p ≠ 10)).trans hq22)))) (fun _ => (ite_s (fun _ => (xb_ps ((fr_X6_fetch (xnot_sub hp (by decide))).trans ((xup_other (xnot_at hp (by decide) : p ≠ 10)).trans rfl)) (fun q30 hq30 => ((xup_other (xnot_at hp (by decide) : p ≠ 10)).trans hq30)))) (fun _ => (ite_s (fun _ => (xb_ps ((fr_X6_fetch (xnot_sub hp (by decide))).trans ((xup_other (xnot_at hp (by decide) : p ≠ 10)).trans rfl)) (fun q38 hq38 => ((xup_other (xnot_at hp (by decide) : p ≠ 10)).trans hq38)))) (fun _ => (ite_s (fun _ => (xb_ps ((fr_X6_fetch (xnot_sub hp (by decide))).trans ((xup_other (xnot_at hp (by decide) : p ≠ 10)).trans rfl)) (fun q46 hq46 => ((xup_other (xnot_at hp (by decide) : p ≠ 10)).trans hq46)))) (fun _ => (ite_s (fun _ => (xb_ps ((fr_X6_fetch (xnot_sub hp (by decide))).trans ((xup_other (xnot_at hp (by decide) : p ≠ 10)).trans rfl)) (fun q51 hq51 => ((xup_other (xnot_at hp (by decide) : p ≠ 10)).trans hq51)))) (fun _ => (ite_s (fun _ => (xb_ps ((fr_X6_fetch (xnot_sub hp (by decide))).trans ((xup_other (xnot_at hp (by decide) : p ≠ 10)).trans rfl)) (fun q59 hq59 => ((xup_other (xnot_at hp (by decide) : p ≠ 10)).trans hq59)))) (fun _ => (ite_s (fun _ => (xb_ps ((fr_X6_fetch (xnot_sub hp (by decide))).trans ((xup_other (xnot_at hp (by decide) : p ≠ 10)).trans rfl)) (fun q67 hq67 => ((xup_other (xnot_at hp (by decide) : p ≠ 10)).trans hq67)))) (fun _ => ((fr_X6_find_297 (xnot_sub hp (by decide))).trans ((xup_other (xnot_at hp (by decide) : p ≠ 10)).trans rfl))))))))))))))))))))))))))
theorem fr_X6_read {p : Nat} {a1 : Int32} {M : St} (hp : xnot p [4] = true) : (f_X6_read a1 M).2 p = M p := by
  unfold f_X6_read
  exact (ite_p (fun _ => rfl) (fun _ => (ite_p (fun _ => (xb_pp ((fr_X2_read (xnot_sub hp (by decide))).trans rfl) (fun q7 hq7 => hq7))) (fun _ => rfl))))
theorem fr_X4_readSource {p : Nat} {M : St} (hp : xnot p [2, 4, 10] = true) : (f_X4_readSource M).2 p = M p := by
  unfold f_X4_readSource
  exact (xb_sp ((fr_X6_find (xnot_sub hp (by decide))).trans rfl) (fun q1 hq1 => (xb_pp ((fr_X6_read (xnot_sub hp (by decide))).trans hq1) (fun q4 hq4 => hq4))))
theorem fr_X8_changeFlags {p : Nat} {a1 : Int32} {a2 : Int32} {M : St} (hp : xnot p [2] = true) : (f_X8_changeFlags a1 a2 M) p = M p := by
  unfold f_X8_changeFlags
  exact ((xup_other (xnot_at hp (by decide) : p ≠ 2)).trans rfl)
theorem fr_X1_tested {p : Nat} {a1 : Int32} {a2 : Int32} {M : St} (hp : xnot p [2] = true) : (f_X1_tested a1 a2 M).2 p = M p := by
  unfold f_X1_tested
  exact (xb_sp ((fr_X8_changeFlags (xnot_sub hp (by decide))).trans rfl) (fun q4 hq4 => hq4))
theorem fr_X6_write {p : Nat} {a1 : Int32} {a2 : Int32} {M : St} (hp : xnot p [2, 4, 5, 7] = true) : (f_X6_write a1 a2 M) p = M p := by
  unfold f_X6_write
  exact (ite_s (fun _ => (xb_ss ((fr_X2_write (xnot_sub hp (by decide))).trans rfl) (fun q6 hq6 => hq6))) (fun _ => ((xup_other (xnot_at hp (by decide) : p ≠ 2)).trans rfl)))
theorem fr_X4_overwrite {p : Nat} {a1 : Int32} {M : St} (hp : xnot p [2, 4, 5, 7, 10] = true) : (f_X4_overwrite a1 M) p = M p := by
  unfold f_X4_overwrite
  exact (xb_ss ((fr_X6_find (xnot_sub hp (by decide))).trans rfl) (fun q1 hq1 => (xb_ss ((fr_X6_write (xnot_sub hp (by decide))).trans hq1) (fun q4 hq4 => hq4))))
theorem fr_X1_total_170 {p : Nat} {x12 : Int32} {s0 : Int32} {s1 : Int32} {s2 : Int32} {M : St} (hp : xnot p [2] = true) : (f_X1_total_170 x12 s0 s1 s2 M).2 p = M p := by
  unfold f_X1_total_170
  exact (xb_sp ((fr_X8_changeFlags (xnot_sub hp (by decide))).trans rfl) (fun q44 hq44 => hq44))
theorem fr_X1_total_159 {p : Nat} {x12 : Int32} {x14 : Int32} {s0 : Int32} {s1 : Int32} {s2 : Int32} {M : St} (hp : xnot p [2] = true) : (f_X1_total_159 x12 x14 s0 s1 s2 M).2 p = M p := by
  unfold f_X1_total_159
  exact (ite_p (fun _ => ((fr_X1_total_170 (xnot_sub hp (by decide))).trans rfl)) (fun _ => ((fr_X1_total_170 (xnot_sub hp (by decide))).trans rfl)))
theorem fr_X1_total_128 {p : Nat} {x5 : Int32} {x6 : Int32} {x12 : Int32} {x13 : Int32} {x14 : Int32} {s0 : Int32} {M : St} (hp : xnot p [2] = true) : (f_X1_total_128 x5 x6 x12 x13 x14 s0 M).2 p = M p := by
  unfold f_X1_total_128
  exact (ite_p (fun _ => ((fr_X1_total_159 (xnot_sub hp (by decide))).trans rfl)) (fun _ => ((fr_X1_total_159 (xnot_sub hp (by decide))).trans rfl)))
theorem fr_X1_total_127 {p : Nat} {x5 : Int32} {x6 : Int32} {x12 : Int32} {x13 : Int32} {x14 : Int32} {M : St} (hp : xnot p [2] = true) : (f_X1_total_127 x5 x6 x12 x13 x14 M).2 p = M p := by
  unfold f_X1_total_127
  exact ((fr_X1_total_128 (xnot_sub hp (by decide))).trans rfl)
theorem fr_X1_total_112 {p : Nat} {x1 : Int32} {x5 : Int32} {x6 : Int32} {x12 : Int32} {x13 : Int32} {s0 : Int32} {M : St} (hp : xnot p [2] = true) : (f_X1_total_112 x1 x5 x6 x12 x13 s0 M).2 p = M p := by
  unfold f_X1_total_112
  exact (ite_p (fun _ => ((fr_X1_total_127 (xnot_sub hp (by decide))).trans rfl)) (fun _ => (ite_p (fun _ => ((fr_X1_total_128 (xnot_sub hp (by decide))).trans rfl)) (fun _ => ((fr_X1_total_127 (xnot_sub hp (by decide))).trans rfl)))))
theorem fr_X1_total_91 {p : Nat} {x1 : Int32} {x5 : Int32} {x6 : Int32} {x10 : Int64} {x12 : Int32} {s0 : Int32} {M : St} (hp : xnot p [2] = true) : (f_X1_total_91 x1 x5 x6 x10 x12 s0 M).2 p = M p := by
  unfold f_X1_total_91
  exact (ite_p (fun _ => ((fr_X1_total_112 (xnot_sub hp (by decide))).trans rfl)) (fun _ => ((fr_X1_total_112 (xnot_sub hp (by decide))).trans rfl)))
theorem fr_X1_total_12 {p : Nat} {x1 : Int32} {x2 : Int32} {x3 : Int32} {x4 : Int32} {x5 : Int32} {x6 : Int32} {s0 : Int32} {M : St} (hp : xnot p [2] = true) : (f_X1_total_12 x1 x2 x3 x4 x5 x6 s0 M).2 p = M p := by
  unfold f_X1_total_12
  exact (xb_vp (fun q21 => (ite_p (fun _ => ((fr_X1_total_91 (xnot_sub hp (by decide))).trans rfl)) (fun _ => ((fr_X1_total_91 (xnot_sub hp (by decide))).trans rfl)))))
theorem fr_X1_total {p : Nat} {a1 : Int32} {a2 : Int32} {a3 : Int32} {a4 : Int32} {a5 : Int32} {a6 : Int32} {M : St} (hp : xnot p [2] = true) : (f_X1_total a1 a2 a3 a4 a5 a6 M).2 p = M p := by
  unfold f_X1_total
  exact (ite_p (fun _ => ((fr_X1_total_12 (xnot_sub hp (by decide))).trans rfl)) (fun _ => ((fr_X1_total_12 (xnot_sub hp (by decide))).trans rfl)))
theorem fr_X1_settledInTens_49 {p : Nat} {x3 : Int32} {s0 : Int32} {s1 : Int32} {s2 : Int32} {M : St} (hp : xnot p [2] = true) : (f_X1_settledInTens_49 x3 s0 s1 s2 M).2 p = M p := by
  unfold f_X1_settledInTens_49
  exact (xb_sp ((fr_X8_changeFlags (xnot_sub hp (by decide))).trans rfl) (fun q9 hq9 => hq9))
theorem fr_X1_settledInTens_39 {p : Nat} {x2 : Int32} {x3 : Int32} {s0 : Int32} {s1 : Int32} {M : St} (hp : xnot p [2] = true) : (f_X1_settledInTens_39 x2 x3 s0 s1 M).2 p = M p := by
  unfold f_X1_settledInTens_39
  exact (ite_p (fun _ => ((fr_X1_settledInTens_49 (xnot_sub hp (by decide))).trans rfl)) (fun _ => ((fr_X1_settledInTens_49 (xnot_sub hp (by decide))).trans rfl)))
theorem fr_X1_settledInTens_17 {p : Nat} {x2 : Int32} {x3 : Int32} {s0 : Int32} {M : St} (hp : xnot p [2] = true) : (f_X1_settledInTens_17 x2 x3 s0 M).2 p = M p := by
  unfold f_X1_settledInTens_17
  exact (ite_p (fun _ => ((fr_X1_settledInTens_39 (xnot_sub hp (by decide))).trans rfl)) (fun _ => ((fr_X1_settledInTens_39 (xnot_sub hp (by decide))).trans rfl)))
theorem fr_X1_settledInTens {p : Nat} {a1 : Int32} {a2 : Int32} {M : St} (hp : xnot p [2] = true) : (f_X1_settledInTens a1 a2 M).2 p = M p := by
  unfold f_X1_settledInTens
  exact (ite_p (fun _ => ((fr_X1_settledInTens_17 (xnot_sub hp (by decide))).trans rfl)) (fun _ => ((fr_X1_settledInTens_17 (xnot_sub hp (by decide))).trans rfl)))
theorem fr_X1_addedInTens_72 {p : Nat} {x4 : Int32} {s0 : Int32} {M : St} (hp : xnot p [2] = true) : (f_X1_addedInTens_72 x4 s0 M).2 p = M p := by
  unfold f_X1_addedInTens_72
  exact (xb_pp ((fr_X1_settledInTens (xnot_sub hp (by decide))).trans rfl) (fun q13 hq13 => hq13))
theorem fr_X1_addedInTens_56 {p : Nat} {x3 : Int32} {s0 : Int32} {M : St} (hp : xnot p [2] = true) : (f_X1_addedInTens_56 x3 s0 M).2 p = M p := by
  unfold f_X1_addedInTens_56
  exact (ite_p (fun _ => ((fr_X1_addedInTens_72 (xnot_sub hp (by decide))).trans rfl)) (fun _ => ((fr_X1_addedInTens_72 (xnot_sub hp (by decide))).trans rfl)))
theorem fr_X1_addedInTens_28 {p : Nat} {x1 : Int32} {x2 : Int32} {s0 : Int32} {s1 : Int32} {M : St} (hp : xnot p [2] = true) : (f_X1_addedInTens_28 x1 x2 s0 s1 M).2 p = M p := by
  unfold f_X1_addedInTens_28
  exact (ite_p (fun _ => ((fr_X1_addedInTens_56 (xnot_sub hp (by decide))).trans rfl)) (fun _ => ((fr_X1_addedInTens_56 (xnot_sub hp (by decide))).trans rfl)))
theorem fr_X1_addedInTens {p : Nat} {a1 : Int32} {a2 : Int32} {M : St} (hp : xnot p [2] = true) : (f_X1_addedInTens a1 a2 M).2 p = M p := by
  unfold f_X1_addedInTens
  exact (ite_p (fun _ => ((fr_X1_addedInTens_28 (xnot_sub hp (by decide))).trans rfl)) (fun _ => ((fr_X1_addedInTens_28 (xnot_sub hp (by decide))).trans rfl)))
theorem fr_X1_subtractedInTens_67 {p : Nat} {x4 : Int32} {s0 : Int32} {M : St} (hp : xnot p [2] = true) : (f_X1_subtractedInTens_67 x4 s0 M).2 p = M p := by
  unfold f_X1_subtractedInTens_67
  exact (xb_pp ((fr_X1_settledInTens (xnot_sub hp (by decide))).trans rfl) (fun q13 hq13 => hq13))
theorem fr_X1_subtractedInTens_51 {p : Nat} {x3 : Int32} {s0 : Int32} {M : St} (hp : xnot p [2] = true) : (f_X1_subtractedInTens_51 x3 s0 M).2 p = M p := by
  unfold f_X1_subtractedInTens_51
  exact (ite_p (fun _ => ((fr_X1_subtractedInTens_67 (xnot_sub hp (by decide))).trans rfl)) (fun _ => ((fr_X1_subtractedInTens_67 (xnot_sub hp (by decide))).trans rfl)))
theorem fr_X1_subtractedInTens_26 {p : Nat} {x1 : Int32} {x2 : Int32} {s0 : Int32} {s1 : Int32} {M : St} (hp : xnot p [2] = true) : (f_X1_subtractedInTens_26 x1 x2 s0 s1 M).2 p = M p := by
  unfold f_X1_subtractedInTens_26
  exact (ite_p (fun _ => ((fr_X1_subtractedInTens_51 (xnot_sub hp (by decide))).trans rfl)) (fun _ => ((fr_X1_subtractedInTens_51 (xnot_sub hp (by decide))).trans rfl)))
theorem fr_X1_subtractedInTens {p : Nat} {a1 : Int32} {a2 : Int32} {M : St} (hp : xnot p [2] = true) : (f_X1_subtractedInTens a1 a2 M).2 p = M p := by
  unfold f_X1_subtractedInTens
  exact (ite_p (fun _ => ((fr_X1_subtractedInTens_26 (xnot_sub hp (by decide))).trans rfl)) (fun _ => ((fr_X1_subtractedInTens_26 (xnot_sub hp (by decide))).trans rfl)))
theorem fr_X1_combined {p : Nat} {a1 : Nat} {a2 : Int32} {a3 : Int32} {a4 : Int32} {M : St} (hp : xnot p [2] = true) : (f_X1_combined a1 a2 a3 a4 M).2 p = M p := by
  unfold f_X1_combined
  exact (ite_p (fun _ => (xb_pp ((fr_X1_total (xnot_sub hp (by decide))).trans rfl) (fun q2 hq2 => hq2))) (fun _ => (ite_p (fun _ => (xb_pp ((fr_X1_total (xnot_sub hp (by decide))).trans rfl) (fun q6 hq6 => hq6))) (fun _ => (ite_p (fun _ => (xb_pp ((fr_X1_addedInTens (xnot_sub hp (by decide))).trans rfl) (fun q10 hq10 => hq10))) (fun _ => (ite_p (fun _ => (xb_pp ((fr_X1_total (xnot_sub hp (by decide))).trans rfl) (fun q14 hq14 => hq14))) (fun _ => (ite_p (fun _ => (xb_pp ((fr_X1_total (xnot_sub hp (by decide))).trans rfl) (fun q18 hq18 => hq18))) (fun _ => (ite_p (fun _ => (xb_pp ((fr_X1_subtractedInTens (xnot_sub hp (by decide))).trans rfl) (fun q22 hq22 => hq22))) (fun _ => (ite_p (fun _ => (xb_pp ((fr_X1_total (xnot_sub hp (by decide))).trans rfl) (fun q26 hq26 => hq26))) (fun _ => (ite_p (fun _ => (xb_pp ((fr_X1_tested (xnot_sub hp (by decide))).trans rfl) (fun q30 hq30 => hq30))) (fun _ => (ite_p (fun _ => (xb_pp ((fr_X1_tested (xnot_sub hp (by decide))).trans rfl) (fun q34 hq34 => hq34))) (fun _ => (ite_p (fun _ => (xb_pp ((fr_X1_tested (xnot_sub hp (by decide))).trans rfl) (fun q38 hq38 => hq38))) (fun _ => (xb_pp ((fr_X1_tested (xnot_sub hp (by decide))).trans rfl) (fun q41 hq41 => hq41))))))))))))))))))))))
theorem fr_X4_change {p : Nat} {a1 : Nat} {a2 : Int32} {M : St} (hp : xnot p [2, 4, 5, 7, 10] = true) : (f_X4_change a1 a2 M) p = M p := by
  unfold f_X4_change
  exact (xb_ss ((fr_X6_find (xnot_sub hp (by decide))).trans rfl) (fun q1 hq1 => (xb_ps ((fr_X6_read (xnot_sub hp (by decide))).trans hq1) (fun q4 hq4 => (xb_ps ((fr_X1_combined (xnot_sub hp (by decide))).trans hq4) (fun q7 hq7 => (xb_ss ((fr_X6_write (xnot_sub hp (by decide))).trans hq7) (fun q10 hq10 => hq10))))))))
theorem fr_X4_compare {p : Nat} {a1 : Int32} {M : St} (hp : xnot p [2, 4, 10] = true) : (f_X4_compare a1 M) p = M p := by
  unfold f_X4_compare
  exact (xb_ss ((fr_X6_find (xnot_sub hp (by decide))).trans rfl) (fun q1 hq1 => (xb_ps ((fr_X6_read (xnot_sub hp (by decide))).trans hq1) (fun q4 hq4 => (xb_ps ((fr_X1_combined (xnot_sub hp (by decide))).trans hq4) (fun q7 hq7 => hq7))))))
theorem fr_X4_changeAddress_71 {p : Nat} {s0 : Int32} {s1 : Int32} {M : St} (hp : xnot p [2] = true) : (f_X4_changeAddress_71 s0 s1 M) p = M p := by
  unfold f_X4_changeAddress_71
  exact ((xup_other (xnot_at hp (by decide) : p ≠ 2)).trans rfl)
theorem fr_X4_changeAddress {p : Nat} {a1 : Nat} {a2 : Int32} {M : St} (hp : xnot p [2] = true) : (f_X4_changeAddress a1 a2 M) p = M p := by
  unfold f_X4_changeAddress
  exact (ite_s (fun _ => ((fr_X4_changeAddress_71 (xnot_sub hp (by decide))).trans rfl)) (fun _ => (ite_s (fun _ => ((fr_X4_changeAddress_71 (xnot_sub hp (by decide))).trans rfl)) (fun _ => ((fr_X4_changeAddress_71 (xnot_sub hp (by decide))).trans rfl)))))
theorem fr_X4_compareAddress {p : Nat} {a1 : Int32} {M : St} (hp : xnot p [2] = true) : (f_X4_compareAddress a1 M) p = M p := by
  unfold f_X4_compareAddress
  exact (xb_ps ((fr_X1_combined (xnot_sub hp (by decide))).trans rfl) (fun q4 hq4 => hq4))
theorem fr_X4_multiply_46 {p : Nat} {x2 : Int32} {s0 : Int32} {M : St} (hp : xnot p [2] = true) : (f_X4_multiply_46 x2 s0 M) p = M p := by
  unfold f_X4_multiply_46
  exact (xb_ps ((fr_X1_tested (xnot_sub hp (by decide))).trans rfl) (fun q16 hq16 => ((xup_other (xnot_at hp (by decide) : p ≠ 2)).trans hq16)))
theorem fr_X4_multiply {p : Nat} {a1 : Int32} {M : St} (hp : xnot p [2] = true) : (f_X4_multiply a1 M) p = M p := by
  unfold f_X4_multiply
  exact (ite_s (fun _ => ((fr_X4_multiply_46 (xnot_sub hp (by decide))).trans rfl)) (fun _ => (xb_vs (fun q9 => ((fr_X4_multiply_46 (xnot_sub hp (by decide))).trans rfl)))))
theorem fr_X4_divide {p : Nat} {a1 : Int32} {M : St} (hp : xnot p [2, 12] = true) : (f_X4_divide a1 M) p = M p := by
  unfold f_X4_divide
  exact (ite_s (fun _ => ((xup_other (xnot_at hp (by decide) : p ≠ 12)).trans rfl)) (fun _ => (ite_s (fun _ => (xb_vs (fun q39 => (ite_s (fun _ => (xb_ps ((fr_X1_tested (xnot_sub hp (by decide))).trans ((xup_other (xnot_at hp (by decide) : p ≠ 2)).trans rfl)) (fun q45 hq45 => hq45))) (fun _ => (xb_ss ((fr_X8_changeFlags (xnot_sub hp (by decide))).trans rfl) (fun q48 hq48 => hq48))))))) (fun _ => (xb_vs (fun q17 => (ite_s (fun _ => (xb_ps ((fr_X1_tested (xnot_sub hp (by decide))).trans ((xup_other (xnot_at hp (by decide) : p ≠ 2)).trans rfl)) (fun q23 hq23 => hq23))) (fun _ => (xb_ss ((fr_X8_changeFlags (xnot_sub hp (by decide))).trans rfl) (fun q26 hq26 => hq26))))))))))
theorem fr_X4_checkBounds_42 {p : Nat} {s0 : Int32} {s1 : Int32} {M : St} (hp : xnot p [2, 12] = true) : (f_X4_checkBounds_42 s0 s1 M) p = M p := by
  unfold f_X4_checkBounds_42
  exact (xb_ss ((fr_X8_changeFlags (xnot_sub hp (by decide))).trans rfl) (fun q16 hq16 => ((xup_other (xnot_at hp (by decide) : p ≠ 12)).trans hq16)))
theorem fr_X4_checkBounds_26 {p : Nat} {x2 : Int32} {M : St} (hp : xnot p [2, 12] = true) : (f_X4_checkBounds_26 x2 M) p = M p := by
  unfold f_X4_checkBounds_26
  exact (ite_s (fun _ => ((fr_X4_checkBounds_42 (xnot_sub hp (by decide))).trans rfl)) (fun _ => ((fr_X4_checkBounds_42 (xnot_sub hp (by decide))).trans rfl)))
theorem fr_X4_checkBounds {p : Nat} {a1 : Int32} {M : St} (hp : xnot p [2, 12] = true) : (f_X4_checkBounds a1 M) p = M p := by
  unfold f_X4_checkBounds
  exact (ite_s (fun _ => ((fr_X4_checkBounds_26 (xnot_sub hp (by decide))).trans rfl)) (fun _ => (ite_s (fun _ => rfl) (fun _ => ((fr_X4_checkBounds_26 (xnot_sub hp (by decide))).trans rfl)))))
theorem fr_X4_changeQuick_66 {p : Nat} {s0 : Int32} {s1 : Int32} {s2 : Int32} {M : St} (hp : xnot p [2] = true) : (f_X4_changeQuick_66 s0 s1 s2 M) p = M p := by
  unfold f_X4_changeQuick_66
  exact ((xup_other (xnot_at hp (by decide) : p ≠ 2)).trans rfl)
theorem fr_X4_changeQuick {p : Nat} {a1 : Nat} {a2 : Int32} {M : St} (hp : xnot p [2, 4, 5, 7, 10] = true) : (f_X4_changeQuick a1 a2 M) p = M p := by
  unfold f_X4_changeQuick
  exact (xb_ss ((fr_X6_find (xnot_sub hp (by decide))).trans rfl) (fun q1 hq1 => (ite_s (fun _ => (ite_s (fun _ => ((fr_X4_changeQuick_66 (xnot_sub hp (by decide))).trans hq1)) (fun _ => ((fr_X4_changeQuick_66 (xnot_sub hp (by decide))).trans hq1)))) (fun _ => (xb_ps ((fr_X6_read (xnot_sub hp (by decide))).trans hq1) (fun q8 hq8 => (xb_ps ((fr_X1_combined (xnot_sub hp (by decide))).trans hq8) (fun q11 hq11 => (xb_ss ((fr_X6_write (xnot_sub hp (by decide))).trans hq11) (fun q14 hq14 => hq14))))))))))
theorem fr_X4_changeBit_61 {p : Nat} {x2 : Int32} {x3 : Int32} {x4 : Int32} {s0 : Int32} {s1 : Int32} {M : St} (hp : xnot p [2, 4, 5, 7] = true) : (f_X4_changeBit_61 x2 x3 x4 s0 s1 M) p = M p := by
  unfold f_X4_changeBit_61
  exact (xb_ss ((fr_X8_changeFlags (xnot_sub hp (by decide))).trans rfl) (fun q12 hq12 => (ite_s (fun _ => (xb_ss ((fr_X6_write (xnot_sub hp (by decide))).trans hq12) (fun q19 hq19 => hq19))) (fun _ => (ite_s (fun _ => (xb_ss ((fr_X6_write (xnot_sub hp (by decide))).trans hq12) (fun q23 hq23 => hq23))) (fun _ => (ite_s (fun _ => (xb_ss ((fr_X6_write (xnot_sub hp (by decide))).trans hq12) (fun q27 hq27 => hq27))) (fun _ => hq12))))))))
theorem fr_X4_changeBit {p : Nat} {a1 : Int32} {M : St} (hp : xnot p [2, 4, 5, 7, 10] = true) : (f_X4_changeBit a1 M) p = M p := by
  unfold f_X4_changeBit
  exact (xb_ss ((fr_X6_find (xnot_sub hp (by decide))).trans rfl) (fun q4 hq4 => (xb_ps ((fr_X6_read (xnot_sub hp (by decide))).trans hq4) (fun q7 hq7 => (ite_s (fun _ => ((fr_X4_changeBit_61 (xnot_sub hp (by decide))).trans hq7)) (fun _ => ((fr_X4_changeBit_61 (xnot_sub hp (by decide))).trans hq7)))))))
theorem fr_X1_shifted_234 {p : Nat} {x9 : Int32} {s0 : Int32} {s1 : Int32} {s2 : Int32} {M : St} (hp : xnot p [2] = true) : (f_X1_shifted_234 x9 s0 s1 s2 M).2 p = M p := by
  unfold f_X1_shifted_234
  exact (xb_sp ((fr_X8_changeFlags (xnot_sub hp (by decide))).trans rfl) (fun q38 hq38 => hq38))
theorem fr_X1_shifted_199 {p : Nat} {x2 : Int32} {x7 : Int32} {x8 : Int32} {x9 : Int32} {s0 : Int32} {M : St} (hp : xnot p [2] = true) : (f_X1_shifted_199 x2 x7 x8 x9 s0 M).2 p = M p := by
  unfold f_X1_shifted_199
  exact (ite_p (fun _ => ((fr_X1_shifted_234 (xnot_sub hp (by decide))).trans rfl)) (fun _ => ((fr_X1_shifted_234 (xnot_sub hp (by decide))).trans rfl)))
theorem fr_X1_shifted_198 {p : Nat} {x2 : Int32} {x7 : Int32} {x8 : Int32} {x9 : Int32} {M : St} (hp : xnot p [2] = true) : (f_X1_shifted_198 x2 x7 x8 x9 M).2 p = M p := by
  unfold f_X1_shifted_198
  exact ((fr_X1_shifted_199 (xnot_sub hp (by decide))).trans rfl)
theorem fr_X1_shifted_167 {p : Nat} {rec : Int32 → Int32 → Int32 → Int32 → Int32 → Int32 → Int32 → Int32 → Int32 → Int32 → St → Int32 × St} {x2 : Int32} {x3 : Int32} {x4 : Int32} {x5 : Int32} {x6 : Int32} {x8 : Int32} {x9 : Int32} {x10 : Int32} {x11 : Int32} {s0 : Int32} {M : St} (hp : xnot p [] = true) (hrec : ∀ (y0 : Int32) (y1 : Int32) (y2 : Int32) (y3 : Int32) (y4 : Int32) (y5 : Int32) (y6 : Int32) (y7 : Int32) (y8 : Int32) (y9 : Int32) (N : St), (rec y0 y1 y2 y3 y4 y5 y6 y7 y8 y9 N).2 p = N p) : (f_X1_shifted_167 rec x2 x3 x4 x5 x6 x8 x9 x10 x11 s0 M).2 p = M p := by
  unfold f_X1_shifted_167
  exact ((hrec _ _ _ _ _ _ _ _ _ _ _).trans rfl)
theorem fr_X1_shifted_135 {p : Nat} {rec : Int32 → Int32 → Int32 → Int32 → Int32 → Int32 → Int32 → Int32 → Int32 → Int32 → St → Int32 × St} {x2 : Int32} {x3 : Int32} {x4 : Int32} {x5 : Int32} {x6 : Int32} {x7 : Int32} {x9 : Int32} {x10 : Int32} {x11 : Int32} {x13 : Int32} {s0 : Int32} {M : St} (hp : xnot p [] = true) (hrec : ∀ (y0 : Int32) (y1 : Int32) (y2 : Int32) (y3 : Int32) (y4 : Int32) (y5 : Int32) (y6 : Int32) (y7 : Int32) (y8 : Int32) (y9 : Int32) (N : St), (rec y0 y1 y2 y3 y4 y5 y6 y7 y8 y9 N).2 p = N p) : (f_X1_shifted_135 rec x2 x3 x4 x5 x6 x7 x9 x10 x11 x13 s0 M).2 p = M p := by
  unfold f_X1_shifted_135
  exact (ite_p (fun _ => ((fr_X1_shifted_167 (xnot_sub hp (by decide)) hrec).trans rfl)) (fun _ => ((fr_X1_shifted_167 (xnot_sub hp (by decide)) hrec).trans rfl)))
theorem fr_X1_shifted_103 {p : Nat} {rec : Int32 → Int32 → Int32 → Int32 → Int32 → Int32 → Int32 → Int32 → Int32 → Int32 → St → Int32 × St} {x2 : Int32} {x3 : Int32} {x4 : Int32} {x5 : Int32} {x6 : Int32} {x7 : Int32} {x9 : Int32} {x10 : Int32} {x11 : Int32} {x13 : Int32} {s0 : Int32} {M : St} (hp : xnot p [] = true) (hrec : ∀ (y0 : Int32) (y1 : Int32) (y2 : Int32) (y3 : Int32) (y4 : Int32) (y5 : Int32) (y6 : Int32) (y7 : Int32) (y8 : Int32) (y9 : Int32) (N : St), (rec y0 y1 y2 y3 y4 y5 y6 y7 y8 y9 N).2 p = N p) : (f_X1_shifted_103 rec x2 x3 x4 x5 x6 x7 x9 x10 x11 x13 s0 M).2 p = M p := by
  unfold f_X1_shifted_103
  exact (ite_p (fun _ => ((fr_X1_shifted_135 (xnot_sub hp (by decide)) hrec).trans rfl)) (fun _ => ((fr_X1_shifted_135 (xnot_sub hp (by decide)) hrec).trans rfl)))
theorem fr_X1_shifted_102 {p : Nat} {rec : Int32 → Int32 → Int32 → Int32 → Int32 → Int32 → Int32 → Int32 → Int32 → Int32 → St → Int32 × St} {x2 : Int32} {x3 : Int32} {x4 : Int32} {x5 : Int32} {x6 : Int32} {x7 : Int32} {x9 : Int32} {x10 : Int32} {x11 : Int32} {x13 : Int32} {M : St} (hp : xnot p [] = true) (hrec : ∀ (y0 : Int32) (y1 : Int32) (y2 : Int32) (y3 : Int32) (y4 : Int32) (y5 : Int32) (y6 : Int32) (y7 : Int32) (y8 : Int32) (y9 : Int32) (N : St), (rec y0 y1 y2 y3 y4 y5 y6 y7 y8 y9 N).2 p = N p) : (f_X1_shifted_102 rec x2 x3 x4 x5 x6 x7 x9 x10 x11 x13 M).2 p = M p := by
  unfold f_X1_shifted_102
  exact ((fr_X1_shifted_103 (xnot_sub hp (by decide)) hrec).trans rfl)
theorem fr_X1_shifted_66 {p : Nat} {rec : Int32 → Int32 → Int32 → Int32 → Int32 → Int32 → Int32 → Int32 → Int32 → Int32 → St → Int32 × St} {x2 : Int32} {x3 : Int32} {x4 : Int32} {x5 : Int32} {x6 : Int32} {x7 : Int32} {x9 : Int32} {x10 : Int32} {x11 : Int32} {x12 : Int32} {s0 : Int32} {M : St} (hp : xnot p [] = true) (hrec : ∀ (y0 : Int32) (y1 : Int32) (y2 : Int32) (y3 : Int32) (y4 : Int32) (y5 : Int32) (y6 : Int32) (y7 : Int32) (y8 : Int32) (y9 : Int32) (N : St), (rec y0 y1 y2 y3 y4 y5 y6 y7 y8 y9 N).2 p = N p) : (f_X1_shifted_66 rec x2 x3 x4 x5 x6 x7 x9 x10 x11 x12 s0 M).2 p = M p := by
  unfold f_X1_shifted_66
  exact (ite_p (fun _ => ((fr_X1_shifted_103 (xnot_sub hp (by decide)) hrec).trans rfl)) (fun _ => (ite_p (fun _ => ((fr_X1_shifted_103 (xnot_sub hp (by decide)) hrec).trans rfl)) (fun _ => (ite_p (fun _ => (ite_p (fun _ => ((fr_X1_shifted_103 (xnot_sub hp (by decide)) hrec).trans rfl)) (fun _ => ((fr_X1_shifted_102 (xnot_sub hp (by decide)) hrec).trans rfl)))) (fun _ => ((fr_X1_shifted_102 (xnot_sub hp (by decide)) hrec).trans rfl)))))))
theorem fr_X1_shifted_36 {p : Nat} (hp : xnot p [2] = true) : ∀ (n : Nat) (x2 : Int32) (x3 : Int32) (x4 : Int32) (x5 : Int32) (x6 : Int32) (x7 : Int32) (x8 : Int32) (x9 : Int32) (x10 : Int32) (x11 : Int32) (M : St), (f_X1_shifted_36 n x2 x3 x4 x5 x6 x7 x8 x9 x10 x11 M).2 p = M p := by
  intro n
  induction n with
  | zero => intros; rfl
  | succ n ih =>
    intro x2 x3 x4 x5 x6 x7 x8 x9 x10 x11 M
    unfold f_X1_shifted_36
    exact (ite_p (fun _ => (ite_p (fun _ => (ite_p (fun _ => ((fr_X1_shifted_198 (xnot_sub hp (by decide))).trans rfl)) (fun _ => (ite_p (fun _ => ((fr_X1_shifted_198 (xnot_sub hp (by decide))).trans rfl)) (fun _ => ((fr_X1_shifted_199 (xnot_sub hp (by decide))).trans rfl)))))) (fun _ => ((fr_X1_shifted_198 (xnot_sub hp (by decide))).trans rfl)))) (fun _ => (ite_p (fun _ => ((fr_X1_shifted_66 (xnot_sub hp (by decide)) ih).trans rfl)) (fun _ => ((fr_X1_shifted_66 (xnot_sub hp (by decide)) ih).trans rfl)))))
theorem fr_X1_shifted_25 {p : Nat} {x1 : Int32} {x2 : Int32} {x3 : Int32} {x4 : Int32} {x5 : Int32} {x6 : Int32} {x7 : Int32} {s0 : Int32} {M : St} (hp : xnot p [2] = true) : (f_X1_shifted_25 x1 x2 x3 x4 x5 x6 x7 s0 M).2 p = M p := by
  unfold f_X1_shifted_25
  exact ((fr_X1_shifted_36 (xnot_sub hp (by decide)) _ _ _ _ _ _ _ _ _ _ _ _).trans rfl)
theorem fr_X1_shifted {p : Nat} {a1 : Int32} {a2 : Int32} {a3 : Int32} {a4 : Int32} {a5 : Int32} {M : St} (hp : xnot p [2] = true) : (f_X1_shifted a1 a2 a3 a4 a5 M).2 p = M p := by
  unfold f_X1_shifted
  exact (ite_p (fun _ => ((fr_X1_shifted_25 (xnot_sub hp (by decide))).trans rfl)) (fun _ => ((fr_X1_shifted_25 (xnot_sub hp (by decide))).trans rfl)))
theorem fr_X4_shiftRegister_118 {p : Nat} {x3 : Int32} {s0 : Int32} {s1 : Int32} {s2 : Int32} {s3 : Int32} {s5 : Int32} {M : St} (hp : xnot p [2, 4, 5, 7] = true) : (f_X4_shiftRegister_118 x3 s0 s1 s2 s3 s5 M) p = M p := by
  unfold f_X4_shiftRegister_118
  exact (xb_ps ((fr_X1_shifted (xnot_sub hp (by decide))).trans rfl) (fun q25 hq25 => (xb_ss ((fr_X6_write (xnot_sub hp (by decide))).trans hq25) (fun q28 hq28 => hq28))))
theorem fr_X4_shiftRegister_53 {p : Nat} {x1 : Int32} {s0 : Int32} {M : St} (hp : xnot p [2, 4, 5, 7, 10] = true) : (f_X4_shiftRegister_53 x1 s0 M) p = M p := by
  unfold f_X4_shiftRegister_53
  exact (xb_ss ((fr_X6_find (xnot_sub hp (by decide))).trans rfl) (fun q13 hq13 => (xb_ps ((fr_X6_read (xnot_sub hp (by decide))).trans hq13) (fun q16 hq16 => (ite_s (fun _ => ((fr_X4_shiftRegister_118 (xnot_sub hp (by decide))).trans hq16)) (fun _ => ((fr_X4_shiftRegister_118 (xnot_sub hp (by decide))).trans hq16)))))))
theorem fr_X4_shiftRegister_26 {p : Nat} {x1 : Int32} {s0 : Int32} {M : St} (hp : xnot p [2, 4, 5, 7, 10] = true) : (f_X4_shiftRegister_26 x1 s0 M) p = M p := by
  unfold f_X4_shiftRegister_26
  exact (ite_s (fun _ => ((fr_X4_shiftRegister_53 (xnot_sub hp (by decide))).trans rfl)) (fun _ => ((fr_X4_shiftRegister_53 (xnot_sub hp (by decide))).trans rfl)))
theorem fr_X4_shiftRegister {p : Nat} {M : St} (hp : xnot p [2, 4, 5, 7, 10] = true) : (f_X4_shiftRegister M) p = M p := by
  unfold f_X4_shiftRegister
  exact (ite_s (fun _ => ((fr_X4_shiftRegister_26 (xnot_sub hp (by decide))).trans rfl)) (fun _ => ((fr_X4_shiftRegister_26 (xnot_sub hp (by decide))).trans rfl)))
theorem fr_X4_shiftMemory_58 {p : Nat} {s0 : Int32} {s1 : Int32} {s2 : Int32} {s3 : Int32} {s5 : Int32} {M : St} (hp : xnot p [2, 4, 5, 7] = true) : (f_X4_shiftMemory_58 s0 s1 s2 s3 s5 M) p = M p := by
  unfold f_X4_shiftMemory_58
  exact (xb_ps ((fr_X1_shifted (xnot_sub hp (by decide))).trans rfl) (fun q16 hq16 => (xb_ss ((fr_X6_write (xnot_sub hp (by decide))).trans hq16) (fun q19 hq19 => hq19))))
theorem fr_X4_shiftMemory {p : Nat} {M : St} (hp : xnot p [2, 4, 5, 7, 10] = true) : (f_X4_shiftMemory M) p = M p := by
  unfold f_X4_shiftMemory
  exact (xb_ss ((fr_X6_find (xnot_sub hp (by decide))).trans rfl) (fun q1 hq1 => (xb_ps ((fr_X6_read (xnot_sub hp (by decide))).trans hq1) (fun q4 hq4 => (ite_s (fun _ => ((fr_X4_shiftMemory_58 (xnot_sub hp (by decide))).trans hq4)) (fun _ => ((fr_X4_shiftMemory_58 (xnot_sub hp (by decide))).trans hq4)))))))
theorem fr_X4_negate {p : Nat} {a1 : Nat} {M : St} (hp : xnot p [2, 4, 5, 7, 10] = true) : (f_X4_negate a1 M) p = M p := by
  unfold f_X4_negate
  exact (xb_ss ((fr_X6_find (xnot_sub hp (by decide))).trans rfl) (fun q1 hq1 => (xb_ps ((fr_X6_read (xnot_sub hp (by decide))).trans hq1) (fun q4 hq4 => (xb_ps ((fr_X1_combined (xnot_sub hp (by decide))).trans hq4) (fun q7 hq7 => (xb_ss ((fr_X6_write (xnot_sub hp (by decide))).trans hq7) (fun q10 hq10 => hq10))))))))
theorem fr_X4_turn {p : Nat} {M : St} (hp : xnot p [2, 4, 5, 7, 10] = true) : (f_X4_turn M) p = M p := by
  unfold f_X4_turn
  exact (xb_ss ((fr_X6_find (xnot_sub hp (by decide))).trans rfl) (fun q1 hq1 => (xb_ps ((fr_X6_read (xnot_sub hp (by decide))).trans hq1) (fun q4 hq4 => (xb_ps ((fr_X1_tested (xnot_sub hp (by decide))).trans hq4) (fun q7 hq7 => (xb_ss ((fr_X6_write (xnot_sub hp (by decide))).trans hq7) (fun q10 hq10 => hq10))))))))
theorem fr_X4_extend {p : Nat} {M : St} (hp : xnot p [2, 4, 5, 7, 10] = true) : (f_X4_extend M) p = M p := by
  unfold f_X4_extend
  exact (xb_ss ((fr_X6_find (xnot_sub hp (by decide))).trans rfl) (fun q1 hq1 => (xb_ps ((fr_X6_read (xnot_sub hp (by decide))).trans hq1) (fun q4 hq4 => (xb_ps ((fr_X1_tested (xnot_sub hp (by decide))).trans hq4) (fun q10 hq10 => (xb_ss ((fr_X6_write (xnot_sub hp (by decide))).trans hq10) (fun q13 hq13 => hq13))))))))
theorem fr_X4_testAndSet {p : Nat} {M : St} (hp : xnot p [2, 4, 5, 7, 10] = true) : (f_X4_testAndSet M) p = M p := by
  unfold f_X4_testAndSet
  exact (xb_ss ((fr_X6_find (xnot_sub hp (by decide))).trans rfl) (fun q1 hq1 => (xb_ps ((fr_X6_read (xnot_sub hp (by decide))).trans hq1) (fun q4 hq4 => (xb_ps ((fr_X1_tested (xnot_sub hp (by decide))).trans hq4) (fun q7 hq7 => (xb_ss ((fr_X6_write (xnot_sub hp (by decide))).trans hq7) (fun q10 hq10 => hq10))))))))
theorem fr_X4_storeManyBefore_78 {p : Nat} {rec : Int32 → Int32 → Int32 → Int32 → St → St} {x1 : Int32} {x2 : Int32} {x3 : Int32} {x4 : Int32} {M : St} (hp : xnot p [] = true) (hrec : ∀ (y0 : Int32) (y1 : Int32) (y2 : Int32) (y3 : Int32) (N : St), (rec y0 y1 y2 y3 N) p = N p) : (f_X4_storeManyBefore_78 rec x1 x2 x3 x4 M) p = M p := by
  unfold f_X4_storeManyBefore_78
  exact ((hrec _ _ _ _ _).trans rfl)
theorem fr_X4_storeManyBefore_24 {p : Nat} (hp : xnot p [2, 4, 5, 7] = true) : ∀ (n : Nat) (x1 : Int32) (x2 : Int32) (x3 : Int32) (x4 : Int32) (M : St), (f_X4_storeManyBefore_24 n x1 x2 x3 x4 M) p = M p := by
  intro n
  induction n with
  | zero => intros; rfl
  | succ n ih =>
    intro x1 x2 x3 x4 M
    unfold f_X4_storeManyBefore_24
    exact (ite_s (fun _ => ((xup_other (xnot_at hp (by decide) : p ≠ 2)).trans rfl)) (fun _ => (ite_s (fun _ => ((fr_X4_storeManyBefore_78 (xnot_sub hp (by decide)) ih).trans rfl)) (fun _ => (xb_ss ((fr_X2_write (xnot_sub hp (by decide))).trans rfl) (fun q12 hq12 => ((fr_X4_storeManyBefore_78 (xnot_sub hp (by decide)) ih).trans hq12)))))))
theorem fr_X4_storeManyBefore {p : Nat} {a1 : Int32} {M : St} (hp : xnot p [2, 4, 5, 7] = true) : (f_X4_storeManyBefore a1 M) p = M p := by
  unfold f_X4_storeManyBefore
  exact ((fr_X4_storeManyBefore_24 (xnot_sub hp (by decide)) _ _ _ _ _ _).trans rfl)
theorem fr_X4_storeMany_108 {p : Nat} {rec : Int32 → Int32 → Int32 → St → St} {x1 : Int32} {x2 : Int32} {x3 : Int32} {M : St} (hp : xnot p [] = true) (hrec : ∀ (y0 : Int32) (y1 : Int32) (y2 : Int32) (N : St), (rec y0 y1 y2 N) p = N p) : (f_X4_storeMany_108 rec x1 x2 x3 M) p = M p := by
  unfold f_X4_storeMany_108
  exact ((hrec _ _ _ _).trans rfl)
theorem fr_X4_storeMany_60 {p : Nat} (hp : xnot p [4, 5, 7] = true) : ∀ (n : Nat) (x1 : Int32) (x2 : Int32) (x3 : Int32) (M : St), (f_X4_storeMany_60 n x1 x2 x3 M) p = M p := by
  intro n
  induction n with
  | zero => intros; rfl
  | succ n ih =>
    intro x1 x2 x3 M
    unfold f_X4_storeMany_60
    exact (ite_s (fun _ => rfl) (fun _ => (ite_s (fun _ => ((fr_X4_storeMany_108 (xnot_sub hp (by decide)) ih).trans rfl)) (fun _ => (xb_ss ((fr_X2_write (xnot_sub hp (by decide))).trans rfl) (fun q22 hq22 => ((fr_X4_storeMany_108 (xnot_sub hp (by decide)) ih).trans hq22)))))))
theorem fr_X4_storeMany {p : Nat} {M : St} (hp : xnot p [2, 4, 5, 7, 10] = true) : (f_X4_storeMany M) p = M p := by
  unfold f_X4_storeMany
  exact (xb_ps ((fr_X6_fetch (xnot_sub hp (by decide))).trans rfl) (fun q1 hq1 => (ite_s (fun _ => (xb_ss ((fr_X4_storeManyBefore (xnot_sub hp (by decide))).trans hq1) (fun q12 hq12 => hq12))) (fun _ => (xb_ss ((fr_X6_find (xnot_sub hp (by decide))).trans hq1) (fun q8 hq8 => ((fr_X4_storeMany_60 (xnot_sub hp (by decide)) _ _ _ _ _).trans hq8)))))))
theorem fr_X4_loadMany_99 {p : Nat} {rec : Int32 → Int32 → Int32 → St → St} {x1 : Int32} {x2 : Int32} {x3 : Int32} {M : St} (hp : xnot p [] = true) (hrec : ∀ (y0 : Int32) (y1 : Int32) (y2 : Int32) (N : St), (rec y0 y1 y2 N) p = N p) : (f_X4_loadMany_99 rec x1 x2 x3 M) p = M p := by
  unfold f_X4_loadMany_99
  exact ((hrec _ _ _ _).trans rfl)
theorem fr_X4_loadMany_40 {p : Nat} (hp : xnot p [2, 4] = true) : ∀ (n : Nat) (x1 : Int32) (x2 : Int32) (x3 : Int32) (M : St), (f_X4_loadMany_40 n x1 x2 x3 M) p = M p := by
  intro n
  induction n with
  | zero => intros; rfl
  | succ n ih =>
    intro x1 x2 x3 M
    unfold f_X4_loadMany_40
    exact (ite_s (fun _ => (ite_s (fun _ => ((xup_other (xnot_at hp (by decide) : p ≠ 2)).trans rfl)) (fun _ => rfl))) (fun _ => (ite_s (fun _ => ((fr_X4_loadMany_99 (xnot_sub hp (by decide)) ih).trans rfl)) (fun _ => (xb_ps ((fr_X2_read (xnot_sub hp (by decide))).trans rfl) (fun q20 hq20 => ((fr_X4_loadMany_99 (xnot_sub hp (by decide)) ih).trans ((xup_other (xnot_at hp (by decide) : p ≠ 2)).trans hq20))))))))
theorem fr_X4_loadMany {p : Nat} {M : St} (hp : xnot p [2, 4, 10] = true) : (f_X4_loadMany M) p = M p := by
  unfold f_X4_loadMany
  exact (xb_ps ((fr_X6_fetch (xnot_sub hp (by decide))).trans rfl) (fun q1 hq1 => (xb_ss ((fr_X6_find (xnot_sub hp (by decide))).trans hq1) (fun q4 hq4 => ((fr_X4_loadMany_40 (xnot_sub hp (by decide)) _ _ _ _ _).trans hq4)))))
theorem fr_X4_address {p : Nat} {M : St} (hp : xnot p [2, 4, 10] = true) : (f_X4_address M).2 p = M p := by
  unfold f_X4_address
  exact (xb_sp ((fr_X6_find (xnot_sub hp (by decide))).trans rfl) (fun q1 hq1 => hq1))
theorem fr_X4_call {p : Nat} {a1 : Int32} {M : St} (hp : xnot p [2, 4, 5, 7] = true) : (f_X4_call a1 M) p = M p := by
  unfold f_X4_call
  exact (xb_ss ((fr_X6_push (xnot_sub hp (by decide))).trans rfl) (fun q1 hq1 => ((xup_other (xnot_at hp (by decide) : p ≠ 2)).trans hq1)))
theorem fr_X4_branch_37 {p : Nat} {x1 : Int32} {x2 : Int32} {M : St} (hp : xnot p [2, 4, 5, 7] = true) : (f_X4_branch_37 x1 x2 M) p = M p := by
  unfold f_X4_branch_37
  exact (ite_s (fun _ => (xb_ss ((fr_X4_call (xnot_sub hp (by decide))).trans rfl) (fun q27 hq27 => hq27))) (fun _ => (ite_s (fun _ => rfl) (fun _ => ((xup_other (xnot_at hp (by decide) : p ≠ 2)).trans rfl)))))
theorem fr_X4_branch {p : Nat} {M : St} (hp : xnot p [2, 4, 5, 7] = true) : (f_X4_branch M) p = M p := by
  unfold f_X4_branch
  exact (ite_s (fun _ => (xb_ps ((fr_X6_fetch (xnot_sub hp (by decide))).trans rfl) (fun q6 hq6 => ((fr_X4_branch_37 (xnot_sub hp (by decide))).trans hq6)))) (fun _ => ((fr_X4_branch_37 (xnot_sub hp (by decide))).trans rfl)))
theorem fr_X4_countDown {p : Nat} {M : St} (hp : xnot p [2, 4] = true) : (f_X4_countDown M) p = M p := by
  unfold f_X4_countDown
  exact (xb_ps ((fr_X6_fetch (xnot_sub hp (by decide))).trans rfl) (fun q1 hq1 => (ite_s (fun _ => (ite_s (fun _ => ((xup_other (xnot_at hp (by decide) : p ≠ 2)).trans hq1)) (fun _ => ((xup_other (xnot_at hp (by decide) : p ≠ 2)).trans ((xup_other (xnot_at hp (by decide) : p ≠ 2)).trans hq1))))) (fun _ => hq1))))
theorem fr_X4_loadBytes_5 {p : Nat} (hp : xnot p [2, 4] = true) : ∀ (n : Nat) (x1 : Int32) (x2 : Int32) (x3 : Int32) (x4 : Int32) (M : St), (f_X4_loadBytes_5 n x1 x2 x3 x4 M) p = M p := by
  intro n
  induction n with
  | zero => intros; rfl
  | succ n ih =>
    intro x1 x2 x3 x4 M
    unfold f_X4_loadBytes_5
    exact (ite_s (fun _ => ((xup_other (xnot_at hp (by decide) : p ≠ 2)).trans rfl)) (fun _ => (xb_ps ((fr_X2_read (xnot_sub hp (by decide))).trans rfl) (fun q15 hq15 => ((ih _ _ _ _ _).trans hq15)))))
theorem fr_X4_loadBytes {p : Nat} {a1 : Int32} {a2 : Int32} {M : St} (hp : xnot p [2, 4] = true) : (f_X4_loadBytes a1 a2 M) p = M p := by
  unfold f_X4_loadBytes
  exact ((fr_X4_loadBytes_5 (xnot_sub hp (by decide)) _ _ _ _ _ _).trans rfl)
theorem fr_X4_storeBytes_24 {p : Nat} (hp : xnot p [4, 5, 7] = true) : ∀ (n : Nat) (x1 : Int32) (x3 : Int32) (x4 : Int32) (x5 : Int32) (M : St), (f_X4_storeBytes_24 n x1 x3 x4 x5 M) p = M p := by
  intro n
  induction n with
  | zero => intros; rfl
  | succ n ih =>
    intro x1 x3 x4 x5 M
    unfold f_X4_storeBytes_24
    exact (ite_s (fun _ => rfl) (fun _ => (xb_ss ((fr_X2_write (xnot_sub hp (by decide))).trans rfl) (fun q11 hq11 => ((ih _ _ _ _ _).trans hq11)))))
theorem fr_X4_storeBytes {p : Nat} {a1 : Int32} {a2 : Int32} {M : St} (hp : xnot p [4, 5, 7] = true) : (f_X4_storeBytes a1 a2 M) p = M p := by
  unfold f_X4_storeBytes
  exact ((fr_X4_storeBytes_24 (xnot_sub hp (by decide)) _ _ _ _ _ _).trans rfl)
theorem fr_X4_moveBytes_46 {p : Nat} {x1 : Int32} {s0 : Int32} {M : St} (hp : xnot p [2, 4, 5, 7] = true) : (f_X4_moveBytes_46 x1 s0 M) p = M p := by
  unfold f_X4_moveBytes_46
  exact (ite_s (fun _ => (xb_ss ((fr_X4_storeBytes (xnot_sub hp (by decide))).trans rfl) (fun q21 hq21 => hq21))) (fun _ => (xb_ss ((fr_X4_loadBytes (xnot_sub hp (by decide))).trans rfl) (fun q25 hq25 => hq25))))
theorem fr_X4_moveBytes {p : Nat} {M : St} (hp : xnot p [2, 4, 5, 7] = true) : (f_X4_moveBytes M) p = M p := by
  unfold f_X4_moveBytes
  exact (xb_ps ((fr_X6_fetch (xnot_sub hp (by decide))).trans rfl) (fun q4 hq4 => (ite_s (fun _ => ((fr_X4_moveBytes_46 (xnot_sub hp (by decide))).trans hq4)) (fun _ => ((fr_X4_moveBytes_46 (xnot_sub hp (by decide))).trans hq4)))))
theorem fr_X4_exchange {p : Nat} {M : St} (hp : xnot p [2] = true) : (f_X4_exchange M) p = M p := by
  unfold f_X4_exchange
  exact ((xup_other (xnot_at hp (by decide) : p ≠ 2)).trans ((xup_other (xnot_at hp (by decide) : p ≠ 2)).trans rfl))
theorem fr_X4_moveQuick {p : Nat} {M : St} (hp : xnot p [2] = true) : (f_X4_moveQuick M) p = M p := by
  unfold f_X4_moveQuick
  exact (xb_ps ((fr_X1_tested (xnot_sub hp (by decide))).trans rfl) (fun q7 hq7 => ((xup_other (xnot_at hp (by decide) : p ≠ 2)).trans hq7)))
theorem fr_X4_statusJoined {p : Nat} {M : St} (hp : xnot p [2, 4] = true) : (f_X4_statusJoined M).2 p = M p := by
  unfold f_X4_statusJoined
  exact (xb_pp ((fr_X6_fetch (xnot_sub hp (by decide))).trans rfl) (fun q1 hq1 => (ite_p (fun _ => hq1) (fun _ => (ite_p (fun _ => hq1) (fun _ => hq1))))))
theorem fr_X4_swap {p : Nat} {M : St} (hp : xnot p [2] = true) : (f_X4_swap M) p = M p := by
  unfold f_X4_swap
  exact (xb_ps ((fr_X1_tested (xnot_sub hp (by decide))).trans rfl) (fun q4 hq4 => ((xup_other (xnot_at hp (by decide) : p ≠ 2)).trans hq4)))
theorem fr_X6_pull {p : Nat} {a1 : Int32} {M : St} (hp : xnot p [2, 4] = true) : (f_X6_pull a1 M).2 p = M p := by
  unfold f_X6_pull
  exact (xb_pp ((fr_X2_read (xnot_sub hp (by decide))).trans rfl) (fun q1 hq1 => ((xup_other (xnot_at hp (by decide) : p ≠ 2)).trans hq1)))
theorem fr_X4_returnWithFlags {p : Nat} {M : St} (hp : xnot p [2, 4] = true) : (f_X4_returnWithFlags M) p = M p := by
  unfold f_X4_returnWithFlags
  exact (xb_ps ((fr_X6_pull (xnot_sub hp (by decide))).trans rfl) (fun q1 hq1 => (xb_ps ((fr_X6_pull (xnot_sub hp (by decide))).trans hq1) (fun q4 hq4 => (xb_ss ((fr_X8_changeFlags (xnot_sub hp (by decide))).trans ((xup_other (xnot_at hp (by decide) : p ≠ 2)).trans hq4)) (fun q8 hq8 => hq8))))))
theorem fr_X4_returnFromException {p : Nat} {M : St} (hp : xnot p [2, 4] = true) : (f_X4_returnFromException M) p = M p := by
  unfold f_X4_returnFromException
  exact (xb_ps ((fr_X6_pull (xnot_sub hp (by decide))).trans rfl) (fun q1 hq1 => (xb_ps ((fr_X6_pull (xnot_sub hp (by decide))).trans hq1) (fun q4 hq4 => (xb_ss ((fr_X8_changeStatus (xnot_sub hp (by decide))).trans hq4) (fun q7 hq7 => ((xup_other (xnot_at hp (by decide) : p ≠ 2)).trans hq7)))))))
theorem fr_X4_link {p : Nat} {M : St} (hp : xnot p [2, 4, 5, 7] = true) : (f_X4_link M) p = M p := by
  unfold f_X4_link
  exact (xb_ps ((fr_X6_fetch (xnot_sub hp (by decide))).trans rfl) (fun q1 hq1 => (xb_ss ((fr_X6_push (xnot_sub hp (by decide))).trans hq1) (fun q10 hq10 => ((xup_other (xnot_at hp (by decide) : p ≠ 2)).trans ((xup_other (xnot_at hp (by decide) : p ≠ 2)).trans hq10))))))
theorem fr_X4_unlink {p : Nat} {M : St} (hp : xnot p [2, 4] = true) : (f_X4_unlink M) p = M p := by
  unfold f_X4_unlink
  exact (xb_ps ((fr_X6_pull (xnot_sub hp (by decide))).trans ((xup_other (xnot_at hp (by decide) : p ≠ 2)).trans rfl)) (fun q5 hq5 => ((xup_other (xnot_at hp (by decide) : p ≠ 2)).trans hq5)))
theorem fr_X4_stop {p : Nat} {M : St} (hp : xnot p [2, 4, 12] = true) : (f_X4_stop M) p = M p := by
  unfold f_X4_stop
  exact (xb_ps ((fr_X6_fetch (xnot_sub hp (by decide))).trans rfl) (fun q1 hq1 => (xb_ss ((fr_X8_changeStatus (xnot_sub hp (by decide))).trans hq1) (fun q4 hq4 => ((xup_other (xnot_at hp (by decide) : p ≠ 12)).trans hq4)))))
theorem fr_X4_performRest_225 {p : Nat} {s0 : Int32} {M : St} (hp : xnot p [12] = true) : (f_X4_performRest_225 s0 M) p = M p := by
  unfold f_X4_performRest_225
  exact ((xup_other (xnot_at hp (by decide) : p ≠ 12)).trans rfl)
theorem fr_X4_performRest {p : Nat} {a1 : Nat} {M : St} (hp : xnot p [2, 4, 5, 7, 12] = true) : (f_X4_performRest a1 M) p = M p := by
  unfold f_X4_performRest
  exact (ite_s (fun _ => (xb_ss ((fr_X4_exchange (xnot_sub hp (by decide))).trans rfl) (fun q2 hq2 => hq2))) (fun _ => (ite_s (fun _ => (xb_ss ((fr_X4_moveQuick (xnot_sub hp (by decide))).trans rfl) (fun q6 hq6 => hq6))) (fun _ => (ite_s (fun _ => (xb_ps ((fr_X4_statusJoined (xnot_sub hp (by decide))).trans rfl) (fun q10 hq10 => (xb_ss ((fr_X8_changeFlags (xnot_sub hp (by decide))).trans hq10) (fun q13 hq13 => hq13))))) (fun _ => (ite_s (fun _ => (xb_ps ((fr_X4_statusJoined (xnot_sub hp (by decide))).trans rfl) (fun q17 hq17 => (xb_ss ((fr_X8_changeStatus (xnot_sub hp (by decide))).trans hq17) (fun q20 hq20 => hq20))))) (fun _ => (ite_s (fun _ => (xb_ss ((fr_X4_swap (xnot_sub hp (by decide))).trans rfl) (fun q24 hq24 => hq24))) (fun _ => (ite_s (fun _ => (xb_ps ((fr_X6_pull (xnot_sub hp (by decide))).trans rfl) (fun q28 hq28 => ((xup_other (xnot_at hp (by decide) : p ≠ 2)).trans hq28)))) (fun _ => (ite_s (fun _ => (xb_ss ((fr_X4_returnWithFlags (xnot_sub hp (by decide))).trans rfl) (fun q33 hq33 => hq33))) (fun _ => (ite_s (fun _ => (xb_ss ((fr_X4_returnFromException (xnot_sub hp (by decide))).trans rfl) (fun q37 hq37 => hq37))) (fun _ => (ite_s (fun _ => ((xup_other (xnot_at hp (by decide) : p ≠ 12)).trans rfl)) (fun _ => (ite_s (fun _ => (ite_s (fun _ => ((fr_X4_performRest_225 (xnot_sub hp (by decide))).trans rfl)) (fun _ => ((fr_X4_performRest_225 (xnot_sub hp (by decide))).trans rfl)))) (fun _ => (ite_s (fun _ => (xb_ss ((fr_X4_link (xnot_sub hp (by decide))).trans rfl) (fun q50 hq50 => hq50))) (fun _ => (ite_s (fun _ => (xb_ss ((fr_X4_unlink (xnot_sub hp (by decide))).trans rfl) (fun q54 hq54 => hq54))) (fun _ => (ite_s (fun _ => ((xup_other (xnot_at hp (by decide) : p ≠ 2)).trans rfl)) (fun _ => (ite_s (fun _ => ((xup_other (xnot_at hp (by decide) : p ≠ 2)).trans rfl)) (fun _ => (ite_s (fun _ => (xb_ss ((fr_X2_quietTimer (xnot_sub hp (by decide))).trans rfl) (fun q68 hq68 => hq68))) (fun _ => (ite_s (fun _ => (xb_ss ((fr_X4_stop (xnot_sub hp (by decide))).trans rfl) (fun q72 hq72 => hq72))) (fun _ => (ite_s (fun _ => ((xup_other (xnot_at hp (by decide) : p ≠ 12)).trans rfl)) (fun _ => (ite_s (fun _ => ((xup_other (xnot_at hp (by decide) : p ≠ 12)).trans rfl)) (fun _ => (ite_s (fun _ => ((xup_other (xnot_at hp (by decide) : p ≠ 12)).trans rfl)) (fun _ => (ite_s (fun _ => ((xup_other (xnot_at hp (by decide) : p ≠ 12)).trans rfl)) (fun _ => rfl))))))))))))))))))))))))))))))))))))))))
theorem fr_X4_perform_237 {p : Nat} {x1 : Nat} {M : St} (hp : xnot p [2, 4, 5, 7, 10] = true) : (f_X4_perform_237 x1 M) p = M p := by
  unfold f_X4_perform_237
  exact (xb_ps ((fr_X4_readSource (xnot_sub hp (by decide))).trans rfl) (fun q214 hq214 => (xb_ss ((fr_X4_change (xnot_sub hp (by decide))).trans hq214) (fun q217 hq217 => hq217))))
theorem fr_X4_perform_260 {p : Nat} {x1 : Nat} {M : St} (hp : xnot p [2, 4, 10] = true) : (f_X4_perform_260 x1 M) p = M p := by
  unfold f_X4_perform_260
  exact (xb_ps ((fr_X4_readSource (xnot_sub hp (by decide))).trans rfl) (fun q220 hq220 => (xb_ss ((fr_X4_changeAddress (xnot_sub hp (by decide))).trans hq220) (fun q223 hq223 => hq223))))
theorem fr_X4_perform_516 {p : Nat} {s0 : Int32} {M : St} (hp : xnot p [2, 4, 5, 7, 10] = true) : (f_X4_perform_516 s0 M) p = M p := by
  unfold f_X4_perform_516
  exact (xb_ss ((fr_X4_overwrite (xnot_sub hp (by decide))).trans rfl) (fun q226 hq226 => hq226))
theorem fr_X4_perform {p : Nat} {a1 : Nat} {M : St} (hp : xnot p [2, 4, 5, 7, 10, 12] = true) : (f_X4_perform a1 M) p = M p := by
  unfold f_X4_perform
  exact (ite_s (fun _ => ((fr_X4_perform_237 (xnot_sub hp (by decide))).trans ((xup_other (xnot_at hp (by decide) : p ≠ 12)).trans ((xup_other (xnot_at hp (by decide) : p ≠ 12)).trans rfl)))) (fun _ => (ite_s (fun _ => ((fr_X4_perform_237 (xnot_sub hp (by decide))).trans ((xup_other (xnot_at hp (by decide) : p ≠ 12)).trans ((xup_other (xnot_at hp (by decide) : p ≠ 12)).trans rfl)))) (fun _ => (ite_s (fun _ => ((fr_X4_perform_237 (xnot_sub hp (by decide))).trans ((xup_other (xnot_at hp (by decide) : p ≠ 12)).trans ((xup_other (xnot_at hp (by decide) : p ≠ 12)).trans rfl)))) (fun _ => (ite_s (fun _ => ((fr_X4_perform_237 (xnot_sub hp (by decide))).trans ((xup_other (xnot_at hp (by decide) : p ≠ 12)).trans ((xup_other (xnot_at hp (by decide) : p ≠ 12)).trans rfl)))) (fun _ => (ite_s (fun _ => ((fr_X4_perform_237 (xnot_sub hp (by decide))).trans ((xup_other (xnot_at hp (by decide) : p ≠ 12)).trans ((xup_other (xnot_at hp (by decide) : p ≠ 12)).trans rfl)))) (fun _ => (ite_s (fun _ => ((fr_X4_perform_237 (xnot_sub hp (by decide))).trans ((xup_other (xnot_at hp (by decide) : p ≠ 12)).trans ((xup_other (xnot_at hp (by decide) : p ≠ 12)).trans rfl)))) (fun _ => (ite_s (fun _ => (xb_ps ((fr_X4_readSource (xnot_sub hp (by decide))).trans ((xup_other (xnot_at hp (by decide) : p ≠ 12)).trans ((xup_other (xnot_at hp (by decide) : p ≠ 12)).trans rfl))) (fun q9 hq9 => (xb_ss ((fr_X4_compare (xnot_sub hp (by decide))).trans hq9) (fun q12 hq12 => hq12))))) (fun _ => (ite_s (fun _ => ((fr_X4_perform_237 (xnot_sub hp (by decide))).trans ((xup_other (xnot_at hp (by decide) : p ≠ 12)).trans ((xup_other (xnot_at hp (by decide) : p ≠ 12)).trans rfl)))) (fun _ => (ite_s (fun _ => ((fr_X4_perform_237 (xnot_sub hp (by decide))).trans ((xup_other (xnot_at hp (by decide) : p ≠ 12)).trans ((xup_other (xnot_at hp (by decide) : p ≠ 12)).trans rfl)))) (fun _ => (ite_s (fun _ => ((fr_X4_perform_237 (xnot_sub hp (by decide))).trans ((xup_other (xnot_at hp (by decide) : p ≠ 12)).trans ((xup_other (xnot_at hp (by decide) : p ≠ 12)).trans rfl)))) (fun _ => (ite_s (fun _ => (xb_ps ((fr_X4_readSource (xnot_sub hp (by decide))).trans ((xup_other (xnot_at hp (by decide) : p ≠ 12)).trans ((xup_other (xnot_at hp (by decide) : p ≠ 12)).trans rfl))) (fun q19 hq19 => (xb_ps ((fr_X1_tested (xnot_sub hp (by decide))).trans hq19) (fun q22 hq22 => (xb_ss ((fr_X4_overwrite (xnot_sub hp (by decide))).trans hq22) (fun q25 hq25 => hq25))))))) (fun _ => (ite_s (fun _ => ((fr_X4_perform_260 (xnot_sub hp (by decide))).trans ((xup_other (xnot_at hp (by decide) : p ≠ 12)).trans ((xup_other (xnot_at hp (by decide) : p ≠ 12)).trans rfl)))) (fun _ => (ite_s (fun _ => ((fr_X4_perform_260 (xnot_sub hp (by decide))).trans ((xup_other (xnot_at hp (by decide) : p ≠ 12)).trans ((xup_other (xnot_at hp (by decide) : p ≠ 12)).trans rfl)))) (fun _ => (ite_s (fun _ => ((fr_X4_perform_260 (xnot_sub hp (by decide))).trans ((xup_other (xnot_at hp (by decide) : p ≠ 12)).trans ((xup_other (xnot_at hp (by decide) : p ≠ 12)).trans rfl)))) (fun _ => (ite_s (fun _ => (xb_ps ((fr_X4_readSource (xnot_sub hp (by decide))).trans ((xup_other (xnot_at hp (by decide) : p ≠ 12)).trans ((xup_other (xnot_at hp (by decide) : p ≠ 12)).trans rfl))) (fun q32 hq32 => (xb_ss ((fr_X4_compareAddress (xnot_sub hp (by decide))).trans hq32) (fun q35 hq35 => hq35))))) (fun _ => (ite_s (fun _ => (xb_ps ((fr_X4_readSource (xnot_sub hp (by decide))).trans ((xup_other (xnot_at hp (by decide) : p ≠ 12)).trans ((xup_other (xnot_at hp (by decide) : p ≠ 12)).trans rfl))) (fun q39 hq39 => (xb_ss ((fr_X4_multiply (xnot_sub hp (by decide))).trans hq39) (fun q42 hq42 => hq42))))) (fun _ => (ite_s (fun _ => (xb_ps ((fr_X4_readSource (xnot_sub hp (by decide))).trans ((xup_other (xnot_at hp (by decide) : p ≠ 12)).trans ((xup_other (xnot_at hp (by decide) : p ≠ 12)).trans rfl))) (fun q46 hq46 => (xb_ss ((fr_X4_divide (xnot_sub hp (by decide))).trans hq46) (fun q49 hq49 => hq49))))) (fun _ => (ite_s (fun _ => (xb_ps ((fr_X4_readSource (xnot_sub hp (by decide))).trans ((xup_other (xnot_at hp (by decide) : p ≠ 12)).trans ((xup_other (xnot_at hp (by decide) : p ≠ 12)).trans rfl))) (fun q53 hq53 => (xb_ss ((fr_X4_checkBounds (xnot_sub hp (by decide))).trans hq53) (fun q59 hq59 => hq59))))) (fun _ => (ite_s (fun _ => (xb_ss ((fr_X4_changeQuick (xnot_sub hp (by decide))).trans ((xup_other (xnot_at hp (by decide) : p ≠ 12)).trans ((xup_other (xnot_at hp (by decide) : p ≠ 12)).trans rfl))) (fun q66 hq66 => hq66))) (fun _ => (ite_s (fun _ => (xb_ss ((fr_X4_changeQuick (xnot_sub hp (by decide))).trans ((xup_other (xnot_at hp (by decide) : p ≠ 12)).trans ((xup_other (xnot_at hp (by decide) : p ≠ 12)).trans rfl))) (fun q73 hq73 => hq73))) (fun _ => (ite_s (fun _ => (xb_ss ((fr_X4_changeBit (xnot_sub hp (by decide))).trans ((xup_other (xnot_at hp (by decide) : p ≠ 12)).trans ((xup_other (xnot_at hp (by decide) : p ≠ 12)).trans rfl))) (fun q80 hq80 => hq80))) (fun _ => (ite_s (fun _ => (xb_ps ((fr_X6_fetch (xnot_sub hp (by decide))).trans ((xup_other (xnot_at hp (by decide) : p ≠ 12)).trans ((xup_other (xnot_at hp (by decide) : p ≠ 12)).trans rfl))) (fun q84 hq84 => (xb_ss ((fr_X4_changeBit (xnot_sub hp (by decide))).trans hq84) (fun q87 hq87 => hq87))))) (fun _ => (ite_s (fun _ => (xb_ss ((fr_X4_shiftRegister (xnot_sub hp (by decide))).trans ((xup_other (xnot_at hp (by decide) : p ≠ 12)).trans ((xup_other (xnot_at hp (by decide) : p ≠ 12)).trans rfl))) (fun q91 hq91 => hq91))) (fun _ => (ite_s (fun _ => (xb_ss ((fr_X4_shiftMemory (xnot_sub hp (by decide))).trans ((xup_other (xnot_at hp (by decide) : p ≠ 12)).trans ((xup_other (xnot_at hp (by decide) : p ≠ 12)).trans rfl))) (fun q95 hq95 => hq95))) (fun _ => (ite_s (fun _ => (xb_ss ((fr_X4_negate (xnot_sub hp (by decide))).trans ((xup_other (xnot_at hp (by decide) : p ≠ 12)).trans ((xup_other (xnot_at hp (by decide) : p ≠ 12)).trans rfl))) (fun q99 hq99 => hq99))) (fun _ => (ite_s (fun _ => (xb_ss ((fr_X4_negate (xnot_sub hp (by decide))).trans ((xup_other (xnot_at hp (by decide) : p ≠ 12)).trans ((xup_other (xnot_at hp (by decide) : p ≠ 12)).trans rfl))) (fun q103 hq103 => hq103))) (fun _ => (ite_s (fun _ => (xb_ss ((fr_X4_negate (xnot_sub hp (by decide))).trans ((xup_other (xnot_at hp (by decide) : p ≠ 12)).trans ((xup_other (xnot_at hp (by decide) : p ≠ 12)).trans rfl))) (fun q107 hq107 => hq107))) (fun _ => (ite_s (fun _ => (xb_ps ((fr_X1_tested (xnot_sub hp (by decide))).trans ((xup_other (xnot_at hp (by decide) : p ≠ 12)).trans ((xup_other (xnot_at hp (by decide) : p ≠ 12)).trans rfl))) (fun q111 hq111 => (xb_ss ((fr_X4_overwrite (xnot_sub hp (by decide))).trans hq111) (fun q114 hq114 => hq114))))) (fun _ => (ite_s (fun _ => (xb_ss ((fr_X4_turn (xnot_sub hp (by decide))).trans ((xup_other (xnot_at hp (by decide) : p ≠ 12)).trans ((xup_other (xnot_at hp (by decide) : p ≠ 12)).trans rfl))) (fun q118 hq118 => hq118))) (fun _ => (ite_s (fun _ => (xb_ss ((fr_X4_extend (xnot_sub hp (by decide))).trans ((xup_other (xnot_at hp (by decide) : p ≠ 12)).trans ((xup_other (xnot_at hp (by decide) : p ≠ 12)).trans rfl))) (fun q122 hq122 => hq122))) (fun _ => (ite_s (fun _ => (xb_ps ((fr_X4_readSource (xnot_sub hp (by decide))).trans ((xup_other (xnot_at hp (by decide) : p ≠ 12)).trans ((xup_other (xnot_at hp (by decide) : p ≠ 12)).trans rfl))) (fun q126 hq126 => (xb_ps ((fr_X1_tested (xnot_sub hp (by decide))).trans hq126) (fun q129 hq129 => hq129))))) (fun _ => (ite_s (fun _ => (xb_ss ((fr_X4_testAndSet (xnot_sub hp (by decide))).trans ((xup_other (xnot_at hp (by decide) : p ≠ 12)).trans ((xup_other (xnot_at hp (by decide) : p ≠ 12)).trans rfl))) (fun q133 hq133 => hq133))) (fun _ => (ite_s (fun _ => (xb_vs (fun q140 => (ite_s (fun _ => ((fr_X4_perform_516 (xnot_sub hp (by decide))).trans ((xup_other (xnot_at hp (by decide) : p ≠ 12)).trans ((xup_other (xnot_at hp (by decide) : p ≠ 12)).trans rfl)))) (fun _ => ((fr_X4_perform_516 (xnot_sub hp (by decide))).trans ((xup_other (xnot_at hp (by decide) : p ≠ 12)).trans ((xup_other (xnot_at hp (by decide) : p ≠ 12)).trans rfl)))))))) (fun _ => (ite_s (fun _ => (xb_ss ((fr_X4_overwrite (xnot_sub hp (by decide))).trans ((xup_other (xnot_at hp (by decide) : p ≠ 12)).trans ((xup_other (xnot_at hp (by decide) : p ≠ 12)).trans rfl))) (fun q147 hq147 => hq147))) (fun _ => (ite_s (fun _ => (xb_ps ((fr_X4_readSource (xnot_sub hp (by decide))).trans ((xup_other (xnot_at hp (by decide) : p ≠ 12)).trans ((xup_other (xnot_at hp (by decide) : p ≠ 12)).trans rfl))) (fun q151 hq151 => (xb_ss ((fr_X8_changeFlags (xnot_sub hp (by decide))).trans hq151) (fun q154 hq154 => hq154))))) (fun _ => (ite_s (fun _ => (xb_ps ((fr_X4_readSource (xnot_sub hp (by decide))).trans ((xup_other (xnot_at hp (by decide) : p ≠ 12)).trans ((xup_other (xnot_at hp (by decide) : p ≠ 12)).trans rfl))) (fun q158 hq158 => (xb_ss ((fr_X8_changeStatus (xnot_sub hp (by decide))).trans hq158) (fun q161 hq161 => hq161))))) (fun _ => (ite_s (fun _ => (xb_ss ((fr_X4_storeMany (xnot_sub hp (by decide))).trans ((xup_other (xnot_at hp (by decide) : p ≠ 12)).trans ((xup_other (xnot_at hp (by decide) : p ≠ 12)).trans rfl))) (fun q165 hq165 => hq165))) (fun _ => (ite_s (fun _ => (xb_ss ((fr_X4_loadMany (xnot_sub hp (by decide))).trans ((xup_other (xnot_at hp (by decide) : p ≠ 12)).trans ((xup_other (xnot_at hp (by decide) : p ≠ 12)).trans rfl))) (fun q169 hq169 => hq169))) (fun _ => (ite_s (fun _ => (xb_ps ((fr_X4_address (xnot_sub hp (by decide))).trans ((xup_other (xnot_at hp (by decide) : p ≠ 12)).trans ((xup_other (xnot_at hp (by decide) : p ≠ 12)).trans rfl))) (fun q176 hq176 => ((xup_other (xnot_at hp (by decide) : p ≠ 2)).trans hq176)))) (fun _ => (ite_s (fun _ => (xb_ps ((fr_X4_address (xnot_sub hp (by decide))).trans ((xup_other (xnot_at hp (by decide) : p ≠ 12)).trans ((xup_other (xnot_at hp (by decide) : p ≠ 12)).trans rfl))) (fun q181 hq181 => (xb_ss ((fr_X6_push (xnot_sub hp (by decide))).trans hq181) (fun q184 hq184 => hq184))))) (fun _ => (ite_s (fun _ => (xb_ps ((fr_X4_address (xnot_sub hp (by decide))).trans ((xup_other (xnot_at hp (by decide) : p ≠ 12)).trans ((xup_other (xnot_at hp (by decide) : p ≠ 12)).trans rfl))) (fun q188 hq188 => (xb_ss ((fr_X4_call (xnot_sub hp (by decide))).trans hq188) (fun q191 hq191 => hq191))))) (fun _ => (ite_s (fun _ => (xb_ps ((fr_X4_address (xnot_sub hp (by decide))).trans ((xup_other (xnot_at hp (by decide) : p ≠ 12)).trans ((xup_other (xnot_at hp (by decide) : p ≠ 12)).trans rfl))) (fun q195 hq195 => ((xup_other (xnot_at hp (by decide) : p ≠ 2)).trans hq195)))) (fun _ => (ite_s (fun _ => (xb_ss ((fr_X4_branch (xnot_sub hp (by decide))).trans ((xup_other (xnot_at hp (by decide) : p ≠ 12)).trans ((xup_other (xnot_at hp (by decide) : p ≠ 12)).trans rfl))) (fun q200 hq200 => hq200))) (fun _ => (ite_s (fun _ => (xb_ss ((fr_X4_countDown (xnot_sub hp (by decide))).trans ((xup_other (xnot_at hp (by decide) : p ≠ 12)).trans ((xup_other (xnot_at hp (by decide) : p ≠ 12)).trans rfl))) (fun q204 hq204 => hq204))) (fun _ => (ite_s (fun _ => (xb_ss ((fr_X4_moveBytes (xnot_sub hp (by decide))).trans ((xup_other (xnot_at hp (by decide) : p ≠ 12)).trans ((xup_other (xnot_at hp (by decide) : p ≠ 12)).trans rfl))) (fun q208 hq208 => hq208))) (fun _ => (xb_ss ((fr_X4_performRest (xnot_sub hp (by decide))).trans ((xup_other (xnot_at hp (by decide) : p ≠ 12)).trans ((xup_other (xnot_at hp (by decide) : p ≠ 12)).trans rfl))) (fun q211 hq211 => hq211))))))))))))))))))))))))))))))))))))))))))))))))))))))))))))))))))))))))))))))))))))))))))))
theorem fr_X7_end_81 {p : Nat} {x1 : Int32} {s0 : Int32} {M : St} (hp : xnot p [2, 3, 4, 5, 7, 8, 9] = true) : (f_X7_end_81 x1 s0 M).2 p = M p := by
  unfold f_X7_end_81
  exact (ite_p (fun _ => ((xup_other (xnot_at hp (by decide) : p ≠ 8)).trans rfl)) (fun _ => (ite_p (fun _ => (xb_sp ((fr_X7_workOff (xnot_sub hp (by decide))).trans ((xup_other (xnot_at hp (by decide) : p ≠ 8)).trans rfl)) (fun q31 hq31 => (ite_p (fun _ => hq31) (fun _ => hq31))))) (fun _ => ((xup_other (xnot_at hp (by decide) : p ≠ 8)).trans rfl)))))
theorem fr_X7_end_80 {p : Nat} {x1 : Int32} {M : St} (hp : xnot p [2, 3, 4, 5, 7, 8, 9] = true) : (f_X7_end_80 x1 M).2 p = M p := by
  unfold f_X7_end_80
  exact ((fr_X7_end_81 (xnot_sub hp (by decide))).trans rfl)
theorem fr_X7_end_58 {p : Nat} {x1 : Int32} {M : St} (hp : xnot p [2, 3, 4, 5, 7, 8, 9] = true) : (f_X7_end_58 x1 M).2 p = M p := by
  unfold f_X7_end_58
  exact (ite_p (fun _ => ((fr_X7_end_80 (xnot_sub hp (by decide))).trans rfl)) (fun _ => (ite_p (fun _ => ((fr_X7_end_81 (xnot_sub hp (by decide))).trans rfl)) (fun _ => ((fr_X7_end_80 (xnot_sub hp (by decide))).trans rfl)))))
theorem fr_X7_end_27 {p : Nat} {s0 : Int32} {M : St} (hp : xnot p [2, 3, 4, 5, 7, 8, 9] = true) : (f_X7_end_27 s0 M).2 p = M p := by
  unfold f_X7_end_27
  exact (ite_p (fun _ => (ite_p (fun _ => ((fr_X7_end_58 (xnot_sub hp (by decide))).trans rfl)) (fun _ => (xb_sp ((fr_X7_workOff (xnot_sub hp (by decide))).trans rfl) (fun q12 hq12 => ((fr_X7_end_58 (xnot_sub hp (by decide))).trans hq12)))))) (fun _ => (xb_sp ((fr_X8_takeBack (xnot_sub hp (by decide))).trans rfl) (fun q16 hq16 => (xb_sp ((fr_X7_workOff (xnot_sub hp (by decide))).trans hq16) (fun q19 hq19 => hq19))))))
theorem fr_X7_end {p : Nat} {M : St} (hp : xnot p [2, 3, 4, 5, 7, 8, 9] = true) : (f_X7_end M).2 p = M p := by
  unfold f_X7_end
  exact (ite_p (fun _ => ((fr_X7_end_27 (xnot_sub hp (by decide))).trans rfl)) (fun _ => ((fr_X7_end_27 (xnot_sub hp (by decide))).trans rfl)))
theorem fr_X2_tick_37 {p : Nat} {s0 : Int32} {M : St} (hp : xnot p [4] = true) : (f_X2_tick_37 s0 M) p = M p := by
  unfold f_X2_tick_37
  exact ((xup_other (xnot_at hp (by decide) : p ≠ 4)).trans rfl)
theorem fr_X2_tick_32 {p : Nat} {M : St} (hp : xnot p [4] = true) : (f_X2_tick_32 M) p = M p := by
  unfold f_X2_tick_32
  exact ((fr_X2_tick_37 (xnot_sub hp (by decide))).trans rfl)
theorem fr_X2_tick {p : Nat} {M : St} (hp : xnot p [4] = true) : (f_X2_tick M) p = M p := by
  unfold f_X2_tick
  exact (ite_s (fun _ => rfl) (fun _ => (ite_s (fun _ => (ite_s (fun _ => ((fr_X2_tick_32 (xnot_sub hp (by decide))).trans ((xup_other (xnot_at hp (by decide) : p ≠ 4)).trans rfl))) (fun _ => ((fr_X2_tick_37 (xnot_sub hp (by decide))).trans ((xup_other (xnot_at hp (by decide) : p ≠ 4)).trans rfl))))) (fun _ => ((fr_X2_tick_32 (xnot_sub hp (by decide))).trans ((xup_other (xnot_at hp (by decide) : p ≠ 4)).trans rfl))))))
theorem fr_X7_advance_101 {p : Nat} {x3 : Int32} {M : St} (hp : xnot p [4] = true) : (f_X7_advance_101 x3 M).2 p = M p := by
  unfold f_X7_advance_101
  exact (xb_sp ((fr_X2_tick (xnot_sub hp (by decide))).trans rfl) (fun q32 hq32 => hq32))
theorem fr_X7_advance_57 {p : Nat} {x1 : Int32} {s0 : Int32} {M : St} (hp : xnot p [2, 3, 4, 5, 7, 8, 9, 10, 11, 12] = true) : (f_X7_advance_57 x1 s0 M).2 p = M p := by
  unfold f_X7_advance_57
  exact (ite_p (fun _ => (ite_p (fun _ => (xb_pp ((fr_X7_begin (xnot_sub hp (by decide))).trans ((xup_other (xnot_at hp (by decide) : p ≠ 8)).trans rfl)) (fun q19 hq19 => (xb_sp ((fr_X4_perform (xnot_sub hp (by decide))).trans hq19) (fun q22 hq22 => (xb_pp ((fr_X7_end (xnot_sub hp (by decide))).trans hq22) (fun q25 hq25 => ((fr_X7_advance_101 (xnot_sub hp (by decide))).trans hq25)))))))) (fun _ => ((fr_X7_advance_101 (xnot_sub hp (by decide))).trans ((xup_other (xnot_at hp (by decide) : p ≠ 8)).trans rfl))))) (fun _ => (xb_pp ((fr_X7_interrupt (xnot_sub hp (by decide))).trans ((xup_other (xnot_at hp (by decide) : p ≠ 8)).trans rfl)) (fun q29 hq29 => ((fr_X7_advance_101 (xnot_sub hp (by decide))).trans hq29)))))
theorem fr_X7_advance_52 {p : Nat} {x1 : Int32} {M : St} (hp : xnot p [2, 3, 4, 5, 7, 8, 9, 10, 11, 12] = true) : (f_X7_advance_52 x1 M).2 p = M p := by
  unfold f_X7_advance_52
  exact ((fr_X7_advance_57 (xnot_sub hp (by decide))).trans rfl)
theorem fr_X7_advance_56 {p : Nat} {x1 : Int32} {M : St} (hp : xnot p [2, 3, 4, 5, 7, 8, 9, 10, 11, 12] = true) : (f_X7_advance_56 x1 M).2 p = M p := by
  unfold f_X7_advance_56
  exact ((fr_X7_advance_57 (xnot_sub hp (by decide))).trans rfl)
theorem fr_X7_advance_25 {p : Nat} {s0 : Int32} {s1 : Int32} {M : St} (hp : xnot p [2, 3, 4, 5, 7, 8, 9, 10, 11, 12] = true) : (f_X7_advance_25 s0 s1 M).2 p = M p := by
  unfold f_X7_advance_25
  exact (ite_p (fun _ => ((fr_X7_advance_52 (xnot_sub hp (by decide))).trans rfl)) (fun _ => (ite_p (fun _ => (ite_p (fun _ => ((fr_X7_advance_56 (xnot_sub hp (by decide))).trans rfl)) (fun _ => ((fr_X7_advance_52 (xnot_sub hp (by decide))).trans rfl)))) (fun _ => ((fr_X7_advance_56 (xnot_sub hp (by decide))).trans rfl)))))
theorem fr_X7_advance {p : Nat} {M : St} (hp : xnot p [2, 3, 4, 5, 7, 8, 9, 10, 11, 12] = true) : (f_X7_advance M).2 p = M p := by
  unfold f_X7_advance
  exact (ite_p (fun _ => ((fr_X7_advance_25 (xnot_sub hp (by decide))).trans rfl)) (fun _ => ((fr_X7_advance_25 (xnot_sub hp (by decide))).trans rfl)))
