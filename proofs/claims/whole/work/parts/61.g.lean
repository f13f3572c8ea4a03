/-! frames by fields: none for all indices of a place -/
def xno2 (p j : Nat) (L : List (Nat × Option Nat)) : Bool := L.all fun q => decide (p ≠ q.1) || (match q.2 with | none => false | some k => decide (j ≠ k))
theorem x2_place {p j : Nat} {L : List (Nat × Option Nat)} (q : Nat) (h : xno2 p j L = true) (hq : L.contains (q, none) = true) : p ≠ q := by
  have h1 := List.all_eq_true.mp h (q, none) (by simpa using hq)
  simpa using h1
theorem x2_field {p j : Nat} {L : List (Nat × Option Nat)} (q k : Nat) (h : xno2 p j L = true) (hq : L.contains (q, some k) = true) : p ≠ q ∨ j ≠ k := by
  have h1 := List.all_eq_true.mp h (q, some k) (by simpa using hq)
  simpa using h1
theorem x2_sub {p j : Nat} {L L' : List (Nat × Option Nat)} (h : xno2 p j L = true) (hs : L'.all (fun q => L.contains q || L.contains (q.1, none)) = true) : xno2 p j L' = true := by
  refine List.all_eq_true.mpr fun q hq => ?_
  have h1 := List.all_eq_true.mp hs q hq
  rcases Bool.or_eq_true _ _ ▸ h1 with h2 | h2
  · exact List.all_eq_true.mp h q (by simpa using h2)
  · have h3 := x2_place q.1 h h2
    simp [h3]
theorem xup_o2 {M : St} {i k p j : Nat} {v : Int32} (h : p ≠ i ∨ j ≠ k) : xup M i k v p j = M p j := by
  by_cases hp : p = i
  · subst hp
    rcases h with h | h
    · exact absurd rfl h
    · rw [xup_self, pk_un h]
  · rw [xup_other hp]
theorem xcp_o2 {M : St} {a b p j : Nat} (h : p ≠ b) : xcp M a b p j = M p j := by rw [xcp_other h]
theorem ite2_p {α : Type} {c : Prop} [Decidable c] {A B : α × St} {p j : Nat} {z : Int32} (h1 : c → A.2 p j = z) (h2 : ¬ c → B.2 p j = z) : (if c then A else B).2 p j = z := by
  by_cases h : c
  · rw [if_pos h]; exact h1 h
  · rw [if_neg h]; exact h2 h
theorem ite2_s {c : Prop} [Decidable c] {A B : St} {p j : Nat} {z : Int32} (h1 : c → A p j = z) (h2 : ¬ c → B p j = z) : (if c then A else B) p j = z := by
  by_cases h : c
  · rw [if_pos h]; exact h1 h
  · rw [if_neg h]; exact h2 h
theorem xb2_pp {α β : Type} {x : α × St} {f : α × St → β × St} {p j : Nat} {z : Int32} (h : x.2 p j = z) (k : ∀ q : α × St, q.2 p j = z → (f q).2 p j = z) : (xb x f).2 p j = z := k x h
theorem xb2_ps {α : Type} {x : α × St} {f : α × St → St} {p j : Nat} {z : Int32} (h : x.2 p j = z) (k : ∀ q : α × St, q.2 p j = z → (f q) p j = z) : (xb x f) p j = z := k x h
theorem xb2_sp {β : Type} {x : St} {f : St → β × St} {p j : Nat} {z : Int32} (h : x p j = z) (k : ∀ q : St, q p j = z → (f q).2 p j = z) : (xb x f).2 p j = z := k x h
theorem xb2_ss {x : St} {f : St → St} {p j : Nat} {z : Int32} (h : x p j = z) (k : ∀ q : St, q p j = z → (f q) p j = z) : (xb x f) p j = z := k x h
theorem xb2_vp {α β : Type} {x : α} {f : α → β × St} {p j : Nat} {z : Int32} (k : ∀ q : α, (f q).2 p j = z) : (xb x f).2 p j = z := k x
theorem xb2_vs {α : Type} {x : α} {f : α → St} {p j : Nat} {z : Int32} (k : ∀ q : α, (f q) p j = z) : (xb x f) p j = z := k x

theorem g_X11_put {p j : Nat} {a1 : Int32} {a2 : Int32} {M : St} (hp : xno2 p j [(14, some 0), (18, none)] = true) : (f_X11_put a1 a2 M) p j = M p j := by
  unfold f_X11_put
  exact (ite2_s (fun _ => ((xup_o2 (x2_field 14 0 hp (by decide))).trans rfl)) (fun _ => (ite2_s (fun _ => ((xup_o2 (x2_field 14 0 hp (by decide))).trans rfl)) (fun _ => (ite2_s (fun _ => ((xup_o2 (Or.inl (x2_place 18 hp (by decide)))).trans ((xup_o2 (Or.inl (x2_place 18 hp (by decide)))).trans ((xup_o2 (x2_field 14 0 hp (by decide))).trans rfl)))) (fun _ => ((xup_o2 (x2_field 14 0 hp (by decide))).trans rfl)))))))
theorem g_X11_fence {p j : Nat} {a1 : Int32} {M : St} (hp : xno2 p j [(14, some 0), (14, some 8)] = true) : (f_X11_fence a1 M) p j = M p j := by
  unfold f_X11_fence
  exact (ite2_s (fun _ => ((xup_o2 (x2_field 14 8 hp (by decide))).trans ((xup_o2 (x2_field 14 0 hp (by decide))).trans rfl))) (fun _ => (ite2_s (fun _ => ((xup_o2 (x2_field 14 8 hp (by decide))).trans ((xup_o2 (x2_field 14 0 hp (by decide))).trans rfl))) (fun _ => ((xup_o2 (x2_field 14 8 hp (by decide))).trans ((xup_o2 (x2_field 14 0 hp (by decide))).trans rfl))))))
theorem g_X11_setStatus_48 {p j : Nat} {x2 : Int32} {M : St} (hp : xno2 p j [(14, some 2)] = true) : (f_X11_setStatus_48 x2 M) p j = M p j := by
  unfold f_X11_setStatus_48
  exact ((xup_o2 (x2_field 14 2 hp (by decide))).trans rfl)
theorem g_X11_setStatus {p j : Nat} {a1 : Int32} {M : St} (hp : xno2 p j [(14, some 2), (15, some 15), (15, some 16)] = true) : (f_X11_setStatus a1 M) p j = M p j := by
  unfold f_X11_setStatus
  exact (ite2_s (fun _ => ((g_X11_setStatus_48 (x2_sub hp (by decide))).trans rfl)) (fun _ => ((g_X11_setStatus_48 (x2_sub hp (by decide))).trans ((xup_o2 (x2_field 15 16 hp (by decide))).trans ((xup_o2 (x2_field 15 15 hp (by decide))).trans rfl)))))
theorem g_X11_reset {p j : Nat} {M : St} (hp : xno2 p j [(14, some 0), (14, some 2), (14, some 5), (14, some 6), (14, some 9), (14, some 10), (14, some 11), (14, some 17), (14, some 19), (15, some 15), (15, some 16), (15, some 17)] = true) : (f_X11_reset M) p j = M p j := by
  unfold f_X11_reset
  exact (xb2_ss ((g_X11_setStatus (x2_sub hp (by decide))).trans ((xup_o2 (x2_field 14 0 hp (by decide))).trans rfl)) (fun q2 hq2 => (xb2_ss ((g_X11_setStatus (x2_sub hp (by decide))).trans hq2) (fun q5 hq5 => ((xup_o2 (x2_field 14 19 hp (by decide))).trans ((xup_o2 (x2_field 14 17 hp (by decide))).trans ((xup_o2 (x2_field 14 6 hp (by decide))).trans ((xup_o2 (x2_field 14 5 hp (by decide))).trans ((xup_o2 (x2_field 14 11 hp (by decide))).trans ((xup_o2 (x2_field 14 10 hp (by decide))).trans ((xup_o2 (x2_field 14 9 hp (by decide))).trans ((xup_o2 (x2_field 15 17 hp (by decide))).trans ((xup_o2 (x2_field 15 15 hp (by decide))).trans hq5)))))))))))))
theorem g_X11_keep__16_2 {p j : Nat} (hp : xno2 p j [(16, none)] = true) : ∀ (n : Nat) (x2 : Int32) (M : St), (f_X11_keep__16_2 n x2 M) p j = M p j := by
  intro n
  induction n with
  | zero => intros; rfl
  | succ n ih =>
    intro x2 M
    unfold f_X11_keep__16_2
    exact (ite2_s (fun _ => ((xup_o2 (Or.inl (x2_place 16 hp (by decide)))).trans rfl)) (fun _ => ((ih _ _).trans ((xup_o2 (Or.inl (x2_place 16 hp (by decide)))).trans rfl))))
theorem g_X11_keep__16 {p j : Nat} {M : St} (hp : xno2 p j [(16, none)] = true) : (f_X11_keep__16 M) p j = M p j := by
  unfold f_X11_keep__16
  exact ((g_X11_keep__16_2 (x2_sub hp (by decide)) _ _ _).trans rfl)
theorem g_X11_keep__17_2 {p j : Nat} (hp : xno2 p j [(17, none)] = true) : ∀ (n : Nat) (x2 : Int32) (M : St), (f_X11_keep__17_2 n x2 M) p j = M p j := by
  intro n
  induction n with
  | zero => intros; rfl
  | succ n ih =>
    intro x2 M
    unfold f_X11_keep__17_2
    exact (ite2_s (fun _ => ((xup_o2 (Or.inl (x2_place 17 hp (by decide)))).trans rfl)) (fun _ => ((ih _ _).trans ((xup_o2 (Or.inl (x2_place 17 hp (by decide)))).trans rfl))))
theorem g_X11_keep__17 {p j : Nat} {M : St} (hp : xno2 p j [(17, none)] = true) : (f_X11_keep__17 M) p j = M p j := by
  unfold f_X11_keep__17
  exact ((g_X11_keep__17_2 (x2_sub hp (by decide)) _ _ _).trans rfl)
theorem g_X11_fails_135 {p j : Nat} {x1 : Int32} {x4 : Int32} {s0 : Int32} {M : St} (hp : xno2 p j [(14, some 20), (14, some 21), (14, some 22)] = true) : (f_X11_fails_135 x1 x4 s0 M).2 p j = M p j := by
  unfold f_X11_fails_135
  exact (ite2_p (fun _ => ((xup_o2 (x2_field 14 22 hp (by decide))).trans ((xup_o2 (x2_field 14 21 hp (by decide))).trans ((xup_o2 (x2_field 14 20 hp (by decide))).trans rfl)))) (fun _ => ((xup_o2 (x2_field 14 22 hp (by decide))).trans ((xup_o2 (x2_field 14 21 hp (by decide))).trans ((xup_o2 (x2_field 14 20 hp (by decide))).trans rfl)))))
theorem g_X11_fails_107 {p j : Nat} {rec : Int32 → Int32 → Int32 → Int32 → Int32 → Int32 → Int32 → St → Int32 × St} {x1 : Int32} {x2 : Int32} {x3 : Int32} {x4 : Int32} {x5 : Int32} {x7 : Int32} {s0 : Int32} {M : St} (hp : xno2 p j [] = true) (hrec : ∀ (y0 : Int32) (y1 : Int32) (y2 : Int32) (y3 : Int32) (y4 : Int32) (y5 : Int32) (y6 : Int32) (N : St), (rec y0 y1 y2 y3 y4 y5 y6 N).2 p j = N p j) : (f_X11_fails_107 rec x1 x2 x3 x4 x5 x7 s0 M).2 p j = M p j := by
  unfold f_X11_fails_107
  exact ((hrec _ _ _ _ _ _ _ _).trans rfl)
theorem g_X11_fails_106 {p j : Nat} {rec : Int32 → Int32 → Int32 → Int32 → Int32 → Int32 → Int32 → St → Int32 × St} {x1 : Int32} {x2 : Int32} {x3 : Int32} {x4 : Int32} {x5 : Int32} {x7 : Int32} {M : St} (hp : xno2 p j [] = true) (hrec : ∀ (y0 : Int32) (y1 : Int32) (y2 : Int32) (y3 : Int32) (y4 : Int32) (y5 : Int32) (y6 : Int32) (N : St), (rec y0 y1 y2 y3 y4 y5 y6 N).2 p j = N p j) : (f_X11_fails_106 rec x1 x2 x3 x4 x5 x7 M).2 p j = M p j := by
  unfold f_X11_fails_106
  exact ((g_X11_fails_107 (x2_sub hp (by decide)) hrec).trans rfl)
theorem g_X11_fails_102 {p j : Nat} {rec : Int32 → Int32 → Int32 → Int32 → Int32 → Int32 → Int32 → St → Int32 × St} {x1 : Int32} {x2 : Int32} {x3 : Int32} {x4 : Int32} {x5 : Int32} {x7 : Int32} {M : St} (hp : xno2 p j [] = true) (hrec : ∀ (y0 : Int32) (y1 : Int32) (y2 : Int32) (y3 : Int32) (y4 : Int32) (y5 : Int32) (y6 : Int32) (N : St), (rec y0 y1 y2 y3 y4 y5 y6 N).2 p j = N p j) : (f_X11_fails_102 rec x1 x2 x3 x4 x5 x7 M).2 p j = M p j := by
  unfold f_X11_fails_102
  exact ((g_X11_fails_107 (x2_sub hp (by decide)) hrec).trans rfl)
theorem g_X11_fails_89 {p j : Nat} {rec : Int32 → Int32 → Int32 → Int32 → Int32 → Int32 → Int32 → St → Int32 × St} {x1 : Int32} {x2 : Int32} {x3 : Int32} {x4 : Int32} {x5 : Int32} {x7 : Int32} {x8 : Int32} {M : St} (hp : xno2 p j [] = true) (hrec : ∀ (y0 : Int32) (y1 : Int32) (y2 : Int32) (y3 : Int32) (y4 : Int32) (y5 : Int32) (y6 : Int32) (N : St), (rec y0 y1 y2 y3 y4 y5 y6 N).2 p j = N p j) : (f_X11_fails_89 rec x1 x2 x3 x4 x5 x7 x8 M).2 p j = M p j := by
  unfold f_X11_fails_89
  exact (ite2_p (fun _ => ((g_X11_fails_106 (x2_sub hp (by decide)) hrec).trans rfl)) (fun _ => (ite2_p (fun _ => ((g_X11_fails_106 (x2_sub hp (by decide)) hrec).trans rfl)) (fun _ => ((g_X11_fails_102 (x2_sub hp (by decide)) hrec).trans rfl)))))
theorem g_X11_fails_71 {p j : Nat} {rec : Int32 → Int32 → Int32 → Int32 → Int32 → Int32 → Int32 → St → Int32 × St} {x1 : Int32} {x2 : Int32} {x3 : Int32} {x4 : Int32} {x5 : Int32} {x7 : Int32} {x8 : Int32} {M : St} (hp : xno2 p j [] = true) (hrec : ∀ (y0 : Int32) (y1 : Int32) (y2 : Int32) (y3 : Int32) (y4 : Int32) (y5 : Int32) (y6 : Int32) (N : St), (rec y0 y1 y2 y3 y4 y5 y6 N).2 p j = N p j) : (f_X11_fails_71 rec x1 x2 x3 x4 x5 x7 x8 M).2 p j = M p j := by
  unfold f_X11_fails_71
  exact (ite2_p (fun _ => ((g_X11_fails_89 (x2_sub hp (by decide)) hrec).trans rfl)) (fun _ => (ite2_p (fun _ => ((g_X11_fails_102 (x2_sub hp (by decide)) hrec).trans rfl)) (fun _ => ((g_X11_fails_89 (x2_sub hp (by decide)) hrec).trans rfl)))))
theorem g_X11_fails_33 {p j : Nat} (hp : xno2 p j [(14, some 20), (14, some 21), (14, some 22)] = true) : ∀ (n : Nat) (x1 : Int32) (x2 : Int32) (x3 : Int32) (x4 : Int32) (x5 : Int32) (x6 : Int32) (x7 : Int32) (M : St), (f_X11_fails_33 n x1 x2 x3 x4 x5 x6 x7 M).2 p j = M p j := by
  intro n
  induction n with
  | zero => intros; rfl
  | succ n ih =>
    intro x1 x2 x3 x4 x5 x6 x7 M
    unfold f_X11_fails_33
    exact (ite2_p (fun _ => (ite2_p (fun _ => (ite2_p (fun _ => ((g_X11_fails_135 (x2_sub hp (by decide))).trans rfl)) (fun _ => ((g_X11_fails_135 (x2_sub hp (by decide))).trans rfl)))) (fun _ => ((g_X11_fails_135 (x2_sub hp (by decide))).trans rfl)))) (fun _ => (ite2_p (fun _ => (ite2_p (fun _ => ((g_X11_fails_71 (x2_sub hp (by decide)) ih).trans rfl)) (fun _ => (ite2_p (fun _ => ((g_X11_fails_102 (x2_sub hp (by decide)) ih).trans rfl)) (fun _ => ((g_X11_fails_71 (x2_sub hp (by decide)) ih).trans rfl)))))) (fun _ => ((g_X11_fails_102 (x2_sub hp (by decide)) ih).trans rfl)))))
theorem g_X11_fails_25 {p j : Nat} {x1 : Int32} {x2 : Int32} {x3 : Int32} {x4 : Int32} {s0 : Int32} {M : St} (hp : xno2 p j [(14, some 20), (14, some 21), (14, some 22)] = true) : (f_X11_fails_25 x1 x2 x3 x4 s0 M).2 p j = M p j := by
  unfold f_X11_fails_25
  exact ((g_X11_fails_33 (x2_sub hp (by decide)) _ _ _ _ _ _ _ _ _).trans rfl)
theorem g_X11_fails_24 {p j : Nat} {x1 : Int32} {x2 : Int32} {x3 : Int32} {x4 : Int32} {M : St} (hp : xno2 p j [(14, some 20), (14, some 21), (14, some 22)] = true) : (f_X11_fails_24 x1 x2 x3 x4 M).2 p j = M p j := by
  unfold f_X11_fails_24
  exact ((g_X11_fails_25 (x2_sub hp (by decide))).trans rfl)
theorem g_X11_fails {p j : Nat} {a1 : Int32} {a2 : Int32} {a3 : Int32} {a4 : Int32} {M : St} (hp : xno2 p j [(14, some 20), (14, some 21), (14, some 22)] = true) : (f_X11_fails a1 a2 a3 a4 M).2 p j = M p j := by
  unfold f_X11_fails
  exact (ite2_p (fun _ => (ite2_p (fun _ => ((g_X11_fails_24 (x2_sub hp (by decide))).trans rfl)) (fun _ => (ite2_p (fun _ => ((g_X11_fails_25 (x2_sub hp (by decide))).trans rfl)) (fun _ => ((g_X11_fails_24 (x2_sub hp (by decide))).trans rfl)))))) (fun _ => rfl))
theorem g_X11_writeByte_109 {p j : Nat} {x1 : Int32} {M : St} (hp : xno2 p j [(14, some 11)] = true) : (f_X11_writeByte_109 x1 M) p j = M p j := by
  unfold f_X11_writeByte_109
  exact (ite2_s (fun _ => ((xup_o2 (x2_field 14 11 hp (by decide))).trans rfl)) (fun _ => rfl))
theorem g_X11_writeByte_94 {p j : Nat} {x1 : Int32} {x2 : Int32} {M : St} (hp : xno2 p j [(14, some 10), (14, some 11)] = true) : (f_X11_writeByte_94 x1 x2 M) p j = M p j := by
  unfold f_X11_writeByte_94
  exact (ite2_s (fun _ => ((g_X11_writeByte_109 (x2_sub hp (by decide))).trans ((xup_o2 (x2_field 14 10 hp (by decide))).trans rfl))) (fun _ => ((g_X11_writeByte_109 (x2_sub hp (by decide))).trans rfl)))
theorem g_X11_writeByte_74 {p j : Nat} {x1 : Int32} {x2 : Int32} {M : St} (hp : xno2 p j [(14, some 9), (14, some 10), (14, some 11)] = true) : (f_X11_writeByte_74 x1 x2 M) p j = M p j := by
  unfold f_X11_writeByte_74
  exact (ite2_s (fun _ => ((g_X11_writeByte_94 (x2_sub hp (by decide))).trans ((xup_o2 (x2_field 14 9 hp (by decide))).trans rfl))) (fun _ => ((g_X11_writeByte_94 (x2_sub hp (by decide))).trans rfl)))
theorem g_X11_writeByte_50 {p j : Nat} {x1 : Int32} {x2 : Int32} {M : St} (hp : xno2 p j [(14, some 9), (14, some 10), (14, some 11)] = true) : (f_X11_writeByte_50 x1 x2 M) p j = M p j := by
  unfold f_X11_writeByte_50
  exact (ite2_s (fun _ => ((g_X11_writeByte_74 (x2_sub hp (by decide))).trans ((xup_o2 (x2_field 14 9 hp (by decide))).trans rfl))) (fun _ => ((g_X11_writeByte_74 (x2_sub hp (by decide))).trans rfl)))
theorem g_X11_writeByte_14 {p j : Nat} {x1 : Int32} {x2 : Int32} {M : St} (hp : xno2 p j [(14, some 9), (14, some 10), (14, some 11), (14, some 14), (20, none)] = true) : (f_X11_writeByte_14 x1 x2 M) p j = M p j := by
  unfold f_X11_writeByte_14
  exact (ite2_s (fun _ => (ite2_s (fun _ => ((g_X11_writeByte_50 (x2_sub hp (by decide))).trans rfl)) (fun _ => ((g_X11_writeByte_50 (x2_sub hp (by decide))).trans ((xup_o2 (x2_field 14 14 hp (by decide))).trans ((xup_o2 (Or.inl (x2_place 20 hp (by decide)))).trans rfl)))))) (fun _ => ((g_X11_writeByte_50 (x2_sub hp (by decide))).trans rfl)))
theorem g_X11_writeByte {p j : Nat} {a1 : Int32} {a2 : Int32} {M : St} (hp : xno2 p j [(14, some 9), (14, some 10), (14, some 11), (14, some 14), (18, none), (20, none)] = true) : (f_X11_writeByte a1 a2 M) p j = M p j := by
  unfold f_X11_writeByte
  exact (ite2_s (fun _ => ((g_X11_writeByte_14 (x2_sub hp (by decide))).trans rfl)) (fun _ => ((g_X11_writeByte_14 (x2_sub hp (by decide))).trans ((xup_o2 (Or.inl (x2_place 18 hp (by decide)))).trans rfl))))
theorem g_X11_write_20 {p j : Nat} (hp : xno2 p j [(14, some 9), (14, some 10), (14, some 11), (14, some 14), (18, none), (20, none)] = true) : ∀ (n : Nat) (x1 : Int32) (x3 : Int32) (x4 : Int32) (x5 : Int32) (M : St), (f_X11_write_20 n x1 x3 x4 x5 M) p j = M p j := by
  intro n
  induction n with
  | zero => intros; rfl
  | succ n ih =>
    intro x1 x3 x4 x5 M
    unfold f_X11_write_20
    exact (ite2_s (fun _ => rfl) (fun _ => (xb2_ss ((g_X11_writeByte (x2_sub hp (by decide))).trans rfl) (fun q12 hq12 => ((ih _ _ _ _ _).trans hq12)))))
theorem g_X11_write {p j : Nat} {a1 : Int32} {a2 : Int32} {a3 : Int32} {M : St} (hp : xno2 p j [(14, some 9), (14, some 10), (14, some 11), (14, some 14), (14, some 20), (14, some 21), (14, some 22), (18, none), (20, none)] = true) : (f_X11_write a1 a2 a3 M) p j = M p j := by
  unfold f_X11_write
  exact (xb2_ps ((g_X11_fails (x2_sub hp (by decide))).trans rfl) (fun q1 hq1 => (ite2_s (fun _ => ((g_X11_write_20 (x2_sub hp (by decide)) _ _ _ _ _ _).trans hq1)) (fun _ => hq1))))
theorem g_X11_push {p j : Nat} {a1 : Int32} {a2 : Int32} {M : St} (hp : xno2 p j [(14, some 9), (14, some 10), (14, some 11), (14, some 14), (14, some 20), (14, some 21), (14, some 22), (15, some 15), (18, none), (20, none)] = true) : (f_X11_push a1 a2 M) p j = M p j := by
  unfold f_X11_push
  exact (xb2_ss ((g_X11_write (x2_sub hp (by decide))).trans ((xup_o2 (x2_field 15 15 hp (by decide))).trans rfl)) (fun q2 hq2 => hq2))
theorem g_X11_readByte_118 {p j : Nat} {x1 : Int32} {M : St} (hp : xno2 p j [] = true) : (f_X11_readByte_118 x1 M).2 p j = M p j := by
  unfold f_X11_readByte_118
  exact (ite2_p (fun _ => rfl) (fun _ => rfl))
theorem g_X11_readByte_62 {p j : Nat} (hp : xno2 p j [(19, none)] = true) : ∀ (n : Nat) (x2 : Int32) (x3 : Int32) (M : St), (f_X11_readByte_62 n x2 x3 M).2 p j = M p j := by
  intro n
  induction n with
  | zero => intros; rfl
  | succ n ih =>
    intro x2 x3 M
    unfold f_X11_readByte_62
    exact (ite2_p (fun _ => rfl) (fun _ => ((ih _ _ _).trans ((xup_o2 (Or.inl (x2_place 19 hp (by decide)))).trans rfl))))
theorem g_X11_readByte_57 {p j : Nat} {x2 : Int32} {s0 : Int32} {M : St} (hp : xno2 p j [(14, some 12), (19, none)] = true) : (f_X11_readByte_57 x2 s0 M).2 p j = M p j := by
  unfold f_X11_readByte_57
  exact ((g_X11_readByte_62 (x2_sub hp (by decide)) _ _ _ _).trans ((xup_o2 (x2_field 14 12 hp (by decide))).trans rfl))
theorem g_X11_readByte_38 {p j : Nat} {s0 : Int32} {M : St} (hp : xno2 p j [(14, some 12), (19, none)] = true) : (f_X11_readByte_38 s0 M).2 p j = M p j := by
  unfold f_X11_readByte_38
  exact (ite2_p (fun _ => ((g_X11_readByte_57 (x2_sub hp (by decide))).trans rfl)) (fun _ => ((g_X11_readByte_57 (x2_sub hp (by decide))).trans rfl)))
theorem g_X11_readByte {p j : Nat} {a1 : Int32} {M : St} (hp : xno2 p j [(14, some 12), (19, none)] = true) : (f_X11_readByte a1 M).2 p j = M p j := by
  unfold f_X11_readByte
  exact (ite2_p (fun _ => (ite2_p (fun _ => (ite2_p (fun _ => ((g_X11_readByte_38 (x2_sub hp (by decide))).trans rfl)) (fun _ => ((g_X11_readByte_38 (x2_sub hp (by decide))).trans rfl)))) (fun _ => (ite2_p (fun _ => rfl) (fun _ => (ite2_p (fun _ => ((g_X11_readByte_118 (x2_sub hp (by decide))).trans rfl)) (fun _ => (ite2_p (fun _ => ((g_X11_readByte_118 (x2_sub hp (by decide))).trans rfl)) (fun _ => (ite2_p (fun _ => rfl) (fun _ => (ite2_p (fun _ => (ite2_p (fun _ => rfl) (fun _ => rfl))) (fun _ => rfl))))))))))))) (fun _ => rfl))
theorem g_X11_read_19 {p j : Nat} (hp : xno2 p j [(14, some 12), (19, none)] = true) : ∀ (n : Nat) (x1 : Int32) (x2 : Int32) (x4 : Int32) (x5 : Int32) (M : St), (f_X11_read_19 n x1 x2 x4 x5 M).2 p j = M p j := by
  intro n
  induction n with
  | zero => intros; rfl
  | succ n ih =>
    intro x1 x2 x4 x5 M
    unfold f_X11_read_19
    exact (ite2_p (fun _ => rfl) (fun _ => (xb2_pp ((g_X11_readByte (x2_sub hp (by decide))).trans rfl) (fun q12 hq12 => ((ih _ _ _ _ _).trans hq12)))))
theorem g_X11_read {p j : Nat} {a1 : Int32} {a2 : Int32} {a3 : Int32} {M : St} (hp : xno2 p j [(14, some 12), (14, some 20), (14, some 21), (14, some 22), (19, none)] = true) : (f_X11_read a1 a2 a3 M).2 p j = M p j := by
  unfold f_X11_read
  exact (xb2_pp ((g_X11_fails (x2_sub hp (by decide))).trans rfl) (fun q1 hq1 => (ite2_p (fun _ => ((g_X11_read_19 (x2_sub hp (by decide)) _ _ _ _ _ _).trans hq1)) (fun _ => hq1))))
theorem g_X11_back__16_2 {p j : Nat} (hp : xno2 p j [(14, some 2), (15, none)] = true) : ∀ (n : Nat) (x2 : Int32) (M : St), (f_X11_back__16_2 n x2 M) p j = M p j := by
  intro n
  induction n with
  | zero => intros; rfl
  | succ n ih =>
    intro x2 M
    unfold f_X11_back__16_2
    exact (ite2_s (fun _ => ((xup_o2 (x2_field 14 2 hp (by decide))).trans rfl)) (fun _ => ((ih _ _).trans ((xup_o2 (Or.inl (x2_place 15 hp (by decide)))).trans rfl))))
theorem g_X11_back__16 {p j : Nat} {M : St} (hp : xno2 p j [(14, some 2), (15, none)] = true) : (f_X11_back__16 M) p j = M p j := by
  unfold f_X11_back__16
  exact ((g_X11_back__16_2 (x2_sub hp (by decide)) _ _ _).trans rfl)
theorem g_X11_back__17_2 {p j : Nat} (hp : xno2 p j [(14, some 2), (15, none)] = true) : ∀ (n : Nat) (x2 : Int32) (M : St), (f_X11_back__17_2 n x2 M) p j = M p j := by
  intro n
  induction n with
  | zero => intros; rfl
  | succ n ih =>
    intro x2 M
    unfold f_X11_back__17_2
    exact (ite2_s (fun _ => ((xup_o2 (x2_field 14 2 hp (by decide))).trans rfl)) (fun _ => ((ih _ _).trans ((xup_o2 (Or.inl (x2_place 15 hp (by decide)))).trans rfl))))
theorem g_X11_back__17 {p j : Nat} {M : St} (hp : xno2 p j [(14, some 2), (15, none)] = true) : (f_X11_back__17 M) p j = M p j := by
  unfold f_X11_back__17
  exact ((g_X11_back__17_2 (x2_sub hp (by decide)) _ _ _).trans rfl)
theorem g_X11_tried_193 {p j : Nat} {s0 : Int32} {M : St} (hp : xno2 p j [(14, some 5)] = true) : (f_X11_tried_193 s0 M).2 p j = M p j := by
  unfold f_X11_tried_193
  exact (ite2_p (fun _ => ((xup_o2 (x2_field 14 5 hp (by decide))).trans rfl)) (fun _ => ((xup_o2 (x2_field 14 5 hp (by decide))).trans rfl)))
theorem g_X11_tried_135 {p j : Nat} {x1 : Int32} {M : St} (hp : xno2 p j [(14, some 2), (14, some 5), (14, some 12), (14, some 20), (14, some 21), (14, some 22), (15, none), (19, none), (21, none)] = true) : (f_X11_tried_135 x1 M).2 p j = M p j := by
  unfold f_X11_tried_135
  exact (xb2_pp ((g_X11_read (x2_sub hp (by decide))).trans rfl) (fun q38 hq38 => (ite2_p (fun _ => ((xup_o2 (Or.inl (x2_place 21 hp (by decide)))).trans ((xup_o2 (Or.inl (x2_place 15 hp (by decide)))).trans hq38))) (fun _ => (xb2_sp ((g_X11_back__17 (x2_sub hp (by decide))).trans hq38) (fun q43 hq43 => (ite2_p (fun _ => ((g_X11_tried_193 (x2_sub hp (by decide))).trans hq43)) (fun _ => ((g_X11_tried_193 (x2_sub hp (by decide))).trans hq43)))))))))
theorem g_X11_tried_92 {p j : Nat} {x1 : Int32} {x2 : Int32} {x3 : Int32} {x4 : Int32} {x5 : Int32} {s0 : Int32} {M : St} (hp : xno2 p j [(14, some 2), (14, some 5), (14, some 9), (14, some 10), (14, some 11), (14, some 12), (14, some 14), (14, some 20), (14, some 21), (14, some 22), (15, none), (18, none), (19, none), (20, none), (21, none)] = true) : (f_X11_tried_92 x1 x2 x3 x4 x5 s0 M).2 p j = M p j := by
  unfold f_X11_tried_92
  exact (xb2_sp ((g_X11_setStatus (x2_sub hp (by decide))).trans rfl) (fun q17 hq17 => (xb2_sp ((g_X11_push (x2_sub hp (by decide))).trans hq17) (fun q20 hq20 => (xb2_sp ((g_X11_push (x2_sub hp (by decide))).trans hq20) (fun q23 hq23 => (ite2_p (fun _ => ((g_X11_tried_135 (x2_sub hp (by decide))).trans hq23)) (fun _ => (xb2_sp ((g_X11_push (x2_sub hp (by decide))).trans hq23) (fun q29 hq29 => (xb2_sp ((g_X11_push (x2_sub hp (by decide))).trans hq29) (fun q32 hq32 => (xb2_sp ((g_X11_push (x2_sub hp (by decide))).trans hq32) (fun q35 hq35 => ((g_X11_tried_135 (x2_sub hp (by decide))).trans hq35)))))))))))))))
theorem g_X11_tried_90 {p j : Nat} {x1 : Int32} {x2 : Int32} {x3 : Int32} {x4 : Int32} {x5 : Int32} {x6 : Int32} {M : St} (hp : xno2 p j [(14, some 2), (14, some 5), (14, some 9), (14, some 10), (14, some 11), (14, some 12), (14, some 14), (14, some 20), (14, some 21), (14, some 22), (15, none), (18, none), (19, none), (20, none), (21, none)] = true) : (f_X11_tried_90 x1 x2 x3 x4 x5 x6 M).2 p j = M p j := by
  unfold f_X11_tried_90
  exact ((g_X11_tried_92 (x2_sub hp (by decide))).trans rfl)
theorem g_X11_tried_38 {p j : Nat} {x1 : Int32} {x2 : Int32} {x3 : Int32} {x4 : Int32} {s0 : Int32} {s1 : Int32} {M : St} (hp : xno2 p j [(14, some 2), (14, some 5), (14, some 9), (14, some 10), (14, some 11), (14, some 12), (14, some 14), (14, some 20), (14, some 21), (14, some 22), (15, none), (18, none), (19, none), (20, none), (21, none)] = true) : (f_X11_tried_38 x1 x2 x3 x4 s0 s1 M).2 p j = M p j := by
  unfold f_X11_tried_38
  exact (ite2_p (fun _ => ((g_X11_tried_90 (x2_sub hp (by decide))).trans ((xup_o2 (x2_field 14 20 hp (by decide))).trans rfl))) (fun _ => (ite2_p (fun _ => ((g_X11_tried_90 (x2_sub hp (by decide))).trans ((xup_o2 (x2_field 14 20 hp (by decide))).trans rfl))) (fun _ => ((g_X11_tried_92 (x2_sub hp (by decide))).trans ((xup_o2 (x2_field 14 20 hp (by decide))).trans rfl))))))
theorem g_X11_tried {p j : Nat} {a1 : Int32} {a2 : Int32} {M : St} (hp : xno2 p j [(14, some 2), (14, some 5), (14, some 9), (14, some 10), (14, some 11), (14, some 12), (14, some 14), (14, some 20), (14, some 21), (14, some 22), (15, none), (17, none), (18, none), (19, none), (20, none), (21, none)] = true) : (f_X11_tried a1 a2 M).2 p j = M p j := by
  unfold f_X11_tried
  exact (xb2_sp ((g_X11_keep__17 (x2_sub hp (by decide))).trans rfl) (fun q1 hq1 => (ite2_p (fun _ => ((g_X11_tried_38 (x2_sub hp (by decide))).trans hq1)) (fun _ => ((g_X11_tried_38 (x2_sub hp (by decide))).trans hq1)))))
theorem g_X11_work_5 {p j : Nat} (hp : xno2 p j [(14, some 2), (14, some 5), (14, some 9), (14, some 10), (14, some 11), (14, some 12), (14, some 14), (14, some 20), (14, some 21), (14, some 22), (15, none), (17, none), (18, none), (19, none), (20, none), (21, none)] = true) : ∀ (n : Nat) (x2 : Int32) (x3 : Int32) (x4 : Int32) (M : St), (f_X11_work_5 n x2 x3 x4 M) p j = M p j := by
  intro n
  induction n with
  | zero => intros; rfl
  | succ n ih =>
    intro x2 x3 x4 M
    unfold f_X11_work_5
    exact (ite2_s (fun _ => rfl) (fun _ => (ite2_s (fun _ => rfl) (fun _ => (xb2_ps ((g_X11_tried (x2_sub hp (by decide))).trans rfl) (fun q8 hq8 => ((ih _ _ _ _).trans hq8)))))))
theorem g_X11_work {p j : Nat} {a1 : Int32} {a2 : Int32} {M : St} (hp : xno2 p j [(14, some 2), (14, some 5), (14, some 9), (14, some 10), (14, some 11), (14, some 12), (14, some 14), (14, some 20), (14, some 21), (14, some 22), (15, none), (17, none), (18, none), (19, none), (20, none), (21, none)] = true) : (f_X11_work a1 a2 M) p j = M p j := by
  unfold f_X11_work
  exact ((g_X11_work_5 (x2_sub hp (by decide)) _ _ _ _ _).trans rfl)
theorem g_X11_fetch_46 {p j : Nat} {x1 : Int32} {s0 : Int32} {s1 : Int32} {M : St} (hp : xno2 p j [(15, none)] = true) : (f_X11_fetch_46 x1 s0 s1 M).2 p j = M p j := by
  unfold f_X11_fetch_46
  exact ((xup_o2 (Or.inl (x2_place 15 hp (by decide)))).trans rfl)
theorem g_X11_fetch {p j : Nat} {M : St} (hp : xno2 p j [(14, some 12), (14, some 20), (14, some 21), (14, some 22), (15, none), (19, none)] = true) : (f_X11_fetch M).2 p j = M p j := by
  unfold f_X11_fetch
  exact (xb2_pp ((g_X11_read (x2_sub hp (by decide))).trans rfl) (fun q1 hq1 => (ite2_p (fun _ => ((g_X11_fetch_46 (x2_sub hp (by decide))).trans hq1)) (fun _ => ((g_X11_fetch_46 (x2_sub hp (by decide))).trans hq1)))))
theorem g_X11_index {p j : Nat} {M : St} (hp : xno2 p j [(14, some 12), (14, some 20), (14, some 21), (14, some 22), (15, none), (19, none)] = true) : (f_X11_index M).2 p j = M p j := by
  unfold f_X11_index
  exact (xb2_pp ((g_X11_fetch (x2_sub hp (by decide))).trans rfl) (fun q1 hq1 => (ite2_p (fun _ => hq1) (fun _ => hq1))))
theorem g_X11_number {p j : Nat} {a1 : Int32} {M : St} (hp : xno2 p j [(14, some 12), (14, some 20), (14, some 21), (14, some 22), (15, none), (19, none)] = true) : (f_X11_number a1 M).2 p j = M p j := by
  unfold f_X11_number
  exact (xb2_pp ((g_X11_fetch (x2_sub hp (by decide))).trans rfl) (fun q1 hq1 => (ite2_p (fun _ => (xb2_pp ((g_X11_fetch (x2_sub hp (by decide))).trans hq1) (fun q6 hq6 => hq6))) (fun _ => hq1))))
theorem g_X11_findMore_66 {p j : Nat} {x1 : Int32} {x2 : Int32} {M : St} (hp : xno2 p j [(14, some 12), (14, some 20), (14, some 21), (14, some 22), (14, some 25), (14, some 26), (15, none), (19, none)] = true) : (f_X11_findMore_66 x1 x2 M) p j = M p j := by
  unfold f_X11_findMore_66
  exact (ite2_s (fun _ => (xb2_ps ((g_X11_number (x2_sub hp (by decide))).trans ((xup_o2 (x2_field 14 25 hp (by decide))).trans rfl)) (fun q28 hq28 => ((xup_o2 (x2_field 14 26 hp (by decide))).trans hq28)))) (fun _ => rfl))
theorem g_X11_findMore_51 {p j : Nat} {x1 : Int32} {x2 : Int32} {x3 : Int32} {M : St} (hp : xno2 p j [(14, some 12), (14, some 20), (14, some 21), (14, some 22), (14, some 25), (14, some 26), (15, none), (19, none)] = true) : (f_X11_findMore_51 x1 x2 x3 M) p j = M p j := by
  unfold f_X11_findMore_51
  exact (ite2_s (fun _ => (xb2_ps ((g_X11_index (x2_sub hp (by decide))).trans rfl) (fun q21 hq21 => ((g_X11_findMore_66 (x2_sub hp (by decide))).trans ((xup_o2 (x2_field 14 26 hp (by decide))).trans hq21))))) (fun _ => ((g_X11_findMore_66 (x2_sub hp (by decide))).trans rfl)))
theorem g_X11_findMore_35 {p j : Nat} {x1 : Int32} {x2 : Int32} {x3 : Int32} {M : St} (hp : xno2 p j [(14, some 12), (14, some 20), (14, some 21), (14, some 22), (14, some 25), (14, some 26), (15, none), (19, none)] = true) : (f_X11_findMore_35 x1 x2 x3 M) p j = M p j := by
  unfold f_X11_findMore_35
  exact (ite2_s (fun _ => (xb2_ps ((g_X11_fetch (x2_sub hp (by decide))).trans rfl) (fun q15 hq15 => ((g_X11_findMore_51 (x2_sub hp (by decide))).trans ((xup_o2 (x2_field 14 26 hp (by decide))).trans hq15))))) (fun _ => ((g_X11_findMore_51 (x2_sub hp (by decide))).trans rfl)))
theorem g_X11_findMore_21 {p j : Nat} {x1 : Int32} {x2 : Int32} {x3 : Int32} {M : St} (hp : xno2 p j [(14, some 12), (14, some 20), (14, some 21), (14, some 22), (14, some 25), (14, some 26), (15, none), (19, none)] = true) : (f_X11_findMore_21 x1 x2 x3 M) p j = M p j := by
  unfold f_X11_findMore_21
  exact (ite2_s (fun _ => (xb2_ps ((g_X11_number (x2_sub hp (by decide))).trans rfl) (fun q9 hq9 => ((g_X11_findMore_35 (x2_sub hp (by decide))).trans ((xup_o2 (x2_field 14 26 hp (by decide))).trans hq9))))) (fun _ => ((g_X11_findMore_35 (x2_sub hp (by decide))).trans rfl)))
theorem g_X11_findMore {p j : Nat} {a1 : Int32} {a2 : Int32} {M : St} (hp : xno2 p j [(14, some 12), (14, some 20), (14, some 21), (14, some 22), (14, some 25), (14, some 26), (15, none), (19, none)] = true) : (f_X11_findMore a1 a2 M) p j = M p j := by
  unfold f_X11_findMore
  exact (ite2_s (fun _ => (xb2_ps ((g_X11_fetch (x2_sub hp (by decide))).trans rfl) (fun q3 hq3 => ((g_X11_findMore_21 (x2_sub hp (by decide))).trans ((xup_o2 (x2_field 14 26 hp (by decide))).trans hq3))))) (fun _ => ((g_X11_findMore_21 (x2_sub hp (by decide))).trans rfl)))
theorem g_X11_find_156 {p j : Nat} {x2 : Int32} {x3 : Int32} {x4 : Int32} {M : St} (hp : xno2 p j [(14, some 12), (14, some 20), (14, some 21), (14, some 22), (14, some 25), (14, some 26), (15, none), (19, none)] = true) : (f_X11_find_156 x2 x3 x4 M) p j = M p j := by
  unfold f_X11_find_156
  exact (ite2_s (fun _ => (xb2_ss ((g_X11_findMore (x2_sub hp (by decide))).trans rfl) (fun q35 hq35 => hq35))) (fun _ => rfl))
theorem g_X11_find_134 {p j : Nat} {x2 : Int32} {x3 : Int32} {x4 : Int32} {x5 : Int32} {M : St} (hp : xno2 p j [(14, some 12), (14, some 20), (14, some 21), (14, some 22), (14, some 25), (14, some 26), (15, none), (19, none)] = true) : (f_X11_find_134 x2 x3 x4 x5 M) p j = M p j := by
  unfold f_X11_find_134
  exact (ite2_s (fun _ => (xb2_ps ((g_X11_index (x2_sub hp (by decide))).trans rfl) (fun q29 hq29 => ((g_X11_find_156 (x2_sub hp (by decide))).trans ((xup_o2 (x2_field 14 26 hp (by decide))).trans hq29))))) (fun _ => ((g_X11_find_156 (x2_sub hp (by decide))).trans rfl)))
theorem g_X11_find_112 {p j : Nat} {x2 : Int32} {x3 : Int32} {x4 : Int32} {x5 : Int32} {M : St} (hp : xno2 p j [(14, some 12), (14, some 20), (14, some 21), (14, some 22), (14, some 25), (14, some 26), (15, none), (19, none)] = true) : (f_X11_find_112 x2 x3 x4 x5 M) p j = M p j := by
  unfold f_X11_find_112
  exact (ite2_s (fun _ => (xb2_ps ((g_X11_fetch (x2_sub hp (by decide))).trans rfl) (fun q23 hq23 => ((g_X11_find_134 (x2_sub hp (by decide))).trans ((xup_o2 (x2_field 14 26 hp (by decide))).trans hq23))))) (fun _ => ((g_X11_find_134 (x2_sub hp (by decide))).trans rfl)))
theorem g_X11_find_95 {p j : Nat} {x2 : Int32} {x3 : Int32} {x4 : Int32} {x5 : Int32} {x6 : Int32} {M : St} (hp : xno2 p j [(14, some 12), (14, some 20), (14, some 21), (14, some 22), (14, some 25), (14, some 26), (15, none), (19, none)] = true) : (f_X11_find_95 x2 x3 x4 x5 x6 M) p j = M p j := by
  unfold f_X11_find_95
  exact (ite2_s (fun _ => ((g_X11_find_112 (x2_sub hp (by decide))).trans ((xup_o2 (Or.inl (x2_place 15 hp (by decide)))).trans rfl))) (fun _ => ((g_X11_find_112 (x2_sub hp (by decide))).trans rfl)))
theorem g_X11_find_79 {p j : Nat} {x2 : Int32} {x3 : Int32} {x4 : Int32} {x5 : Int32} {x6 : Int32} {M : St} (hp : xno2 p j [(14, some 12), (14, some 20), (14, some 21), (14, some 22), (14, some 25), (14, some 26), (15, none), (19, none)] = true) : (f_X11_find_79 x2 x3 x4 x5 x6 M) p j = M p j := by
  unfold f_X11_find_79
  exact (ite2_s (fun _ => ((g_X11_find_95 (x2_sub hp (by decide))).trans rfl)) (fun _ => ((g_X11_find_95 (x2_sub hp (by decide))).trans ((xup_o2 (x2_field 14 26 hp (by decide))).trans rfl))))
theorem g_X11_find_59 {p j : Nat} {x2 : Int32} {x3 : Int32} {x4 : Int32} {x5 : Int32} {x6 : Int32} {s0 : Int32} {M : St} (hp : xno2 p j [(14, some 12), (14, some 20), (14, some 21), (14, some 22), (14, some 25), (14, some 26), (15, none), (19, none)] = true) : (f_X11_find_59 x2 x3 x4 x5 x6 s0 M) p j = M p j := by
  unfold f_X11_find_59
  exact (ite2_s (fun _ => ((g_X11_find_79 (x2_sub hp (by decide))).trans ((xup_o2 (Or.inl (x2_place 15 hp (by decide)))).trans ((xup_o2 (x2_field 14 25 hp (by decide))).trans rfl)))) (fun _ => ((g_X11_find_79 (x2_sub hp (by decide))).trans ((xup_o2 (x2_field 14 25 hp (by decide))).trans rfl))))
theorem g_X11_find_35 {p j : Nat} {x2 : Int32} {x3 : Int32} {x4 : Int32} {x5 : Int32} {s0 : Int32} {M : St} (hp : xno2 p j [(14, some 12), (14, some 20), (14, some 21), (14, some 22), (14, some 25), (14, some 26), (15, none), (19, none)] = true) : (f_X11_find_35 x2 x3 x4 x5 s0 M) p j = M p j := by
  unfold f_X11_find_35
  exact (ite2_s (fun _ => ((g_X11_find_59 (x2_sub hp (by decide))).trans rfl)) (fun _ => (ite2_s (fun _ => ((g_X11_find_59 (x2_sub hp (by decide))).trans rfl)) (fun _ => ((g_X11_find_59 (x2_sub hp (by decide))).trans rfl)))))
theorem g_X11_find_32 {p j : Nat} {x2 : Int32} {x3 : Int32} {x4 : Int32} {x5 : Int32} {M : St} (hp : xno2 p j [(14, some 12), (14, some 20), (14, some 21), (14, some 22), (14, some 25), (14, some 26), (15, none), (19, none)] = true) : (f_X11_find_32 x2 x3 x4 x5 M) p j = M p j := by
  unfold f_X11_find_32
  exact ((g_X11_find_35 (x2_sub hp (by decide))).trans rfl)
theorem g_X11_find {p j : Nat} {a1 : Int32} {a2 : Int32} {M : St} (hp : xno2 p j [(14, some 12), (14, some 20), (14, some 21), (14, some 22), (14, some 25), (14, some 26), (15, none), (19, none)] = true) : (f_X11_find a1 a2 M) p j = M p j := by
  unfold f_X11_find
  exact (ite2_s (fun _ => (ite2_s (fun _ => ((g_X11_find_35 (x2_sub hp (by decide))).trans rfl)) (fun _ => ((g_X11_find_32 (x2_sub hp (by decide))).trans rfl)))) (fun _ => ((g_X11_find_32 (x2_sub hp (by decide))).trans rfl)))
theorem g_X11_load_47 {p j : Nat} {x1 : Int32} {s0 : Int32} {M : St} (hp : xno2 p j [] = true) : (f_X11_load_47 x1 s0 M).2 p j = M p j := by
  unfold f_X11_load_47
  exact rfl
theorem g_X11_load {p j : Nat} {a1 : Int32} {M : St} (hp : xno2 p j [(14, some 12), (14, some 20), (14, some 21), (14, some 22), (19, none)] = true) : (f_X11_load a1 M).2 p j = M p j := by
  unfold f_X11_load
  exact (ite2_p (fun _ => (xb2_pp ((g_X11_read (x2_sub hp (by decide))).trans rfl) (fun q6 hq6 => hq6))) (fun _ => (ite2_p (fun _ => ((g_X11_load_47 (x2_sub hp (by decide))).trans rfl)) (fun _ => ((g_X11_load_47 (x2_sub hp (by decide))).trans rfl)))))
theorem g_X11_loadAt {p j : Nat} {a1 : Int32} {a2 : Int32} {M : St} (hp : xno2 p j [(14, some 12), (14, some 20), (14, some 21), (14, some 22), (14, some 25), (14, some 26), (15, none), (19, none)] = true) : (f_X11_loadAt a1 a2 M).2 p j = M p j := by
  unfold f_X11_loadAt
  exact (xb2_sp ((g_X11_find (x2_sub hp (by decide))).trans rfl) (fun q1 hq1 => (xb2_pp ((g_X11_load (x2_sub hp (by decide))).trans hq1) (fun q4 hq4 => hq4))))
theorem g_X11_store {p j : Nat} {a1 : Int32} {a2 : Int32} {M : St} (hp : xno2 p j [(14, some 9), (14, some 10), (14, some 11), (14, some 14), (14, some 20), (14, some 21), (14, some 22), (15, none), (18, none), (20, none)] = true) : (f_X11_store a1 a2 M) p j = M p j := by
  unfold f_X11_store
  exact (ite2_s (fun _ => (xb2_ss ((g_X11_write (x2_sub hp (by decide))).trans rfl) (fun q16 hq16 => hq16))) (fun _ => (ite2_s (fun _ => rfl) (fun _ => ((xup_o2 (Or.inl (x2_place 15 hp (by decide)))).trans rfl)))))
theorem g_X11_flag_22 {p j : Nat} {s0 : Int32} {M : St} (hp : xno2 p j [(14, some 2)] = true) : (f_X11_flag_22 s0 M) p j = M p j := by
  unfold f_X11_flag_22
  exact ((xup_o2 (x2_field 14 2 hp (by decide))).trans rfl)
theorem g_X11_flag {p j : Nat} {a1 : Int32} {a2 : Int32} {M : St} (hp : xno2 p j [(14, some 2)] = true) : (f_X11_flag a1 a2 M) p j = M p j := by
  unfold f_X11_flag
  exact (ite2_s (fun _ => ((g_X11_flag_22 (x2_sub hp (by decide))).trans rfl)) (fun _ => ((g_X11_flag_22 (x2_sub hp (by decide))).trans rfl)))
theorem g_X11_test_32 {p j : Nat} {s0 : Int32} {s1 : Int32} {M : St} (hp : xno2 p j [(14, some 2)] = true) : (f_X11_test_32 s0 s1 M) p j = M p j := by
  unfold f_X11_test_32
  exact (xb2_ss ((g_X11_flag (x2_sub hp (by decide))).trans rfl) (fun q12 hq12 => (xb2_ss ((g_X11_flag (x2_sub hp (by decide))).trans hq12) (fun q15 hq15 => hq15))))
theorem g_X11_test_18 {p j : Nat} {x3 : Int32} {s0 : Int32} {s1 : Int32} {M : St} (hp : xno2 p j [(14, some 2)] = true) : (f_X11_test_18 x3 s0 s1 M) p j = M p j := by
  unfold f_X11_test_18
  exact (xb2_ss ((g_X11_flag (x2_sub hp (by decide))).trans rfl) (fun q7 hq7 => (ite2_s (fun _ => ((g_X11_test_32 (x2_sub hp (by decide))).trans hq7)) (fun _ => ((g_X11_test_32 (x2_sub hp (by decide))).trans hq7)))))
theorem g_X11_test {p j : Nat} {a1 : Int32} {a2 : Int32} {M : St} (hp : xno2 p j [(14, some 2)] = true) : (f_X11_test a1 a2 M) p j = M p j := by
  unfold f_X11_test
  exact (ite2_s (fun _ => ((g_X11_test_18 (x2_sub hp (by decide))).trans rfl)) (fun _ => ((g_X11_test_18 (x2_sub hp (by decide))).trans rfl)))
theorem g_X11_move_48 {p j : Nat} {x1 : Int32} {x4 : Int32} {M : St} (hp : xno2 p j [(14, some 2), (14, some 9), (14, some 10), (14, some 11), (14, some 14), (14, some 20), (14, some 21), (14, some 22), (15, none), (18, none), (20, none)] = true) : (f_X11_move_48 x1 x4 M) p j = M p j := by
  unfold f_X11_move_48
  exact (xb2_ss ((g_X11_store (x2_sub hp (by decide))).trans rfl) (fun q17 hq17 => (xb2_ss ((g_X11_test (x2_sub hp (by decide))).trans hq17) (fun q20 hq20 => hq20))))
theorem g_X11_move {p j : Nat} {a1 : Int32} {a2 : Int32} {a3 : Int32} {M : St} (hp : xno2 p j [(14, some 2), (14, some 9), (14, some 10), (14, some 11), (14, some 12), (14, some 14), (14, some 20), (14, some 21), (14, some 22), (14, some 25), (14, some 26), (15, none), (18, none), (19, none), (20, none)] = true) : (f_X11_move a1 a2 a3 M) p j = M p j := by
  unfold f_X11_move
  exact (xb2_ps ((g_X11_loadAt (x2_sub hp (by decide))).trans rfl) (fun q1 hq1 => (xb2_ss ((g_X11_find (x2_sub hp (by decide))).trans hq1) (fun q4 hq4 => (ite2_s (fun _ => ((g_X11_move_48 (x2_sub hp (by decide))).trans hq4)) (fun _ => (ite2_s (fun _ => ((g_X11_move_48 (x2_sub hp (by decide))).trans hq4)) (fun _ => ((xup_o2 (Or.inl (x2_place 15 hp (by decide)))).trans hq4)))))))))
theorem g_X11_sum_214 {p j : Nat} {x5 : Int32} {x22 : Int32} {x23 : Int32} {s0 : Int32} {s1 : Int32} {M : St} (hp : xno2 p j [(14, some 2)] = true) : (f_X11_sum_214 x5 x22 x23 s0 s1 M).2 p j = M p j := by
  unfold f_X11_sum_214
  exact (xb2_sp ((g_X11_flag (x2_sub hp (by decide))).trans rfl) (fun q55 hq55 => (xb2_sp ((g_X11_flag (x2_sub hp (by decide))).trans hq55) (fun q58 hq58 => (ite2_p (fun _ => hq58) (fun _ => (xb2_sp ((g_X11_flag (x2_sub hp (by decide))).trans hq58) (fun q64 hq64 => hq64))))))))
theorem g_X11_sum_191 {p j : Nat} {x1 : Int32} {x5 : Int32} {x20 : Int64} {x22 : Int32} {x23 : Int32} {s0 : Int32} {s1 : Int32} {M : St} (hp : xno2 p j [(14, some 2)] = true) : (f_X11_sum_191 x1 x5 x20 x22 x23 s0 s1 M).2 p j = M p j := by
  unfold f_X11_sum_191
  exact (xb2_sp ((g_X11_flag (x2_sub hp (by decide))).trans rfl) (fun q47 hq47 => (ite2_p (fun _ => ((g_X11_sum_214 (x2_sub hp (by decide))).trans hq47)) (fun _ => ((g_X11_sum_214 (x2_sub hp (by decide))).trans hq47)))))
theorem g_X11_sum_190 {p j : Nat} {x1 : Int32} {x5 : Int32} {x20 : Int64} {x22 : Int32} {x23 : Int32} {s0 : Int32} {M : St} (hp : xno2 p j [(14, some 2)] = true) : (f_X11_sum_190 x1 x5 x20 x22 x23 s0 M).2 p j = M p j := by
  unfold f_X11_sum_190
  exact ((g_X11_sum_191 (x2_sub hp (by decide))).trans rfl)
theorem g_X11_sum_186 {p j : Nat} {x1 : Int32} {x5 : Int32} {x20 : Int64} {x22 : Int32} {x23 : Int32} {s0 : Int32} {M : St} (hp : xno2 p j [(14, some 2)] = true) : (f_X11_sum_186 x1 x5 x20 x22 x23 s0 M).2 p j = M p j := by
  unfold f_X11_sum_186
  exact ((g_X11_sum_191 (x2_sub hp (by decide))).trans rfl)
theorem g_X11_sum_162 {p j : Nat} {x1 : Int32} {x5 : Int32} {x20 : Int64} {x22 : Int32} {x23 : Int32} {s0 : Int32} {s1 : Int32} {M : St} (hp : xno2 p j [(14, some 2)] = true) : (f_X11_sum_162 x1 x5 x20 x22 x23 s0 s1 M).2 p j = M p j := by
  unfold f_X11_sum_162
  exact (xb2_sp ((g_X11_flag (x2_sub hp (by decide))).trans rfl) (fun q34 hq34 => (ite2_p (fun _ => (ite2_p (fun _ => (ite2_p (fun _ => ((g_X11_sum_190 (x2_sub hp (by decide))).trans hq34)) (fun _ => ((g_X11_sum_186 (x2_sub hp (by decide))).trans hq34)))) (fun _ => ((g_X11_sum_186 (x2_sub hp (by decide))).trans hq34)))) (fun _ => ((g_X11_sum_190 (x2_sub hp (by decide))).trans hq34)))))
theorem g_X11_sum_143 {p j : Nat} {x1 : Int32} {x5 : Int32} {x20 : Int64} {x22 : Int32} {s0 : Int32} {M : St} (hp : xno2 p j [(14, some 2)] = true) : (f_X11_sum_143 x1 x5 x20 x22 s0 M).2 p j = M p j := by
  unfold f_X11_sum_143
  exact (ite2_p (fun _ => ((g_X11_sum_162 (x2_sub hp (by decide))).trans rfl)) (fun _ => ((g_X11_sum_162 (x2_sub hp (by decide))).trans rfl)))
theorem g_X11_sum_138 {p j : Nat} {x1 : Int32} {x5 : Int32} {x20 : Int64} {x22 : Int32} {M : St} (hp : xno2 p j [(14, some 2)] = true) : (f_X11_sum_138 x1 x5 x20 x22 M).2 p j = M p j := by
  unfold f_X11_sum_138
  exact ((g_X11_sum_143 (x2_sub hp (by decide))).trans rfl)
theorem g_X11_sum_113 {p j : Nat} {x1 : Int32} {x5 : Int32} {x6 : Int64} {x14 : Int64} {s0 : Int64} {M : St} (hp : xno2 p j [(14, some 2)] = true) : (f_X11_sum_113 x1 x5 x6 x14 s0 M).2 p j = M p j := by
  unfold f_X11_sum_113
  exact (ite2_p (fun _ => ((g_X11_sum_138 (x2_sub hp (by decide))).trans rfl)) (fun _ => (ite2_p (fun _ => ((g_X11_sum_143 (x2_sub hp (by decide))).trans rfl)) (fun _ => ((g_X11_sum_138 (x2_sub hp (by decide))).trans rfl)))))
theorem g_X11_sum_71 {p j : Nat} {x1 : Int32} {x2 : Int32} {x3 : Int32} {x4 : Int32} {x5 : Int32} {x6 : Int64} {x8 : Int64} {s0 : Int64} {M : St} (hp : xno2 p j [(14, some 2)] = true) : (f_X11_sum_71 x1 x2 x3 x4 x5 x6 x8 s0 M).2 p j = M p j := by
  unfold f_X11_sum_71
  exact (ite2_p (fun _ => ((g_X11_sum_113 (x2_sub hp (by decide))).trans rfl)) (fun _ => ((g_X11_sum_113 (x2_sub hp (by decide))).trans rfl)))
theorem g_X11_sum_31 {p j : Nat} {x1 : Int32} {x2 : Int32} {x3 : Int32} {x4 : Int32} {x5 : Int32} {x6 : Int64} {s0 : Int64} {M : St} (hp : xno2 p j [(14, some 2)] = true) : (f_X11_sum_31 x1 x2 x3 x4 x5 x6 s0 M).2 p j = M p j := by
  unfold f_X11_sum_31
  exact (ite2_p (fun _ => ((g_X11_sum_71 (x2_sub hp (by decide))).trans rfl)) (fun _ => ((g_X11_sum_71 (x2_sub hp (by decide))).trans rfl)))
theorem g_X11_sum_30 {p j : Nat} {x1 : Int32} {x2 : Int32} {x3 : Int32} {x4 : Int32} {x5 : Int32} {x6 : Int64} {M : St} (hp : xno2 p j [(14, some 2)] = true) : (f_X11_sum_30 x1 x2 x3 x4 x5 x6 M).2 p j = M p j := by
  unfold f_X11_sum_30
  exact ((g_X11_sum_31 (x2_sub hp (by decide))).trans rfl)
theorem g_X11_sum {p j : Nat} {a1 : Int32} {a2 : Int32} {a3 : Int32} {a4 : Int32} {a5 : Int32} {M : St} (hp : xno2 p j [(14, some 2)] = true) : (f_X11_sum a1 a2 a3 a4 a5 M).2 p j = M p j := by
  unfold f_X11_sum
  exact (ite2_p (fun _ => (ite2_p (fun _ => ((g_X11_sum_30 (x2_sub hp (by decide))).trans rfl)) (fun _ => ((g_X11_sum_31 (x2_sub hp (by decide))).trans rfl)))) (fun _ => ((g_X11_sum_30 (x2_sub hp (by decide))).trans rfl)))
theorem g_X11_one_92 {p j : Nat} {x2 : Int32} {x4 : Int32} {M : St} (hp : xno2 p j [(14, some 2)] = true) : (f_X11_one_92 x2 x4 M) p j = M p j := by
  unfold f_X11_one_92
  exact (xb2_ss ((g_X11_test (x2_sub hp (by decide))).trans rfl) (fun q31 hq31 => hq31))
theorem g_X11_one_80 {p j : Nat} {x1 : Int32} {x2 : Int32} {x4 : Int32} {M : St} (hp : xno2 p j [(14, some 2)] = true) : (f_X11_one_80 x1 x2 x4 M) p j = M p j := by
  unfold f_X11_one_80
  exact (ite2_s (fun _ => ((g_X11_one_92 (x2_sub hp (by decide))).trans rfl)) (fun _ => (ite2_s (fun _ => ((g_X11_one_92 (x2_sub hp (by decide))).trans rfl)) (fun _ => rfl))))
theorem g_X11_one_66 {p j : Nat} {x1 : Int32} {x2 : Int32} {s0 : Int32} {M : St} (hp : xno2 p j [(14, some 2), (14, some 9), (14, some 10), (14, some 11), (14, some 14), (14, some 20), (14, some 21), (14, some 22), (15, none), (18, none), (20, none)] = true) : (f_X11_one_66 x1 x2 s0 M) p j = M p j := by
  unfold f_X11_one_66
  exact (ite2_s (fun _ => ((g_X11_one_80 (x2_sub hp (by decide))).trans rfl)) (fun _ => (xb2_ss ((g_X11_store (x2_sub hp (by decide))).trans rfl) (fun q21 hq21 => ((g_X11_one_80 (x2_sub hp (by decide))).trans hq21)))))
theorem g_X11_one_46 {p j : Nat} {x1 : Int32} {x2 : Int32} {s0 : Int32} {s1 : Int32} {s2 : Int32} {s3 : Int32} {s4 : Int32} {M : St} (hp : xno2 p j [(14, some 2), (14, some 9), (14, some 10), (14, some 11), (14, some 14), (14, some 20), (14, some 21), (14, some 22), (15, none), (18, none), (20, none)] = true) : (f_X11_one_46 x1 x2 s0 s1 s2 s3 s4 M) p j = M p j := by
  unfold f_X11_one_46
  exact (xb2_ps ((g_X11_sum (x2_sub hp (by decide))).trans rfl) (fun q24 hq24 => ((g_X11_one_66 (x2_sub hp (by decide))).trans hq24)))
theorem g_X11_one_31 {p j : Nat} {x1 : Int32} {x2 : Int32} {x4 : Int32} {M : St} (hp : xno2 p j [(14, some 2), (14, some 9), (14, some 10), (14, some 11), (14, some 14), (14, some 20), (14, some 21), (14, some 22), (15, none), (18, none), (20, none)] = true) : (f_X11_one_31 x1 x2 x4 M) p j = M p j := by
  unfold f_X11_one_31
  exact (ite2_s (fun _ => ((g_X11_one_46 (x2_sub hp (by decide))).trans rfl)) (fun _ => ((g_X11_one_46 (x2_sub hp (by decide))).trans rfl)))
theorem g_X11_one_20 {p j : Nat} {x1 : Int32} {x2 : Int32} {s0 : Int32} {M : St} (hp : xno2 p j [(14, some 2), (14, some 9), (14, some 10), (14, some 11), (14, some 14), (14, some 20), (14, some 21), (14, some 22), (15, none), (18, none), (20, none)] = true) : (f_X11_one_20 x1 x2 s0 M) p j = M p j := by
  unfold f_X11_one_20
  exact (ite2_s (fun _ => ((g_X11_one_31 (x2_sub hp (by decide))).trans rfl)) (fun _ => (ite2_s (fun _ => ((g_X11_one_31 (x2_sub hp (by decide))).trans rfl)) (fun _ => (ite2_s (fun _ => ((g_X11_one_66 (x2_sub hp (by decide))).trans rfl)) (fun _ => ((g_X11_one_66 (x2_sub hp (by decide))).trans rfl)))))))
theorem g_X11_one {p j : Nat} {a1 : Int32} {a2 : Int32} {a3 : Int32} {M : St} (hp : xno2 p j [(14, some 2), (14, some 9), (14, some 10), (14, some 11), (14, some 12), (14, some 14), (14, some 20), (14, some 21), (14, some 22), (14, some 25), (14, some 26), (15, none), (18, none), (19, none), (20, none)] = true) : (f_X11_one a1 a2 a3 M) p j = M p j := by
  unfold f_X11_one
  exact (xb2_ss ((g_X11_find (x2_sub hp (by decide))).trans rfl) (fun q1 hq1 => (ite2_s (fun _ => ((g_X11_one_20 (x2_sub hp (by decide))).trans hq1)) (fun _ => (xb2_ps ((g_X11_load (x2_sub hp (by decide))).trans hq1) (fun q5 hq5 => ((g_X11_one_20 (x2_sub hp (by decide))).trans hq5)))))))
theorem g_X11_tens_198 {p j : Nat} {x5 : Int32} {s0 : Int32} {s1 : Int32} {M : St} (hp : xno2 p j [(14, some 2)] = true) : (f_X11_tens_198 x5 s0 s1 M).2 p j = M p j := by
  unfold f_X11_tens_198
  exact (xb2_sp ((g_X11_flag (x2_sub hp (by decide))).trans rfl) (fun q36 hq36 => (xb2_sp ((g_X11_flag (x2_sub hp (by decide))).trans hq36) (fun q39 hq39 => (ite2_p (fun _ => hq39) (fun _ => (xb2_sp ((g_X11_flag (x2_sub hp (by decide))).trans hq39) (fun q45 hq45 => hq45))))))))
theorem g_X11_tens_171 {p j : Nat} {x6 : Int32} {s0 : Int32} {M : St} (hp : xno2 p j [(14, some 2)] = true) : (f_X11_tens_171 x6 s0 M).2 p j = M p j := by
  unfold f_X11_tens_171
  exact (xb2_sp ((g_X11_flag (x2_sub hp (by decide))).trans rfl) (fun q30 hq30 => (ite2_p (fun _ => ((g_X11_tens_198 (x2_sub hp (by decide))).trans hq30)) (fun _ => ((g_X11_tens_198 (x2_sub hp (by decide))).trans hq30)))))
theorem g_X11_tens_142 {p j : Nat} {x3 : Int32} {x5 : Int32} {s0 : Int32} {M : St} (hp : xno2 p j [(14, some 2)] = true) : (f_X11_tens_142 x3 x5 s0 M).2 p j = M p j := by
  unfold f_X11_tens_142
  exact (ite2_p (fun _ => ((g_X11_tens_171 (x2_sub hp (by decide))).trans rfl)) (fun _ => (ite2_p (fun _ => ((g_X11_tens_171 (x2_sub hp (by decide))).trans rfl)) (fun _ => ((g_X11_tens_171 (x2_sub hp (by decide))).trans rfl)))))
theorem g_X11_tens_100 {p j : Nat} {x2 : Int32} {x3 : Int32} {s0 : Int32} {M : St} (hp : xno2 p j [(14, some 2)] = true) : (f_X11_tens_100 x2 x3 s0 M).2 p j = M p j := by
  unfold f_X11_tens_100
  exact (ite2_p (fun _ => (ite2_p (fun _ => ((g_X11_tens_142 (x2_sub hp (by decide))).trans rfl)) (fun _ => ((g_X11_tens_142 (x2_sub hp (by decide))).trans rfl)))) (fun _ => (ite2_p (fun _ => ((g_X11_tens_142 (x2_sub hp (by decide))).trans rfl)) (fun _ => ((g_X11_tens_142 (x2_sub hp (by decide))).trans rfl)))))
theorem g_X11_tens_94 {p j : Nat} {x1 : Int32} {x2 : Int32} {x3 : Int32} {s0 : Int32} {M : St} (hp : xno2 p j [(14, some 2)] = true) : (f_X11_tens_94 x1 x2 x3 s0 M).2 p j = M p j := by
  unfold f_X11_tens_94
  exact ((g_X11_tens_100 (x2_sub hp (by decide))).trans rfl)
theorem g_X11_tens_68 {p j : Nat} {x1 : Int32} {x2 : Int32} {x3 : Int32} {s0 : Int32} {M : St} (hp : xno2 p j [(14, some 2)] = true) : (f_X11_tens_68 x1 x2 x3 s0 M).2 p j = M p j := by
  unfold f_X11_tens_68
  exact ((g_X11_tens_100 (x2_sub hp (by decide))).trans rfl)
theorem g_X11_tens_47 {p j : Nat} {x1 : Int32} {x2 : Int32} {x3 : Int32} {s0 : Int32} {M : St} (hp : xno2 p j [(14, some 2)] = true) : (f_X11_tens_47 x1 x2 x3 s0 M).2 p j = M p j := by
  unfold f_X11_tens_47
  exact (ite2_p (fun _ => (ite2_p (fun _ => ((g_X11_tens_94 (x2_sub hp (by decide))).trans rfl)) (fun _ => ((g_X11_tens_94 (x2_sub hp (by decide))).trans rfl)))) (fun _ => (ite2_p (fun _ => ((g_X11_tens_68 (x2_sub hp (by decide))).trans rfl)) (fun _ => ((g_X11_tens_68 (x2_sub hp (by decide))).trans rfl)))))
theorem g_X11_tens_14 {p j : Nat} {x1 : Int32} {x2 : Int32} {x3 : Int32} {s0 : Int32} {M : St} (hp : xno2 p j [(14, some 2)] = true) : (f_X11_tens_14 x1 x2 x3 s0 M).2 p j = M p j := by
  unfold f_X11_tens_14
  exact (ite2_p (fun _ => ((g_X11_tens_47 (x2_sub hp (by decide))).trans rfl)) (fun _ => ((g_X11_tens_47 (x2_sub hp (by decide))).trans rfl)))
theorem g_X11_tens {p j : Nat} {a1 : Int32} {a2 : Int32} {a3 : Int32} {M : St} (hp : xno2 p j [(14, some 2)] = true) : (f_X11_tens a1 a2 a3 M).2 p j = M p j := by
  unfold f_X11_tens
  exact (ite2_p (fun _ => ((g_X11_tens_14 (x2_sub hp (by decide))).trans rfl)) (fun _ => ((g_X11_tens_14 (x2_sub hp (by decide))).trans rfl)))
theorem g_X11_keepIn {p j : Nat} {a1 : Int32} {a2 : Int32} {a3 : Int32} {M : St} (hp : xno2 p j [(15, none)] = true) : (f_X11_keepIn a1 a2 a3 M) p j = M p j := by
  unfold f_X11_keepIn
  exact ((xup_o2 (Or.inl (x2_place 15 hp (by decide)))).trans rfl)
theorem g_X11_extendOrStore_182 {p j : Nat} {rec : Int32 → Int32 → Int32 → Int32 → Int32 → Int32 → Int32 → St → St} {x1 : Int32} {x3 : Int32} {x4 : Int32} {x5 : Int32} {x6 : Int32} {x7 : Int32} {x8 : Int32} {M : St} (hp : xno2 p j [] = true) (hrec : ∀ (y0 : Int32) (y1 : Int32) (y2 : Int32) (y3 : Int32) (y4 : Int32) (y5 : Int32) (y6 : Int32) (N : St), (rec y0 y1 y2 y3 y4 y5 y6 N) p j = N p j) : (f_X11_extendOrStore_182 rec x1 x3 x4 x5 x6 x7 x8 M) p j = M p j := by
  unfold f_X11_extendOrStore_182
  exact ((hrec _ _ _ _ _ _ _ _).trans rfl)
theorem g_X11_extendOrStore_180 {p j : Nat} {rec : Int32 → Int32 → Int32 → Int32 → Int32 → Int32 → Int32 → St → St} {x1 : Int32} {x3 : Int32} {x4 : Int32} {x5 : Int32} {x6 : Int32} {x8 : Int32} {s0 : Int32} {M : St} (hp : xno2 p j [] = true) (hrec : ∀ (y0 : Int32) (y1 : Int32) (y2 : Int32) (y3 : Int32) (y4 : Int32) (y5 : Int32) (y6 : Int32) (N : St), (rec y0 y1 y2 y3 y4 y5 y6 N) p j = N p j) : (f_X11_extendOrStore_180 rec x1 x3 x4 x5 x6 x8 s0 M) p j = M p j := by
  unfold f_X11_extendOrStore_180
  exact ((g_X11_extendOrStore_182 (x2_sub hp (by decide)) hrec).trans rfl)
theorem g_X11_extendOrStore_156 {p j : Nat} {rec : Int32 → Int32 → Int32 → Int32 → Int32 → Int32 → Int32 → St → St} {x1 : Int32} {x3 : Int32} {x4 : Int32} {x5 : Int32} {x6 : Int32} {x7 : Int32} {x8 : Int32} {s0 : Int32} {s2 : Int32} {s3 : Int32} {M : St} (hp : xno2 p j [(14, some 9), (14, some 10), (14, some 11), (14, some 14), (14, some 20), (14, some 21), (14, some 22), (18, none), (20, none)] = true) (hrec : ∀ (y0 : Int32) (y1 : Int32) (y2 : Int32) (y3 : Int32) (y4 : Int32) (y5 : Int32) (y6 : Int32) (N : St), (rec y0 y1 y2 y3 y4 y5 y6 N) p j = N p j) : (f_X11_extendOrStore_156 rec x1 x3 x4 x5 x6 x7 x8 s0 s2 s3 M) p j = M p j := by
  unfold f_X11_extendOrStore_156
  exact (xb2_ss ((g_X11_write (x2_sub hp (by decide))).trans rfl) (fun q39 hq39 => (ite2_s (fun _ => ((g_X11_extendOrStore_180 (x2_sub hp (by decide)) hrec).trans hq39)) (fun _ => ((g_X11_extendOrStore_180 (x2_sub hp (by decide)) hrec).trans hq39)))))
theorem g_X11_extendOrStore_131 {p j : Nat} {rec : Int32 → Int32 → Int32 → Int32 → Int32 → Int32 → Int32 → St → St} {x1 : Int32} {x3 : Int32} {x4 : Int32} {x5 : Int32} {x6 : Int32} {x8 : Int32} {s0 : Int32} {M : St} (hp : xno2 p j [(14, some 9), (14, some 10), (14, some 11), (14, some 14), (14, some 20), (14, some 21), (14, some 22), (18, none), (20, none)] = true) (hrec : ∀ (y0 : Int32) (y1 : Int32) (y2 : Int32) (y3 : Int32) (y4 : Int32) (y5 : Int32) (y6 : Int32) (N : St), (rec y0 y1 y2 y3 y4 y5 y6 N) p j = N p j) : (f_X11_extendOrStore_131 rec x1 x3 x4 x5 x6 x8 s0 M) p j = M p j := by
  unfold f_X11_extendOrStore_131
  exact (ite2_s (fun _ => ((g_X11_extendOrStore_156 (x2_sub hp (by decide)) hrec).trans rfl)) (fun _ => ((g_X11_extendOrStore_156 (x2_sub hp (by decide)) hrec).trans rfl)))
theorem g_X11_extendOrStore_96 {p j : Nat} (hp : xno2 p j [(14, some 9), (14, some 10), (14, some 11), (14, some 14), (14, some 20), (14, some 21), (14, some 22), (15, none), (18, none), (20, none)] = true) : ∀ (n : Nat) (x1 : Int32) (x3 : Int32) (x4 : Int32) (x5 : Int32) (x6 : Int32) (x7 : Int32) (x8 : Int32) (M : St), (f_X11_extendOrStore_96 n x1 x3 x4 x5 x6 x7 x8 M) p j = M p j := by
  intro n
  induction n with
  | zero => intros; rfl
  | succ n ih =>
    intro x1 x3 x4 x5 x6 x7 x8 M
    unfold f_X11_extendOrStore_96
    exact (ite2_s (fun _ => (ite2_s (fun _ => ((xup_o2 (Or.inl (x2_place 15 hp (by decide)))).trans rfl)) (fun _ => rfl))) (fun _ => (ite2_s (fun _ => ((g_X11_extendOrStore_182 (x2_sub hp (by decide)) ih).trans rfl)) (fun _ => (ite2_s (fun _ => ((g_X11_extendOrStore_131 (x2_sub hp (by decide)) ih).trans rfl)) (fun _ => ((g_X11_extendOrStore_131 (x2_sub hp (by decide)) ih).trans rfl)))))))
theorem g_X11_extendOrStore_91 {p j : Nat} {x1 : Int32} {x3 : Int32} {x4 : Int32} {x5 : Int32} {x6 : Int32} {s0 : Int32} {M : St} (hp : xno2 p j [(14, some 9), (14, some 10), (14, some 11), (14, some 14), (14, some 20), (14, some 21), (14, some 22), (15, none), (18, none), (20, none)] = true) : (f_X11_extendOrStore_91 x1 x3 x4 x5 x6 s0 M) p j = M p j := by
  unfold f_X11_extendOrStore_91
  exact ((g_X11_extendOrStore_96 (x2_sub hp (by decide)) _ _ _ _ _ _ _ _ _).trans rfl)
theorem g_X11_extendOrStore_69 {p j : Nat} {x1 : Int32} {x3 : Int32} {x4 : Int32} {x5 : Int32} {x6 : Int32} {M : St} (hp : xno2 p j [(14, some 9), (14, some 10), (14, some 11), (14, some 14), (14, some 20), (14, some 21), (14, some 22), (15, none), (18, none), (20, none)] = true) : (f_X11_extendOrStore_69 x1 x3 x4 x5 x6 M) p j = M p j := by
  unfold f_X11_extendOrStore_69
  exact (ite2_s (fun _ => ((g_X11_extendOrStore_91 (x2_sub hp (by decide))).trans rfl)) (fun _ => ((g_X11_extendOrStore_91 (x2_sub hp (by decide))).trans rfl)))
theorem g_X11_extendOrStore {p j : Nat} {a1 : Int32} {a2 : Int32} {M : St} (hp : xno2 p j [(14, some 2), (14, some 9), (14, some 10), (14, some 11), (14, some 12), (14, some 14), (14, some 20), (14, some 21), (14, some 22), (14, some 25), (14, some 26), (15, none), (18, none), (19, none), (20, none)] = true) : (f_X11_extendOrStore a1 a2 M) p j = M p j := by
  unfold f_X11_extendOrStore
  exact (ite2_s (fun _ => (xb2_ss ((g_X11_keepIn (x2_sub hp (by decide))).trans rfl) (fun q14 hq14 => (xb2_ss ((g_X11_test (x2_sub hp (by decide))).trans hq14) (fun q17 hq17 => hq17))))) (fun _ => (xb2_ps ((g_X11_fetch (x2_sub hp (by decide))).trans rfl) (fun q2 hq2 => (ite2_s (fun _ => ((g_X11_extendOrStore_69 (x2_sub hp (by decide))).trans hq2)) (fun _ => (xb2_ss ((g_X11_find (x2_sub hp (by decide))).trans hq2) (fun q7 hq7 => ((g_X11_extendOrStore_69 (x2_sub hp (by decide))).trans hq7)))))))))
theorem g_X11_loadMany_99 {p j : Nat} {rec : Int32 → Int32 → Int32 → Int32 → Int32 → Int32 → St → St} {x1 : Int32} {x2 : Int32} {x3 : Int32} {x4 : Int32} {x5 : Int32} {x6 : Int32} {M : St} (hp : xno2 p j [] = true) (hrec : ∀ (y0 : Int32) (y1 : Int32) (y2 : Int32) (y3 : Int32) (y4 : Int32) (y5 : Int32) (N : St), (rec y0 y1 y2 y3 y4 y5 N) p j = N p j) : (f_X11_loadMany_99 rec x1 x2 x3 x4 x5 x6 M) p j = M p j := by
  unfold f_X11_loadMany_99
  exact ((hrec _ _ _ _ _ _ _).trans rfl)
theorem g_X11_loadMany_53 {p j : Nat} (hp : xno2 p j [(14, some 12), (14, some 20), (14, some 21), (14, some 22), (15, none), (19, none)] = true) : ∀ (n : Nat) (x1 : Int32) (x2 : Int32) (x3 : Int32) (x4 : Int32) (x5 : Int32) (x6 : Int32) (M : St), (f_X11_loadMany_53 n x1 x2 x3 x4 x5 x6 M) p j = M p j := by
  intro n
  induction n with
  | zero => intros; rfl
  | succ n ih =>
    intro x1 x2 x3 x4 x5 x6 M
    unfold f_X11_loadMany_53
    exact (ite2_s (fun _ => (ite2_s (fun _ => ((xup_o2 (Or.inl (x2_place 15 hp (by decide)))).trans rfl)) (fun _ => rfl))) (fun _ => (ite2_s (fun _ => ((g_X11_loadMany_99 (x2_sub hp (by decide)) ih).trans rfl)) (fun _ => (xb2_ps ((g_X11_read (x2_sub hp (by decide))).trans rfl) (fun q20 hq20 => ((g_X11_loadMany_99 (x2_sub hp (by decide)) ih).trans ((xup_o2 (Or.inl (x2_place 15 hp (by decide)))).trans hq20))))))))
theorem g_X11_loadMany_48 {p j : Nat} {x1 : Int32} {x2 : Int32} {x3 : Int32} {x4 : Int32} {s0 : Int32} {M : St} (hp : xno2 p j [(14, some 12), (14, some 20), (14, some 21), (14, some 22), (15, none), (19, none)] = true) : (f_X11_loadMany_48 x1 x2 x3 x4 s0 M) p j = M p j := by
  unfold f_X11_loadMany_48
  exact ((g_X11_loadMany_53 (x2_sub hp (by decide)) _ _ _ _ _ _ _ _).trans rfl)
theorem g_X11_loadMany_27 {p j : Nat} {x1 : Int32} {x2 : Int32} {x3 : Int32} {x4 : Int32} {M : St} (hp : xno2 p j [(14, some 12), (14, some 20), (14, some 21), (14, some 22), (15, none), (19, none)] = true) : (f_X11_loadMany_27 x1 x2 x3 x4 M) p j = M p j := by
  unfold f_X11_loadMany_27
  exact (ite2_s (fun _ => ((g_X11_loadMany_48 (x2_sub hp (by decide))).trans rfl)) (fun _ => ((g_X11_loadMany_48 (x2_sub hp (by decide))).trans rfl)))
theorem g_X11_loadMany {p j : Nat} {a1 : Int32} {a2 : Int32} {M : St} (hp : xno2 p j [(14, some 12), (14, some 20), (14, some 21), (14, some 22), (14, some 25), (14, some 26), (15, none), (19, none)] = true) : (f_X11_loadMany a1 a2 M) p j = M p j := by
  unfold f_X11_loadMany
  exact (xb2_ps ((g_X11_fetch (x2_sub hp (by decide))).trans rfl) (fun q1 hq1 => (ite2_s (fun _ => ((g_X11_loadMany_27 (x2_sub hp (by decide))).trans hq1)) (fun _ => (xb2_ss ((g_X11_find (x2_sub hp (by decide))).trans hq1) (fun q6 hq6 => ((g_X11_loadMany_27 (x2_sub hp (by decide))).trans hq6)))))))
theorem g_X11_pull {p j : Nat} {a1 : Int32} {M : St} (hp : xno2 p j [(14, some 12), (14, some 20), (14, some 21), (14, some 22), (15, some 15), (19, none)] = true) : (f_X11_pull a1 M).2 p j = M p j := by
  unfold f_X11_pull
  exact (xb2_pp ((g_X11_read (x2_sub hp (by decide))).trans rfl) (fun q1 hq1 => ((xup_o2 (x2_field 15 15 hp (by decide))).trans hq1)))
theorem g_X11_rest_120 {p j : Nat} {x1 : Int32} {M : St} (hp : xno2 p j [(14, some 23)] = true) : (f_X11_rest_120 x1 M) p j = M p j := by
  unfold f_X11_rest_120
  exact (ite2_s (fun _ => (ite2_s (fun _ => rfl) (fun _ => ((xup_o2 (x2_field 14 23 hp (by decide))).trans rfl)))) (fun _ => rfl))
theorem g_X11_rest_102 {p j : Nat} {x1 : Int32} {M : St} (hp : xno2 p j [(14, some 12), (14, some 20), (14, some 21), (14, some 22), (14, some 23), (15, some 15), (15, some 17), (19, none)] = true) : (f_X11_rest_102 x1 M) p j = M p j := by
  unfold f_X11_rest_102
  exact (ite2_s (fun _ => (xb2_ps ((g_X11_pull (x2_sub hp (by decide))).trans rfl) (fun q32 hq32 => ((g_X11_rest_120 (x2_sub hp (by decide))).trans ((xup_o2 (x2_field 15 17 hp (by decide))).trans hq32))))) (fun _ => ((g_X11_rest_120 (x2_sub hp (by decide))).trans rfl)))
theorem g_X11_rest_94 {p j : Nat} {x1 : Int32} {x3 : Int32} {M : St} (hp : xno2 p j [(14, some 12), (14, some 20), (14, some 21), (14, some 22), (14, some 23), (15, some 15), (15, some 17), (19, none)] = true) : (f_X11_rest_94 x1 x3 M) p j = M p j := by
  unfold f_X11_rest_94
  exact ((g_X11_rest_102 (x2_sub hp (by decide))).trans ((xup_o2 (x2_field 15 17 hp (by decide))).trans rfl))
theorem g_X11_rest_52 {p j : Nat} {x1 : Int32} {M : St} (hp : xno2 p j [(14, some 2), (14, some 12), (14, some 20), (14, some 21), (14, some 22), (14, some 23), (15, some 15), (15, some 16), (15, some 17), (19, none)] = true) : (f_X11_rest_52 x1 M) p j = M p j := by
  unfold f_X11_rest_52
  exact (xb2_ps ((g_X11_pull (x2_sub hp (by decide))).trans rfl) (fun q17 hq17 => (xb2_ps ((g_X11_pull (x2_sub hp (by decide))).trans hq17) (fun q20 hq20 => (ite2_s (fun _ => (xb2_ss ((g_X11_setStatus (x2_sub hp (by decide))).trans hq20) (fun q27 hq27 => ((g_X11_rest_94 (x2_sub hp (by decide))).trans hq27)))) (fun _ => ((g_X11_rest_94 (x2_sub hp (by decide))).trans ((xup_o2 (x2_field 14 2 hp (by decide))).trans hq20))))))))
theorem g_X11_rest_40 {p j : Nat} {x1 : Int32} {M : St} (hp : xno2 p j [(14, some 2), (14, some 12), (14, some 20), (14, some 21), (14, some 22), (14, some 23), (15, some 15), (15, some 16), (15, some 17), (19, none)] = true) : (f_X11_rest_40 x1 M) p j = M p j := by
  unfold f_X11_rest_40
  exact (ite2_s (fun _ => ((g_X11_rest_52 (x2_sub hp (by decide))).trans rfl)) (fun _ => (ite2_s (fun _ => ((g_X11_rest_52 (x2_sub hp (by decide))).trans rfl)) (fun _ => ((g_X11_rest_102 (x2_sub hp (by decide))).trans rfl)))))
theorem g_X11_rest_21 {p j : Nat} {x1 : Int32} {M : St} (hp : xno2 p j [(14, some 2), (14, some 12), (14, some 20), (14, some 21), (14, some 22), (14, some 23), (14, some 24), (15, none), (19, none)] = true) : (f_X11_rest_21 x1 M) p j = M p j := by
  unfold f_X11_rest_21
  exact (ite2_s (fun _ => (xb2_ps ((g_X11_fetch (x2_sub hp (by decide))).trans rfl) (fun q6 hq6 => (xb2_ss ((g_X11_setStatus (x2_sub hp (by decide))).trans hq6) (fun q9 hq9 => ((g_X11_rest_40 (x2_sub hp (by decide))).trans ((xup_o2 (x2_field 14 24 hp (by decide))).trans hq9))))))) (fun _ => ((g_X11_rest_40 (x2_sub hp (by decide))).trans rfl)))
theorem g_X11_rest {p j : Nat} {a1 : Int32} {M : St} (hp : xno2 p j [(14, some 2), (14, some 9), (14, some 10), (14, some 11), (14, some 12), (14, some 20), (14, some 21), (14, some 22), (14, some 23), (14, some 24), (15, none), (19, none)] = true) : (f_X11_rest a1 M) p j = M p j := by
  unfold f_X11_rest
  exact (ite2_s (fun _ => ((g_X11_rest_21 (x2_sub hp (by decide))).trans ((xup_o2 (x2_field 14 11 hp (by decide))).trans ((xup_o2 (x2_field 14 10 hp (by decide))).trans ((xup_o2 (x2_field 14 9 hp (by decide))).trans rfl))))) (fun _ => ((g_X11_rest_21 (x2_sub hp (by decide))).trans rfl)))
theorem g_X11_system_52 {p j : Nat} {x1 : Int32} {M : St} (hp : xno2 p j [(14, some 23)] = true) : (f_X11_system_52 x1 M) p j = M p j := by
  unfold f_X11_system_52
  exact ((xup_o2 (x2_field 14 23 hp (by decide))).trans rfl)
theorem g_X11_system {p j : Nat} {a1 : Int32} {M : St} (hp : xno2 p j [(14, some 2), (14, some 9), (14, some 10), (14, some 11), (14, some 12), (14, some 14), (14, some 20), (14, some 21), (14, some 22), (14, some 23), (14, some 24), (15, none), (18, none), (19, none), (20, none)] = true) : (f_X11_system a1 M) p j = M p j := by
  unfold f_X11_system
  exact (ite2_s (fun _ => ((g_X11_system_52 (x2_sub hp (by decide))).trans rfl)) (fun _ => (ite2_s (fun _ => ((g_X11_system_52 (x2_sub hp (by decide))).trans rfl)) (fun _ => (ite2_s (fun _ => (xb2_ps ((g_X11_fetch (x2_sub hp (by decide))).trans rfl) (fun q7 hq7 => (xb2_ss ((g_X11_push (x2_sub hp (by decide))).trans hq7) (fun q10 hq10 => ((xup_o2 (Or.inl (x2_place 15 hp (by decide)))).trans ((xup_o2 (Or.inl (x2_place 15 hp (by decide)))).trans hq10))))))) (fun _ => (ite2_s (fun _ => (xb2_ps ((g_X11_pull (x2_sub hp (by decide))).trans ((xup_o2 (Or.inl (x2_place 15 hp (by decide)))).trans rfl)) (fun q17 hq17 => ((xup_o2 (Or.inl (x2_place 15 hp (by decide)))).trans hq17)))) (fun _ => (ite2_s (fun _ => ((xup_o2 (Or.inl (x2_place 15 hp (by decide)))).trans rfl)) (fun _ => (ite2_s (fun _ => ((xup_o2 (Or.inl (x2_place 15 hp (by decide)))).trans rfl)) (fun _ => (xb2_ss ((g_X11_rest (x2_sub hp (by decide))).trans rfl) (fun q27 hq27 => hq27))))))))))))))
theorem g_X11_three_386 {p j : Nat} {x2 : Int32} {M : St} (hp : xno2 p j [(14, some 2), (14, some 9), (14, some 10), (14, some 11), (14, some 12), (14, some 14), (14, some 20), (14, some 21), (14, some 22), (14, some 23), (14, some 24), (15, none), (18, none), (19, none), (20, none)] = true) : (f_X11_three_386 x2 M) p j = M p j := by
  unfold f_X11_three_386
  exact (xb2_ss ((g_X11_system (x2_sub hp (by decide))).trans rfl) (fun q81 hq81 => hq81))
theorem g_X11_three_324 {p j : Nat} {x1 : Int32} {x2 : Int32} {M : St} (hp : xno2 p j [(14, some 2), (14, some 9), (14, some 10), (14, some 11), (14, some 12), (14, some 14), (14, some 20), (14, some 21), (14, some 22), (14, some 25), (14, some 26), (15, none), (18, none), (19, none), (20, none)] = true) : (f_X11_three_324 x1 x2 M) p j = M p j := by
  unfold f_X11_three_324
  exact (xb2_ss ((g_X11_extendOrStore (x2_sub hp (by decide))).trans rfl) (fun q84 hq84 => hq84))
theorem g_X11_three_336 {p j : Nat} {x1 : Int32} {x2 : Int32} {M : St} (hp : xno2 p j [(14, some 12), (14, some 20), (14, some 21), (14, some 22), (14, some 25), (14, some 26), (15, none), (19, none)] = true) : (f_X11_three_336 x1 x2 M) p j = M p j := by
  unfold f_X11_three_336
  exact (xb2_ss ((g_X11_loadMany (x2_sub hp (by decide))).trans rfl) (fun q87 hq87 => hq87))
theorem g_X11_three_372 {p j : Nat} {M : St} (hp : xno2 p j [(15, some 17)] = true) : (f_X11_three_372 M) p j = M p j := by
  unfold f_X11_three_372
  exact ((xup_o2 (x2_field 15 17 hp (by decide))).trans rfl)
theorem g_X11_three_348 {p j : Nat} {x1 : Int32} {x2 : Int32} {M : St} (hp : xno2 p j [(14, some 9), (14, some 10), (14, some 11), (14, some 12), (14, some 14), (14, some 20), (14, some 21), (14, some 22), (14, some 25), (14, some 26), (15, none), (18, none), (19, none), (20, none)] = true) : (f_X11_three_348 x1 x2 M) p j = M p j := by
  unfold f_X11_three_348
  exact (xb2_ss ((g_X11_find (x2_sub hp (by decide))).trans rfl) (fun q90 hq90 => (ite2_s (fun _ => (xb2_ss ((g_X11_push (x2_sub hp (by decide))).trans hq90) (fun q95 hq95 => ((g_X11_three_372 (x2_sub hp (by decide))).trans hq95)))) (fun _ => ((g_X11_three_372 (x2_sub hp (by decide))).trans hq90)))))
theorem g_X11_three_25 {p j : Nat} {x1 : Int32} {x2 : Int32} {M : St} (hp : xno2 p j [(14, some 2), (14, some 9), (14, some 10), (14, some 11), (14, some 12), (14, some 14), (14, some 20), (14, some 21), (14, some 22), (14, some 23), (14, some 24), (14, some 25), (14, some 26), (15, none), (18, none), (19, none), (20, none)] = true) : (f_X11_three_25 x1 x2 M) p j = M p j := by
  unfold f_X11_three_25
  exact (ite2_s (fun _ => (xb2_ss ((g_X11_find (x2_sub hp (by decide))).trans rfl) (fun q11 hq11 => (xb2_ss ((g_X11_store (x2_sub hp (by decide))).trans hq11) (fun q14 hq14 => hq14))))) (fun _ => (ite2_s (fun _ => ((g_X11_three_386 (x2_sub hp (by decide))).trans rfl)) (fun _ => (ite2_s (fun _ => ((g_X11_three_386 (x2_sub hp (by decide))).trans rfl)) (fun _ => (ite2_s (fun _ => ((g_X11_three_386 (x2_sub hp (by decide))).trans rfl)) (fun _ => (ite2_s (fun _ => (xb2_ps ((g_X11_loadAt (x2_sub hp (by decide))).trans rfl) (fun q21 hq21 => ((xup_o2 (x2_field 14 2 hp (by decide))).trans hq21)))) (fun _ => (ite2_s (fun _ => ((g_X11_three_386 (x2_sub hp (by decide))).trans rfl)) (fun _ => (ite2_s (fun _ => ((g_X11_three_386 (x2_sub hp (by decide))).trans rfl)) (fun _ => (ite2_s (fun _ => ((g_X11_three_386 (x2_sub hp (by decide))).trans rfl)) (fun _ => (ite2_s (fun _ => (xb2_ps ((g_X11_loadAt (x2_sub hp (by decide))).trans rfl) (fun q29 hq29 => (xb2_ss ((g_X11_setStatus (x2_sub hp (by decide))).trans hq29) (fun q32 hq32 => hq32))))) (fun _ => (ite2_s (fun _ => ((g_X11_three_386 (x2_sub hp (by decide))).trans rfl)) (fun _ => (ite2_s (fun _ => ((g_X11_three_386 (x2_sub hp (by decide))).trans rfl)) (fun _ => (ite2_s (fun _ => ((g_X11_three_386 (x2_sub hp (by decide))).trans rfl)) (fun _ => (ite2_s (fun _ => (xb2_ps ((g_X11_loadAt (x2_sub hp (by decide))).trans rfl) (fun q39 hq39 => (xb2_ps ((g_X11_tens (x2_sub hp (by decide))).trans hq39) (fun q42 hq42 => (xb2_ss ((g_X11_store (x2_sub hp (by decide))).trans hq42) (fun q45 hq45 => hq45))))))) (fun _ => (ite2_s (fun _ => ((g_X11_three_386 (x2_sub hp (by decide))).trans rfl)) (fun _ => (ite2_s (fun _ => ((g_X11_three_386 (x2_sub hp (by decide))).trans rfl)) (fun _ => (ite2_s (fun _ => ((g_X11_three_386 (x2_sub hp (by decide))).trans rfl)) (fun _ => (ite2_s (fun _ => (xb2_ps ((g_X11_loadAt (x2_sub hp (by decide))).trans rfl) (fun q52 hq52 => (xb2_ss ((g_X11_test (x2_sub hp (by decide))).trans hq52) (fun q55 hq55 => (xb2_ss ((g_X11_store (x2_sub hp (by decide))).trans hq55) (fun q58 hq58 => hq58))))))) (fun _ => (ite2_s (fun _ => (xb2_ss ((g_X11_find (x2_sub hp (by decide))).trans rfl) (fun q62 hq62 => (ite2_s (fun _ => (xb2_ss ((g_X11_push (x2_sub hp (by decide))).trans hq62) (fun q71 hq71 => hq71))) (fun _ => (xb2_ss ((g_X11_test (x2_sub hp (by decide))).trans ((xup_o2 (Or.inl (x2_place 15 hp (by decide)))).trans hq62)) (fun q67 hq67 => hq67))))))) (fun _ => (ite2_s (fun _ => ((g_X11_three_324 (x2_sub hp (by decide))).trans rfl)) (fun _ => (ite2_s (fun _ => ((g_X11_three_324 (x2_sub hp (by decide))).trans rfl)) (fun _ => (ite2_s (fun _ => ((g_X11_three_386 (x2_sub hp (by decide))).trans rfl)) (fun _ => (ite2_s (fun _ => ((g_X11_three_336 (x2_sub hp (by decide))).trans rfl)) (fun _ => (ite2_s (fun _ => ((g_X11_three_336 (x2_sub hp (by decide))).trans rfl)) (fun _ => (ite2_s (fun _ => ((g_X11_three_348 (x2_sub hp (by decide))).trans rfl)) (fun _ => (ite2_s (fun _ => ((g_X11_three_348 (x2_sub hp (by decide))).trans rfl)) (fun _ => ((g_X11_three_386 (x2_sub hp (by decide))).trans rfl)))))))))))))))))))))))))))))))))))))))))))))))))))
theorem g_X11_three {p j : Nat} {a1 : Int32} {a2 : Int32} {M : St} (hp : xno2 p j [(14, some 2), (14, some 9), (14, some 10), (14, some 11), (14, some 12), (14, some 14), (14, some 20), (14, some 21), (14, some 22), (14, some 23), (14, some 24), (14, some 25), (14, some 26), (15, none), (18, none), (19, none), (20, none)] = true) : (f_X11_three a1 a2 M) p j = M p j := by
  unfold f_X11_three
  exact (ite2_s (fun _ => ((g_X11_three_25 (x2_sub hp (by decide))).trans rfl)) (fun _ => (ite2_s (fun _ => ((g_X11_three_25 (x2_sub hp (by decide))).trans rfl)) (fun _ => (xb2_ss ((g_X11_one (x2_sub hp (by decide))).trans rfl) (fun q7 hq7 => hq7))))))
theorem g_X11_addOrTake_75 {p j : Nat} {s0 : Int32} {s1 : Int32} {M : St} (hp : xno2 p j [(15, none)] = true) : (f_X11_addOrTake_75 s0 s1 M) p j = M p j := by
  unfold f_X11_addOrTake_75
  exact ((xup_o2 (Or.inl (x2_place 15 hp (by decide)))).trans rfl)
theorem g_X11_addOrTake_30 {p j : Nat} {x3 : Int32} {x5 : Int32} {s0 : Int32} {s1 : Int32} {M : St} (hp : xno2 p j [(15, none)] = true) : (f_X11_addOrTake_30 x3 x5 s0 s1 M) p j = M p j := by
  unfold f_X11_addOrTake_30
  exact (ite2_s (fun _ => ((g_X11_addOrTake_75 (x2_sub hp (by decide))).trans rfl)) (fun _ => ((g_X11_addOrTake_75 (x2_sub hp (by decide))).trans rfl)))
theorem g_X11_addOrTake_17 {p j : Nat} {x3 : Int32} {x4 : Int32} {x5 : Int32} {s0 : Int32} {s1 : Int32} {M : St} (hp : xno2 p j [(14, some 12), (14, some 20), (14, some 21), (14, some 22), (14, some 25), (14, some 26), (15, none), (19, none)] = true) : (f_X11_addOrTake_17 x3 x4 x5 s0 s1 M) p j = M p j := by
  unfold f_X11_addOrTake_17
  exact (xb2_ps ((g_X11_loadAt (x2_sub hp (by decide))).trans rfl) (fun q49 hq49 => (ite2_s (fun _ => ((g_X11_addOrTake_30 (x2_sub hp (by decide))).trans hq49)) (fun _ => ((g_X11_addOrTake_30 (x2_sub hp (by decide))).trans hq49)))))
theorem g_X11_addOrTake {p j : Nat} {a1 : Int32} {a2 : Int32} {a3 : Int32} {a4 : Int32} {a5 : Int32} {M : St} (hp : xno2 p j [(14, some 2), (14, some 9), (14, some 10), (14, some 11), (14, some 12), (14, some 14), (14, some 20), (14, some 21), (14, some 22), (14, some 25), (14, some 26), (15, none), (18, none), (19, none), (20, none)] = true) : (f_X11_addOrTake a1 a2 a3 a4 a5 M) p j = M p j := by
  unfold f_X11_addOrTake
  exact (ite2_s (fun _ => (ite2_s (fun _ => ((g_X11_addOrTake_17 (x2_sub hp (by decide))).trans rfl)) (fun _ => ((g_X11_addOrTake_17 (x2_sub hp (by decide))).trans rfl)))) (fun _ => (ite2_s (fun _ => (xb2_ps ((g_X11_loadAt (x2_sub hp (by decide))).trans rfl) (fun q37 hq37 => (xb2_ps ((g_X11_sum (x2_sub hp (by decide))).trans hq37) (fun q40 hq40 => (xb2_ss ((g_X11_keepIn (x2_sub hp (by decide))).trans hq40) (fun q43 hq43 => hq43))))))) (fun _ => (ite2_s (fun _ => (ite2_s (fun _ => (xb2_ps ((g_X11_loadAt (x2_sub hp (by decide))).trans rfl) (fun q7 hq7 => (xb2_ps ((g_X11_sum (x2_sub hp (by decide))).trans hq7) (fun q10 hq10 => (xb2_ss ((g_X11_store (x2_sub hp (by decide))).trans hq10) (fun q13 hq13 => hq13))))))) (fun _ => (xb2_ps ((g_X11_loadAt (x2_sub hp (by decide))).trans rfl) (fun q17 hq17 => (xb2_ps ((g_X11_loadAt (x2_sub hp (by decide))).trans hq17) (fun q20 hq20 => (xb2_ps ((g_X11_sum (x2_sub hp (by decide))).trans hq20) (fun q23 hq23 => (xb2_ss ((g_X11_store (x2_sub hp (by decide))).trans hq23) (fun q26 hq26 => hq26))))))))))) (fun _ => (xb2_ps ((g_X11_sum (x2_sub hp (by decide))).trans rfl) (fun q30 hq30 => (xb2_ss ((g_X11_keepIn (x2_sub hp (by decide))).trans hq30) (fun q33 hq33 => hq33))))))))))
theorem g_X11_compare_35 {p j : Nat} {x3 : Int32} {s0 : Int32} {s1 : Int32} {s2 : Int32} {M : St} (hp : xno2 p j [(14, some 2)] = true) : (f_X11_compare_35 x3 s0 s1 s2 M) p j = M p j := by
  unfold f_X11_compare_35
  exact (xb2_ps ((g_X11_sum (x2_sub hp (by decide))).trans rfl) (fun q41 hq41 => hq41))
theorem g_X11_compare_22 {p j : Nat} {x3 : Int32} {x4 : Int32} {s0 : Int32} {s1 : Int32} {s3 : Int32} {M : St} (hp : xno2 p j [(14, some 2), (14, some 12), (14, some 20), (14, some 21), (14, some 22), (14, some 25), (14, some 26), (15, none), (19, none)] = true) : (f_X11_compare_22 x3 x4 s0 s1 s3 M) p j = M p j := by
  unfold f_X11_compare_22
  exact (xb2_ps ((g_X11_loadAt (x2_sub hp (by decide))).trans rfl) (fun q33 hq33 => (ite2_s (fun _ => ((g_X11_compare_35 (x2_sub hp (by decide))).trans hq33)) (fun _ => ((g_X11_compare_35 (x2_sub hp (by decide))).trans hq33)))))
theorem g_X11_compare {p j : Nat} {a1 : Int32} {a2 : Int32} {a3 : Int32} {a4 : Int32} {M : St} (hp : xno2 p j [(14, some 2), (14, some 9), (14, some 10), (14, some 11), (14, some 12), (14, some 14), (14, some 20), (14, some 21), (14, some 22), (14, some 25), (14, some 26), (15, none), (18, none), (19, none), (20, none)] = true) : (f_X11_compare a1 a2 a3 a4 M) p j = M p j := by
  unfold f_X11_compare
  exact (ite2_s (fun _ => (ite2_s (fun _ => ((g_X11_compare_22 (x2_sub hp (by decide))).trans rfl)) (fun _ => ((g_X11_compare_22 (x2_sub hp (by decide))).trans rfl)))) (fun _ => (ite2_s (fun _ => (xb2_ps ((g_X11_loadAt (x2_sub hp (by decide))).trans rfl) (fun q24 hq24 => (xb2_ps ((g_X11_sum (x2_sub hp (by decide))).trans hq24) (fun q27 hq27 => hq27))))) (fun _ => (ite2_s (fun _ => (xb2_ps ((g_X11_loadAt (x2_sub hp (by decide))).trans rfl) (fun q14 hq14 => (xb2_ps ((g_X11_loadAt (x2_sub hp (by decide))).trans hq14) (fun q17 hq17 => (xb2_ps ((g_X11_sum (x2_sub hp (by decide))).trans hq17) (fun q20 hq20 => hq20))))))) (fun _ => (xb2_ps ((g_X11_loadAt (x2_sub hp (by decide))).trans rfl) (fun q4 hq4 => (xb2_ss ((g_X11_store (x2_sub hp (by decide))).trans hq4) (fun q7 hq7 => (xb2_ss ((g_X11_test (x2_sub hp (by decide))).trans hq7) (fun q10 hq10 => hq10))))))))))))
theorem g_X11_divide {p j : Nat} {a1 : Int32} {a2 : Int64} {a3 : Int32} {a4 : Int32} {M : St} (hp : xno2 p j [(14, some 2), (14, some 23), (15, none)] = true) : (f_X11_divide a1 a2 a3 a4 M) p j = M p j := by
  unfold f_X11_divide
  exact (ite2_s (fun _ => (ite2_s (fun _ => ((xup_o2 (x2_field 14 23 hp (by decide))).trans rfl)) (fun _ => (ite2_s (fun _ => (ite2_s (fun _ => (xb2_ss ((g_X11_flag (x2_sub hp (by decide))).trans rfl) (fun q9 hq9 => (xb2_ss ((g_X11_flag (x2_sub hp (by decide))).trans hq9) (fun q12 hq12 => hq12))))) (fun _ => (xb2_ss ((g_X11_test (x2_sub hp (by decide))).trans ((xup_o2 (Or.inl (x2_place 15 hp (by decide)))).trans rfl)) (fun q18 hq18 => hq18))))) (fun _ => (ite2_s (fun _ => (xb2_ss ((g_X11_flag (x2_sub hp (by decide))).trans rfl) (fun q24 hq24 => (xb2_ss ((g_X11_flag (x2_sub hp (by decide))).trans hq24) (fun q27 hq27 => hq27))))) (fun _ => (ite2_s (fun _ => (xb2_ss ((g_X11_flag (x2_sub hp (by decide))).trans rfl) (fun q34 hq34 => (xb2_ss ((g_X11_flag (x2_sub hp (by decide))).trans hq34) (fun q37 hq37 => hq37))))) (fun _ => (xb2_ss ((g_X11_test (x2_sub hp (by decide))).trans ((xup_o2 (Or.inl (x2_place 15 hp (by decide)))).trans rfl)) (fun q43 hq43 => hq43))))))))))) (fun _ => rfl))
theorem g_X11_inTens {p j : Nat} {a1 : Int32} {a2 : Int32} {a3 : Int32} {M : St} (hp : xno2 p j [(14, some 2), (14, some 9), (14, some 10), (14, some 11), (14, some 12), (14, some 14), (14, some 20), (14, some 21), (14, some 22), (14, some 25), (14, some 26), (15, none), (18, none), (19, none), (20, none)] = true) : (f_X11_inTens a1 a2 a3 M) p j = M p j := by
  unfold f_X11_inTens
  exact (ite2_s (fun _ => (xb2_ps ((g_X11_loadAt (x2_sub hp (by decide))).trans rfl) (fun q3 hq3 => (xb2_ps ((g_X11_loadAt (x2_sub hp (by decide))).trans hq3) (fun q6 hq6 => (xb2_ps ((g_X11_tens (x2_sub hp (by decide))).trans hq6) (fun q9 hq9 => (xb2_ss ((g_X11_store (x2_sub hp (by decide))).trans hq9) (fun q12 hq12 => hq12))))))))) (fun _ => (xb2_ps ((g_X11_tens (x2_sub hp (by decide))).trans rfl) (fun q16 hq16 => (xb2_ss ((g_X11_keepIn (x2_sub hp (by decide))).trans hq16) (fun q19 hq19 => hq19))))))
theorem g_X11_exchange {p j : Nat} {a1 : Int32} {a2 : Int32} {M : St} (hp : xno2 p j [(15, none)] = true) : (f_X11_exchange a1 a2 M) p j = M p j := by
  unfold f_X11_exchange
  exact ((xup_o2 (Or.inl (x2_place 15 hp (by decide)))).trans ((xup_o2 (Or.inl (x2_place 15 hp (by decide)))).trans rfl))
theorem g_X11_logic_264 {p j : Nat} {x2 : Int32} {x7 : Int32} {M : St} (hp : xno2 p j [(14, some 2)] = true) : (f_X11_logic_264 x2 x7 M) p j = M p j := by
  unfold f_X11_logic_264
  exact (xb2_ss ((g_X11_test (x2_sub hp (by decide))).trans rfl) (fun q61 hq61 => hq61))
theorem g_X11_logic_239 {p j : Nat} {x2 : Int32} {x3 : Int32} {x4 : Int32} {s0 : Int32} {M : St} (hp : xno2 p j [(14, some 2), (14, some 9), (14, some 10), (14, some 11), (14, some 14), (14, some 20), (14, some 21), (14, some 22), (15, none), (18, none), (20, none)] = true) : (f_X11_logic_239 x2 x3 x4 s0 M) p j = M p j := by
  unfold f_X11_logic_239
  exact (ite2_s (fun _ => (xb2_ss ((g_X11_keepIn (x2_sub hp (by decide))).trans rfl) (fun q49 hq49 => ((g_X11_logic_264 (x2_sub hp (by decide))).trans hq49)))) (fun _ => (xb2_ss ((g_X11_store (x2_sub hp (by decide))).trans rfl) (fun q52 hq52 => ((g_X11_logic_264 (x2_sub hp (by decide))).trans hq52)))))
theorem g_X11_logic_205 {p j : Nat} {x1 : Int32} {x2 : Int32} {x3 : Int32} {x4 : Int32} {x5 : Int32} {M : St} (hp : xno2 p j [(14, some 2), (14, some 9), (14, some 10), (14, some 11), (14, some 12), (14, some 14), (14, some 20), (14, some 21), (14, some 22), (14, some 25), (14, some 26), (15, none), (18, none), (19, none), (20, none)] = true) : (f_X11_logic_205 x1 x2 x3 x4 x5 M) p j = M p j := by
  unfold f_X11_logic_205
  exact (xb2_ps ((g_X11_loadAt (x2_sub hp (by decide))).trans rfl) (fun q26 hq26 => (ite2_s (fun _ => ((g_X11_logic_239 (x2_sub hp (by decide))).trans hq26)) (fun _ => ((g_X11_logic_239 (x2_sub hp (by decide))).trans hq26)))))
theorem g_X11_logic_201 {p j : Nat} {s0 : Int32} {s1 : Int32} {M : St} (hp : xno2 p j [(15, none)] = true) : (f_X11_logic_201 s0 s1 M) p j = M p j := by
  unfold f_X11_logic_201
  exact (xb2_ss ((g_X11_exchange (x2_sub hp (by decide))).trans rfl) (fun q55 hq55 => hq55))
theorem g_X11_logic_194 {p j : Nat} {x1 : Int32} {s0 : Int32} {M : St} (hp : xno2 p j [(15, none)] = true) : (f_X11_logic_194 x1 s0 M) p j = M p j := by
  unfold f_X11_logic_194
  exact ((g_X11_logic_201 (x2_sub hp (by decide))).trans rfl)
theorem g_X11_logic_179 {p j : Nat} {x1 : Int32} {x2 : Int32} {s0 : Int32} {M : St} (hp : xno2 p j [(15, none)] = true) : (f_X11_logic_179 x1 x2 s0 M) p j = M p j := by
  unfold f_X11_logic_179
  exact (ite2_s (fun _ => (ite2_s (fun _ => ((g_X11_logic_194 (x2_sub hp (by decide))).trans rfl)) (fun _ => ((g_X11_logic_201 (x2_sub hp (by decide))).trans rfl)))) (fun _ => ((g_X11_logic_194 (x2_sub hp (by decide))).trans rfl)))
theorem g_X11_logic_166 {p j : Nat} {x1 : Int32} {x2 : Int32} {x3 : Int32} {M : St} (hp : xno2 p j [(15, none)] = true) : (f_X11_logic_166 x1 x2 x3 M) p j = M p j := by
  unfold f_X11_logic_166
  exact (ite2_s (fun _ => ((g_X11_logic_179 (x2_sub hp (by decide))).trans rfl)) (fun _ => ((g_X11_logic_179 (x2_sub hp (by decide))).trans rfl)))
theorem g_X11_logic_144 {p j : Nat} {s0 : Int32} {s1 : Int32} {s2 : Int32} {M : St} (hp : xno2 p j [(14, some 2), (14, some 9), (14, some 10), (14, some 11), (14, some 12), (14, some 14), (14, some 20), (14, some 21), (14, some 22), (14, some 25), (14, some 26), (15, none), (18, none), (19, none), (20, none)] = true) : (f_X11_logic_144 s0 s1 s2 M) p j = M p j := by
  unfold f_X11_logic_144
  exact (xb2_ss ((g_X11_inTens (x2_sub hp (by decide))).trans rfl) (fun q38 hq38 => hq38))
theorem g_X11_logic_110 {p j : Nat} {x4 : Int32} {s0 : Int32} {s1 : Int64} {s2 : Int32} {M : St} (hp : xno2 p j [(14, some 2), (14, some 23), (15, none)] = true) : (f_X11_logic_110 x4 s0 s1 s2 M) p j = M p j := by
  unfold f_X11_logic_110
  exact (xb2_ss ((g_X11_divide (x2_sub hp (by decide))).trans rfl) (fun q58 hq58 => hq58))
theorem g_X11_logic_97 {p j : Nat} {x4 : Int32} {x6 : Int32} {s0 : Int64} {s1 : Int32} {M : St} (hp : xno2 p j [(14, some 2), (14, some 23), (15, none)] = true) : (f_X11_logic_97 x4 x6 s0 s1 M) p j = M p j := by
  unfold f_X11_logic_97
  exact (ite2_s (fun _ => ((g_X11_logic_110 (x2_sub hp (by decide))).trans rfl)) (fun _ => ((g_X11_logic_110 (x2_sub hp (by decide))).trans rfl)))
theorem g_X11_logic_54 {p j : Nat} {x3 : Int32} {s0 : Int32} {s1 : Int32} {M : St} (hp : xno2 p j [(14, some 2), (15, none)] = true) : (f_X11_logic_54 x3 s0 s1 M) p j = M p j := by
  unfold f_X11_logic_54
  exact (xb2_ss ((g_X11_test (x2_sub hp (by decide))).trans ((xup_o2 (Or.inl (x2_place 15 hp (by decide)))).trans rfl)) (fun q44 hq44 => hq44))
theorem g_X11_logic {p j : Nat} {a1 : Int32} {a2 : Int32} {a3 : Int32} {a4 : Int32} {a5 : Int32} {M : St} (hp : xno2 p j [(14, some 2), (14, some 9), (14, some 10), (14, some 11), (14, some 12), (14, some 14), (14, some 20), (14, some 21), (14, some 22), (14, some 23), (14, some 25), (14, some 26), (15, none), (18, none), (19, none), (20, none)] = true) : (f_X11_logic a1 a2 a3 a4 a5 M) p j = M p j := by
  unfold f_X11_logic
  exact (ite2_s (fun _ => (xb2_ps ((g_X11_loadAt (x2_sub hp (by decide))).trans rfl) (fun q17 hq17 => (ite2_s (fun _ => (ite2_s (fun _ => ((g_X11_logic_97 (x2_sub hp (by decide))).trans hq17)) (fun _ => ((g_X11_logic_97 (x2_sub hp (by decide))).trans hq17)))) (fun _ => (ite2_s (fun _ => ((g_X11_logic_54 (x2_sub hp (by decide))).trans hq17)) (fun _ => ((g_X11_logic_54 (x2_sub hp (by decide))).trans hq17)))))))) (fun _ => (ite2_s (fun _ => ((g_X11_logic_205 (x2_sub hp (by decide))).trans rfl)) (fun _ => (ite2_s (fun _ => ((g_X11_logic_205 (x2_sub hp (by decide))).trans rfl)) (fun _ => (ite2_s (fun _ => (ite2_s (fun _ => ((g_X11_logic_144 (x2_sub hp (by decide))).trans rfl)) (fun _ => ((g_X11_logic_144 (x2_sub hp (by decide))).trans rfl)))) (fun _ => (ite2_s (fun _ => (ite2_s (fun _ => ((g_X11_logic_166 (x2_sub hp (by decide))).trans rfl)) (fun _ => ((g_X11_logic_179 (x2_sub hp (by decide))).trans rfl)))) (fun _ => ((g_X11_logic_166 (x2_sub hp (by decide))).trans rfl)))))))))))
theorem g_X11_quick_142 {p j : Nat} {s0 : Int32} {s1 : Int32} {M : St} (hp : xno2 p j [(14, some 9), (14, some 10), (14, some 11), (14, some 14), (14, some 20), (14, some 21), (14, some 22), (15, none), (18, none), (20, none)] = true) : (f_X11_quick_142 s0 s1 M) p j = M p j := by
  unfold f_X11_quick_142
  exact (xb2_ss ((g_X11_store (x2_sub hp (by decide))).trans rfl) (fun q50 hq50 => hq50))
theorem g_X11_quick_109 {p j : Nat} {x1 : Int32} {s0 : Int32} {s1 : Int32} {M : St} (hp : xno2 p j [(14, some 9), (14, some 10), (14, some 11), (14, some 12), (14, some 14), (14, some 20), (14, some 21), (14, some 22), (14, some 25), (14, some 26), (15, none), (18, none), (19, none), (20, none)] = true) : (f_X11_quick_109 x1 s0 s1 M) p j = M p j := by
  unfold f_X11_quick_109
  exact (ite2_s (fun _ => (xb2_ps ((g_X11_fetch (x2_sub hp (by decide))).trans rfl) (fun q30 hq30 => (ite2_s (fun _ => (xb2_ss ((g_X11_keepIn (x2_sub hp (by decide))).trans hq30) (fun q35 hq35 => (ite2_s (fun _ => hq35) (fun _ => ((xup_o2 (Or.inl (x2_place 15 hp (by decide)))).trans hq35)))))) (fun _ => hq30))))) (fun _ => (xb2_ss ((g_X11_find (x2_sub hp (by decide))).trans rfl) (fun q43 hq43 => (ite2_s (fun _ => ((g_X11_quick_142 (x2_sub hp (by decide))).trans hq43)) (fun _ => ((g_X11_quick_142 (x2_sub hp (by decide))).trans hq43)))))))
theorem g_X11_quick_70 {p j : Nat} {s0 : Int32} {s1 : Int32} {M : St} (hp : xno2 p j [(15, none)] = true) : (f_X11_quick_70 s0 s1 M) p j = M p j := by
  unfold f_X11_quick_70
  exact ((xup_o2 (Or.inl (x2_place 15 hp (by decide)))).trans rfl)
theorem g_X11_quick_10 {p j : Nat} {x1 : Int32} {x2 : Int32} {x3 : Int32} {x4 : Int32} {s0 : Int32} {M : St} (hp : xno2 p j [(14, some 2), (14, some 9), (14, some 10), (14, some 11), (14, some 12), (14, some 14), (14, some 20), (14, some 21), (14, some 22), (14, some 25), (14, some 26), (15, none), (18, none), (19, none), (20, none)] = true) : (f_X11_quick_10 x1 x2 x3 x4 s0 M) p j = M p j := by
  unfold f_X11_quick_10
  exact (ite2_s (fun _ => (ite2_s (fun _ => ((g_X11_quick_109 (x2_sub hp (by decide))).trans rfl)) (fun _ => ((g_X11_quick_109 (x2_sub hp (by decide))).trans rfl)))) (fun _ => (xb2_ss ((g_X11_find (x2_sub hp (by decide))).trans rfl) (fun q9 hq9 => (ite2_s (fun _ => (ite2_s (fun _ => ((g_X11_quick_70 (x2_sub hp (by decide))).trans hq9)) (fun _ => ((g_X11_quick_70 (x2_sub hp (by decide))).trans hq9)))) (fun _ => (xb2_ps ((g_X11_load (x2_sub hp (by decide))).trans hq9) (fun q13 hq13 => (xb2_ps ((g_X11_sum (x2_sub hp (by decide))).trans hq13) (fun q16 hq16 => (xb2_ss ((g_X11_store (x2_sub hp (by decide))).trans hq16) (fun q19 hq19 => hq19))))))))))))
theorem g_X11_quick {p j : Nat} {a1 : Int32} {a2 : Int32} {a3 : Int32} {a4 : Int32} {M : St} (hp : xno2 p j [(14, some 2), (14, some 9), (14, some 10), (14, some 11), (14, some 12), (14, some 14), (14, some 20), (14, some 21), (14, some 22), (14, some 25), (14, some 26), (15, none), (18, none), (19, none), (20, none)] = true) : (f_X11_quick a1 a2 a3 a4 M) p j = M p j := by
  unfold f_X11_quick
  exact (ite2_s (fun _ => ((g_X11_quick_10 (x2_sub hp (by decide))).trans rfl)) (fun _ => ((g_X11_quick_10 (x2_sub hp (by decide))).trans rfl)))
theorem g_X11_branch_69 {p j : Nat} {x2 : Int32} {x3 : Int32} {M : St} (hp : xno2 p j [(15, some 17)] = true) : (f_X11_branch_69 x2 x3 M) p j = M p j := by
  unfold f_X11_branch_69
  exact ((xup_o2 (x2_field 15 17 hp (by decide))).trans rfl)
theorem g_X11_branch_54 {p j : Nat} {x2 : Int32} {x3 : Int32} {x4 : Int32} {M : St} (hp : xno2 p j [(15, some 17)] = true) : (f_X11_branch_54 x2 x3 x4 M) p j = M p j := by
  unfold f_X11_branch_54
  exact (ite2_s (fun _ => ((g_X11_branch_69 (x2_sub hp (by decide))).trans rfl)) (fun _ => (ite2_s (fun _ => rfl) (fun _ => ((g_X11_branch_69 (x2_sub hp (by decide))).trans rfl)))))
theorem g_X11_branch_26 {p j : Nat} {x1 : Int32} {x2 : Int32} {s0 : Int32} {M : St} (hp : xno2 p j [(14, some 9), (14, some 10), (14, some 11), (14, some 14), (14, some 20), (14, some 21), (14, some 22), (15, some 15), (15, some 17), (18, none), (20, none)] = true) : (f_X11_branch_26 x1 x2 s0 M) p j = M p j := by
  unfold f_X11_branch_26
  exact (ite2_s (fun _ => (xb2_ss ((g_X11_push (x2_sub hp (by decide))).trans rfl) (fun q9 hq9 => ((g_X11_branch_54 (x2_sub hp (by decide))).trans hq9)))) (fun _ => ((g_X11_branch_54 (x2_sub hp (by decide))).trans rfl)))
theorem g_X11_branch {p j : Nat} {a1 : Int32} {M : St} (hp : xno2 p j [(14, some 9), (14, some 10), (14, some 11), (14, some 12), (14, some 14), (14, some 20), (14, some 21), (14, some 22), (15, none), (18, none), (19, none), (20, none)] = true) : (f_X11_branch a1 M) p j = M p j := by
  unfold f_X11_branch
  exact (ite2_s (fun _ => (xb2_ps ((g_X11_fetch (x2_sub hp (by decide))).trans rfl) (fun q3 hq3 => ((g_X11_branch_26 (x2_sub hp (by decide))).trans hq3)))) (fun _ => ((g_X11_branch_26 (x2_sub hp (by decide))).trans rfl)))
theorem g_X11_peripheral_105 {p j : Nat} {rec : Int32 → Int32 → Int32 → Int32 → Int32 → Int32 → St → St} {x2 : Int32} {x3 : Int32} {x4 : Int32} {x5 : Int32} {x6 : Int32} {x7 : Int32} {M : St} (hp : xno2 p j [] = true) (hrec : ∀ (y0 : Int32) (y1 : Int32) (y2 : Int32) (y3 : Int32) (y4 : Int32) (y5 : Int32) (N : St), (rec y0 y1 y2 y3 y4 y5 N) p j = N p j) : (f_X11_peripheral_105 rec x2 x3 x4 x5 x6 x7 M) p j = M p j := by
  unfold f_X11_peripheral_105
  exact ((hrec _ _ _ _ _ _ _).trans rfl)
theorem g_X11_peripheral_36 {p j : Nat} (hp : xno2 p j [(14, some 9), (14, some 10), (14, some 11), (14, some 12), (14, some 14), (14, some 20), (14, some 21), (14, some 22), (15, none), (18, none), (19, none), (20, none)] = true) : ∀ (n : Nat) (x2 : Int32) (x3 : Int32) (x4 : Int32) (x5 : Int32) (x6 : Int32) (x7 : Int32) (M : St), (f_X11_peripheral_36 n x2 x3 x4 x5 x6 x7 M) p j = M p j := by
  intro n
  induction n with
  | zero => intros; rfl
  | succ n ih =>
    intro x2 x3 x4 x5 x6 x7 M
    unfold f_X11_peripheral_36
    exact (ite2_s (fun _ => (ite2_s (fun _ => rfl) (fun _ => (xb2_ss ((g_X11_keepIn (x2_sub hp (by decide))).trans rfl) (fun q11 hq11 => hq11))))) (fun _ => (ite2_s (fun _ => (xb2_ss ((g_X11_write (x2_sub hp (by decide))).trans rfl) (fun q18 hq18 => ((g_X11_peripheral_105 (x2_sub hp (by decide)) ih).trans hq18)))) (fun _ => (xb2_ps ((g_X11_read (x2_sub hp (by decide))).trans rfl) (fun q22 hq22 => ((g_X11_peripheral_105 (x2_sub hp (by decide)) ih).trans hq22)))))))
theorem g_X11_peripheral_28 {p j : Nat} {x2 : Int32} {x3 : Int32} {x4 : Int32} {s0 : Int32} {M : St} (hp : xno2 p j [(14, some 9), (14, some 10), (14, some 11), (14, some 12), (14, some 14), (14, some 20), (14, some 21), (14, some 22), (15, none), (18, none), (19, none), (20, none)] = true) : (f_X11_peripheral_28 x2 x3 x4 s0 M) p j = M p j := by
  unfold f_X11_peripheral_28
  exact ((g_X11_peripheral_36 (x2_sub hp (by decide)) _ _ _ _ _ _ _ _).trans rfl)
theorem g_X11_peripheral {p j : Nat} {a1 : Int32} {a2 : Int32} {a3 : Int32} {M : St} (hp : xno2 p j [(14, some 9), (14, some 10), (14, some 11), (14, some 12), (14, some 14), (14, some 20), (14, some 21), (14, some 22), (15, none), (18, none), (19, none), (20, none)] = true) : (f_X11_peripheral a1 a2 a3 M) p j = M p j := by
  unfold f_X11_peripheral
  exact (xb2_ps ((g_X11_fetch (x2_sub hp (by decide))).trans rfl) (fun q1 hq1 => (ite2_s (fun _ => ((g_X11_peripheral_28 (x2_sub hp (by decide))).trans hq1)) (fun _ => ((g_X11_peripheral_28 (x2_sub hp (by decide))).trans hq1)))))
theorem g_X11_bits_101 {p j : Nat} {s0 : Int32} {s1 : Int32} {M : St} (hp : xno2 p j [(14, some 9), (14, some 10), (14, some 11), (14, some 14), (14, some 20), (14, some 21), (14, some 22), (15, none), (18, none), (20, none)] = true) : (f_X11_bits_101 s0 s1 M) p j = M p j := by
  unfold f_X11_bits_101
  exact (xb2_ss ((g_X11_store (x2_sub hp (by decide))).trans rfl) (fun q24 hq24 => hq24))
theorem g_X11_bits_58 {p j : Nat} {x2 : Int32} {x4 : Int32} {x5 : Int32} {x6 : Int32} {s0 : Int32} {s1 : Int32} {M : St} (hp : xno2 p j [(14, some 2), (14, some 9), (14, some 10), (14, some 11), (14, some 14), (14, some 20), (14, some 21), (14, some 22), (15, none), (18, none), (20, none)] = true) : (f_X11_bits_58 x2 x4 x5 x6 s0 s1 M) p j = M p j := by
  unfold f_X11_bits_58
  exact (xb2_ss ((g_X11_flag (x2_sub hp (by decide))).trans rfl) (fun q12 hq12 => (ite2_s (fun _ => hq12) (fun _ => (ite2_s (fun _ => ((g_X11_bits_101 (x2_sub hp (by decide))).trans hq12)) (fun _ => (ite2_s (fun _ => ((g_X11_bits_101 (x2_sub hp (by decide))).trans hq12)) (fun _ => ((g_X11_bits_101 (x2_sub hp (by decide))).trans hq12)))))))))
theorem g_X11_bits_31 {p j : Nat} {x1 : Int32} {x2 : Int32} {x4 : Int32} {s0 : Int32} {s1 : Int32} {M : St} (hp : xno2 p j [(14, some 2), (14, some 9), (14, some 10), (14, some 11), (14, some 12), (14, some 14), (14, some 20), (14, some 21), (14, some 22), (14, some 25), (14, some 26), (15, none), (18, none), (19, none), (20, none)] = true) : (f_X11_bits_31 x1 x2 x4 s0 s1 M) p j = M p j := by
  unfold f_X11_bits_31
  exact (xb2_ps ((g_X11_loadAt (x2_sub hp (by decide))).trans rfl) (fun q7 hq7 => (ite2_s (fun _ => ((g_X11_bits_58 (x2_sub hp (by decide))).trans hq7)) (fun _ => ((g_X11_bits_58 (x2_sub hp (by decide))).trans hq7)))))
theorem g_X11_bits_11 {p j : Nat} {x1 : Int32} {x2 : Int32} {x3 : Int32} {s0 : Int32} {M : St} (hp : xno2 p j [(14, some 2), (14, some 9), (14, some 10), (14, some 11), (14, some 12), (14, some 14), (14, some 20), (14, some 21), (14, some 22), (14, some 25), (14, some 26), (15, none), (18, none), (19, none), (20, none)] = true) : (f_X11_bits_11 x1 x2 x3 s0 M) p j = M p j := by
  unfold f_X11_bits_11
  exact (ite2_s (fun _ => ((g_X11_bits_31 (x2_sub hp (by decide))).trans rfl)) (fun _ => ((g_X11_bits_31 (x2_sub hp (by decide))).trans rfl)))
theorem g_X11_bits {p j : Nat} {a1 : Int32} {a2 : Int32} {a3 : Int32} {M : St} (hp : xno2 p j [(14, some 2), (14, some 9), (14, some 10), (14, some 11), (14, some 12), (14, some 14), (14, some 20), (14, some 21), (14, some 22), (14, some 25), (14, some 26), (15, none), (18, none), (19, none), (20, none)] = true) : (f_X11_bits a1 a2 a3 M) p j = M p j := by
  unfold f_X11_bits
  exact (ite2_s (fun _ => ((g_X11_bits_11 (x2_sub hp (by decide))).trans rfl)) (fun _ => ((g_X11_bits_11 (x2_sub hp (by decide))).trans rfl)))
theorem g_X11_twelve_54 {p j : Nat} {s0 : Int32} {s1 : Int32} {s2 : Int32} {M : St} (hp : xno2 p j [(14, some 2), (14, some 9), (14, some 10), (14, some 11), (14, some 12), (14, some 14), (14, some 20), (14, some 21), (14, some 22), (14, some 25), (14, some 26), (15, none), (18, none), (19, none), (20, none)] = true) : (f_X11_twelve_54 s0 s1 s2 M) p j = M p j := by
  unfold f_X11_twelve_54
  exact (xb2_ss ((g_X11_bits (x2_sub hp (by decide))).trans rfl) (fun q52 hq52 => hq52))
theorem g_X11_twelve_33 {p j : Nat} {x1 : Int32} {x2 : Int32} {x3 : Int32} {x4 : Int32} {M : St} (hp : xno2 p j [(14, some 2), (14, some 9), (14, some 10), (14, some 11), (14, some 12), (14, some 14), (14, some 20), (14, some 21), (14, some 22), (14, some 25), (14, some 26), (15, none), (18, none), (19, none), (20, none)] = true) : (f_X11_twelve_33 x1 x2 x3 x4 M) p j = M p j := by
  unfold f_X11_twelve_33
  exact (ite2_s (fun _ => (xb2_ps ((g_X11_fetch (x2_sub hp (by decide))).trans rfl) (fun q20 hq20 => ((g_X11_twelve_54 (x2_sub hp (by decide))).trans hq20)))) (fun _ => ((g_X11_twelve_54 (x2_sub hp (by decide))).trans rfl)))
theorem g_X11_twelve_239 {p j : Nat} {s0 : Int32} {s1 : Int32} {s2 : Int32} {s3 : Int32} {s5 : Int32} {M : St} (hp : xno2 p j [(14, some 2), (14, some 9), (14, some 10), (14, some 11), (14, some 14), (14, some 20), (14, some 21), (14, some 22), (15, none), (18, none), (20, none)] = true) : (f_X11_twelve_239 s0 s1 s2 s3 s5 M) p j = M p j := by
  unfold f_X11_twelve_239
  exact (xb2_ps ((g_X11_sum (x2_sub hp (by decide))).trans rfl) (fun q66 hq66 => (xb2_ss ((g_X11_store (x2_sub hp (by decide))).trans hq66) (fun q69 hq69 => hq69))))
theorem g_X11_twelve_221 {p j : Nat} {x2 : Int32} {x3 : Int32} {x5 : Int32} {x6 : Int32} {M : St} (hp : xno2 p j [(14, some 2), (14, some 9), (14, some 10), (14, some 11), (14, some 14), (14, some 20), (14, some 21), (14, some 22), (15, none), (18, none), (20, none)] = true) : (f_X11_twelve_221 x2 x3 x5 x6 M) p j = M p j := by
  unfold f_X11_twelve_221
  exact (ite2_s (fun _ => ((g_X11_twelve_239 (x2_sub hp (by decide))).trans rfl)) (fun _ => ((g_X11_twelve_239 (x2_sub hp (by decide))).trans rfl)))
theorem g_X11_twelve_279 {p j : Nat} {x2 : Int32} {s0 : Int32} {M : St} (hp : xno2 p j [(14, some 2), (14, some 9), (14, some 10), (14, some 11), (14, some 14), (14, some 20), (14, some 21), (14, some 22), (15, none), (18, none), (20, none)] = true) : (f_X11_twelve_279 x2 s0 M) p j = M p j := by
  unfold f_X11_twelve_279
  exact (xb2_ss ((g_X11_store (x2_sub hp (by decide))).trans rfl) (fun q58 hq58 => (xb2_ss ((g_X11_test (x2_sub hp (by decide))).trans hq58) (fun q61 hq61 => hq61))))
theorem g_X11_twelve_151 {p j : Nat} {x2 : Int32} {s0 : Int32} {M : St} (hp : xno2 p j [(14, some 2), (15, some 15), (15, some 16)] = true) : (f_X11_twelve_151 x2 s0 M) p j = M p j := by
  unfold f_X11_twelve_151
  exact (ite2_s (fun _ => ((xup_o2 (x2_field 14 2 hp (by decide))).trans rfl)) (fun _ => (xb2_ss ((g_X11_setStatus (x2_sub hp (by decide))).trans rfl) (fun q79 hq79 => hq79))))
theorem g_X11_twelve_119 {p j : Nat} {x2 : Int32} {x3 : Int32} {x6 : Int32} {s0 : Int32} {M : St} (hp : xno2 p j [(14, some 2), (15, some 15), (15, some 16)] = true) : (f_X11_twelve_119 x2 x3 x6 s0 M) p j = M p j := by
  unfold f_X11_twelve_119
  exact (ite2_s (fun _ => ((g_X11_twelve_151 (x2_sub hp (by decide))).trans rfl)) (fun _ => (ite2_s (fun _ => ((g_X11_twelve_151 (x2_sub hp (by decide))).trans rfl)) (fun _ => ((g_X11_twelve_151 (x2_sub hp (by decide))).trans rfl)))))
theorem g_X11_twelve_103 {p j : Nat} {x2 : Int32} {x3 : Int32} {x5 : Int32} {s0 : Int32} {M : St} (hp : xno2 p j [(14, some 2), (15, some 15), (15, some 16)] = true) : (f_X11_twelve_103 x2 x3 x5 s0 M) p j = M p j := by
  unfold f_X11_twelve_103
  exact (ite2_s (fun _ => ((g_X11_twelve_119 (x2_sub hp (by decide))).trans rfl)) (fun _ => ((g_X11_twelve_119 (x2_sub hp (by decide))).trans rfl)))
theorem g_X11_twelve_72 {p j : Nat} {x1 : Int32} {x2 : Int32} {x3 : Int32} {s0 : Int32} {M : St} (hp : xno2 p j [(14, some 2), (14, some 9), (14, some 10), (14, some 11), (14, some 12), (14, some 14), (14, some 20), (14, some 21), (14, some 22), (14, some 25), (14, some 26), (15, none), (18, none), (19, none), (20, none)] = true) : (f_X11_twelve_72 x1 x2 x3 s0 M) p j = M p j := by
  unfold f_X11_twelve_72
  exact (xb2_ps ((g_X11_number (x2_sub hp (by decide))).trans rfl) (fun q23 hq23 => (ite2_s (fun _ => (xb2_ps ((g_X11_loadAt (x2_sub hp (by decide))).trans hq23) (fun q31 hq31 => (ite2_s (fun _ => (xb2_ps ((g_X11_sum (x2_sub hp (by decide))).trans hq31) (fun q46 hq46 => hq46))) (fun _ => (ite2_s (fun _ => ((g_X11_twelve_221 (x2_sub hp (by decide))).trans hq31)) (fun _ => (ite2_s (fun _ => ((g_X11_twelve_221 (x2_sub hp (by decide))).trans hq31)) (fun _ => (ite2_s (fun _ => ((g_X11_twelve_279 (x2_sub hp (by decide))).trans hq31)) (fun _ => (ite2_s (fun _ => ((g_X11_twelve_279 (x2_sub hp (by decide))).trans hq31)) (fun _ => ((g_X11_twelve_279 (x2_sub hp (by decide))).trans hq31)))))))))))))) (fun _ => (ite2_s (fun _ => ((g_X11_twelve_103 (x2_sub hp (by decide))).trans hq23)) (fun _ => ((g_X11_twelve_103 (x2_sub hp (by decide))).trans hq23)))))))
theorem g_X11_twelve_23 {p j : Nat} {x1 : Int32} {x2 : Int32} {x3 : Int32} {x4 : Int32} {M : St} (hp : xno2 p j [(14, some 2), (14, some 9), (14, some 10), (14, some 11), (14, some 12), (14, some 14), (14, some 20), (14, some 21), (14, some 22), (14, some 25), (14, some 26), (15, none), (18, none), (19, none), (20, none)] = true) : (f_X11_twelve_23 x1 x2 x3 x4 M) p j = M p j := by
  unfold f_X11_twelve_23
  exact (ite2_s (fun _ => (ite2_s (fun _ => ((g_X11_twelve_33 (x2_sub hp (by decide))).trans rfl)) (fun _ => (ite2_s (fun _ => ((g_X11_twelve_72 (x2_sub hp (by decide))).trans rfl)) (fun _ => ((g_X11_twelve_72 (x2_sub hp (by decide))).trans rfl)))))) (fun _ => ((g_X11_twelve_33 (x2_sub hp (by decide))).trans rfl)))
theorem g_X11_twelve {p j : Nat} {a1 : Int32} {a2 : Int32} {a3 : Int32} {a4 : Int32} {M : St} (hp : xno2 p j [(14, some 2), (14, some 9), (14, some 10), (14, some 11), (14, some 12), (14, some 14), (14, some 20), (14, some 21), (14, some 22), (14, some 25), (14, some 26), (15, none), (18, none), (19, none), (20, none)] = true) : (f_X11_twelve a1 a2 a3 a4 M) p j = M p j := by
  unfold f_X11_twelve
  exact (ite2_s (fun _ => ((g_X11_twelve_23 (x2_sub hp (by decide))).trans rfl)) (fun _ => (ite2_s (fun _ => (xb2_ss ((g_X11_peripheral (x2_sub hp (by decide))).trans rfl) (fun q5 hq5 => hq5))) (fun _ => ((g_X11_twelve_23 (x2_sub hp (by decide))).trans rfl)))))
theorem g_X11_shifted_295 {p j : Nat} {x6 : Int32} {s0 : Int32} {s1 : Int32} {M : St} (hp : xno2 p j [(14, some 2)] = true) : (f_X11_shifted_295 x6 s0 s1 M).2 p j = M p j := by
  unfold f_X11_shifted_295
  exact (xb2_sp ((g_X11_flag (x2_sub hp (by decide))).trans rfl) (fun q36 hq36 => hq36))
theorem g_X11_shifted_294 {p j : Nat} {x6 : Int32} {s0 : Int32} {M : St} (hp : xno2 p j [(14, some 2)] = true) : (f_X11_shifted_294 x6 s0 M).2 p j = M p j := by
  unfold f_X11_shifted_294
  exact ((g_X11_shifted_295 (x2_sub hp (by decide))).trans rfl)
theorem g_X11_shifted_254 {p j : Nat} {rec : Int32 → Int32 → Int32 → Int32 → Int32 → Int32 → Int32 → Int32 → Int32 → St → Int32 × St} {x2 : Int32} {x3 : Int32} {x4 : Int32} {x5 : Int32} {x6 : Int32} {x7 : Int32} {x8 : Int32} {x9 : Int32} {x10 : Int32} {M : St} (hp : xno2 p j [] = true) (hrec : ∀ (y0 : Int32) (y1 : Int32) (y2 : Int32) (y3 : Int32) (y4 : Int32) (y5 : Int32) (y6 : Int32) (y7 : Int32) (y8 : Int32) (N : St), (rec y0 y1 y2 y3 y4 y5 y6 y7 y8 N).2 p j = N p j) : (f_X11_shifted_254 rec x2 x3 x4 x5 x6 x7 x8 x9 x10 M).2 p j = M p j := by
  unfold f_X11_shifted_254
  exact ((hrec _ _ _ _ _ _ _ _ _ _).trans rfl)
theorem g_X11_shifted_239 {p j : Nat} {rec : Int32 → Int32 → Int32 → Int32 → Int32 → Int32 → Int32 → Int32 → Int32 → St → Int32 × St} {x2 : Int32} {x3 : Int32} {x4 : Int32} {x5 : Int32} {x6 : Int32} {x7 : Int32} {x8 : Int32} {x10 : Int32} {s0 : Int32} {M : St} (hp : xno2 p j [(14, some 2)] = true) (hrec : ∀ (y0 : Int32) (y1 : Int32) (y2 : Int32) (y3 : Int32) (y4 : Int32) (y5 : Int32) (y6 : Int32) (y7 : Int32) (y8 : Int32) (N : St), (rec y0 y1 y2 y3 y4 y5 y6 y7 y8 N).2 p j = N p j) : (f_X11_shifted_239 rec x2 x3 x4 x5 x6 x7 x8 x10 s0 M).2 p j = M p j := by
  unfold f_X11_shifted_239
  exact (ite2_p (fun _ => ((g_X11_shifted_254 (x2_sub hp (by decide)) hrec).trans rfl)) (fun _ => (xb2_sp ((g_X11_flag (x2_sub hp (by decide))).trans rfl) (fun q80 hq80 => ((g_X11_shifted_254 (x2_sub hp (by decide)) hrec).trans hq80)))))
theorem g_X11_shifted_234 {p j : Nat} {rec : Int32 → Int32 → Int32 → Int32 → Int32 → Int32 → Int32 → Int32 → Int32 → St → Int32 × St} {x2 : Int32} {x3 : Int32} {x4 : Int32} {x5 : Int32} {x6 : Int32} {x7 : Int32} {x8 : Int32} {x10 : Int32} {M : St} (hp : xno2 p j [(14, some 2)] = true) (hrec : ∀ (y0 : Int32) (y1 : Int32) (y2 : Int32) (y3 : Int32) (y4 : Int32) (y5 : Int32) (y6 : Int32) (y7 : Int32) (y8 : Int32) (N : St), (rec y0 y1 y2 y3 y4 y5 y6 y7 y8 N).2 p j = N p j) : (f_X11_shifted_234 rec x2 x3 x4 x5 x6 x7 x8 x10 M).2 p j = M p j := by
  unfold f_X11_shifted_234
  exact ((g_X11_shifted_239 (x2_sub hp (by decide)) hrec).trans rfl)
theorem g_X11_shifted_229 {p j : Nat} {rec : Int32 → Int32 → Int32 → Int32 → Int32 → Int32 → Int32 → Int32 → Int32 → St → Int32 × St} {x2 : Int32} {x3 : Int32} {x4 : Int32} {x5 : Int32} {x6 : Int32} {x7 : Int32} {x8 : Int32} {x10 : Int32} {x11 : Int32} {s0 : Int32} {M : St} (hp : xno2 p j [(14, some 2)] = true) (hrec : ∀ (y0 : Int32) (y1 : Int32) (y2 : Int32) (y3 : Int32) (y4 : Int32) (y5 : Int32) (y6 : Int32) (y7 : Int32) (y8 : Int32) (N : St), (rec y0 y1 y2 y3 y4 y5 y6 y7 y8 N).2 p j = N p j) : (f_X11_shifted_229 rec x2 x3 x4 x5 x6 x7 x8 x10 x11 s0 M).2 p j = M p j := by
  unfold f_X11_shifted_229
  exact (ite2_p (fun _ => ((g_X11_shifted_239 (x2_sub hp (by decide)) hrec).trans rfl)) (fun _ => ((g_X11_shifted_234 (x2_sub hp (by decide)) hrec).trans rfl)))
theorem g_X11_shifted_209 {p j : Nat} {rec : Int32 → Int32 → Int32 → Int32 → Int32 → Int32 → Int32 → Int32 → Int32 → St → Int32 × St} {x2 : Int32} {x3 : Int32} {x4 : Int32} {x5 : Int32} {x7 : Int32} {x8 : Int32} {x9 : Int32} {x10 : Int32} {x11 : Int32} {s0 : Int32} {M : St} (hp : xno2 p j [(14, some 2)] = true) (hrec : ∀ (y0 : Int32) (y1 : Int32) (y2 : Int32) (y3 : Int32) (y4 : Int32) (y5 : Int32) (y6 : Int32) (y7 : Int32) (y8 : Int32) (N : St), (rec y0 y1 y2 y3 y4 y5 y6 y7 y8 N).2 p j = N p j) : (f_X11_shifted_209 rec x2 x3 x4 x5 x7 x8 x9 x10 x11 s0 M).2 p j = M p j := by
  unfold f_X11_shifted_209
  exact (ite2_p (fun _ => (ite2_p (fun _ => ((g_X11_shifted_229 (x2_sub hp (by decide)) hrec).trans rfl)) (fun _ => ((g_X11_shifted_229 (x2_sub hp (by decide)) hrec).trans rfl)))) (fun _ => ((g_X11_shifted_234 (x2_sub hp (by decide)) hrec).trans rfl)))
theorem g_X11_shifted_208 {p j : Nat} {rec : Int32 → Int32 → Int32 → Int32 → Int32 → Int32 → Int32 → Int32 → Int32 → St → Int32 × St} {x2 : Int32} {x3 : Int32} {x4 : Int32} {x5 : Int32} {x7 : Int32} {x8 : Int32} {x9 : Int32} {x10 : Int32} {x11 : Int32} {s0 : Int32} {s1 : Int32} {M : St} (hp : xno2 p j [(14, some 2)] = true) (hrec : ∀ (y0 : Int32) (y1 : Int32) (y2 : Int32) (y3 : Int32) (y4 : Int32) (y5 : Int32) (y6 : Int32) (y7 : Int32) (y8 : Int32) (N : St), (rec y0 y1 y2 y3 y4 y5 y6 y7 y8 N).2 p j = N p j) : (f_X11_shifted_208 rec x2 x3 x4 x5 x7 x8 x9 x10 x11 s0 s1 M).2 p j = M p j := by
  unfold f_X11_shifted_208
  exact ((g_X11_shifted_209 (x2_sub hp (by decide)) hrec).trans rfl)
theorem g_X11_shifted_179 {p j : Nat} {rec : Int32 → Int32 → Int32 → Int32 → Int32 → Int32 → Int32 → Int32 → Int32 → St → Int32 × St} {x2 : Int32} {x3 : Int32} {x4 : Int32} {x5 : Int32} {x7 : Int32} {x8 : Int32} {x9 : Int32} {x10 : Int32} {x11 : Int32} {s0 : Int32} {s1 : Int32} {M : St} (hp : xno2 p j [(14, some 2)] = true) (hrec : ∀ (y0 : Int32) (y1 : Int32) (y2 : Int32) (y3 : Int32) (y4 : Int32) (y5 : Int32) (y6 : Int32) (y7 : Int32) (y8 : Int32) (N : St), (rec y0 y1 y2 y3 y4 y5 y6 y7 y8 N).2 p j = N p j) : (f_X11_shifted_179 rec x2 x3 x4 x5 x7 x8 x9 x10 x11 s0 s1 M).2 p j = M p j := by
  unfold f_X11_shifted_179
  exact ((g_X11_shifted_209 (x2_sub hp (by decide)) hrec).trans rfl)
theorem g_X11_shifted_158 {p j : Nat} {rec : Int32 → Int32 → Int32 → Int32 → Int32 → Int32 → Int32 → Int32 → Int32 → St → Int32 × St} {x2 : Int32} {x3 : Int32} {x4 : Int32} {x5 : Int32} {x6 : Int32} {x7 : Int32} {x8 : Int32} {x9 : Int32} {x10 : Int32} {x11 : Int32} {s0 : Int32} {M : St} (hp : xno2 p j [(14, some 2)] = true) (hrec : ∀ (y0 : Int32) (y1 : Int32) (y2 : Int32) (y3 : Int32) (y4 : Int32) (y5 : Int32) (y6 : Int32) (y7 : Int32) (y8 : Int32) (N : St), (rec y0 y1 y2 y3 y4 y5 y6 y7 y8 N).2 p j = N p j) : (f_X11_shifted_158 rec x2 x3 x4 x5 x6 x7 x8 x9 x10 x11 s0 M).2 p j = M p j := by
  unfold f_X11_shifted_158
  exact (ite2_p (fun _ => (ite2_p (fun _ => ((g_X11_shifted_208 (x2_sub hp (by decide)) hrec).trans rfl)) (fun _ => ((g_X11_shifted_208 (x2_sub hp (by decide)) hrec).trans rfl)))) (fun _ => (ite2_p (fun _ => ((g_X11_shifted_179 (x2_sub hp (by decide)) hrec).trans rfl)) (fun _ => ((g_X11_shifted_179 (x2_sub hp (by decide)) hrec).trans rfl)))))
theorem g_X11_shifted_125 {p j : Nat} {rec : Int32 → Int32 → Int32 → Int32 → Int32 → Int32 → Int32 → Int32 → Int32 → St → Int32 × St} {x2 : Int32} {x3 : Int32} {x4 : Int32} {x5 : Int32} {x6 : Int32} {x7 : Int32} {x8 : Int32} {x9 : Int32} {x10 : Int32} {x11 : Int32} {M : St} (hp : xno2 p j [(14, some 2)] = true) (hrec : ∀ (y0 : Int32) (y1 : Int32) (y2 : Int32) (y3 : Int32) (y4 : Int32) (y5 : Int32) (y6 : Int32) (y7 : Int32) (y8 : Int32) (N : St), (rec y0 y1 y2 y3 y4 y5 y6 y7 y8 N).2 p j = N p j) : (f_X11_shifted_125 rec x2 x3 x4 x5 x6 x7 x8 x9 x10 x11 M).2 p j = M p j := by
  unfold f_X11_shifted_125
  exact ((g_X11_shifted_158 (x2_sub hp (by decide)) hrec).trans rfl)
theorem g_X11_shifted_157 {p j : Nat} {rec : Int32 → Int32 → Int32 → Int32 → Int32 → Int32 → Int32 → Int32 → Int32 → St → Int32 × St} {x2 : Int32} {x3 : Int32} {x4 : Int32} {x5 : Int32} {x6 : Int32} {x7 : Int32} {x8 : Int32} {x9 : Int32} {x10 : Int32} {x11 : Int32} {M : St} (hp : xno2 p j [(14, some 2)] = true) (hrec : ∀ (y0 : Int32) (y1 : Int32) (y2 : Int32) (y3 : Int32) (y4 : Int32) (y5 : Int32) (y6 : Int32) (y7 : Int32) (y8 : Int32) (N : St), (rec y0 y1 y2 y3 y4 y5 y6 y7 y8 N).2 p j = N p j) : (f_X11_shifted_157 rec x2 x3 x4 x5 x6 x7 x8 x9 x10 x11 M).2 p j = M p j := by
  unfold f_X11_shifted_157
  exact ((g_X11_shifted_158 (x2_sub hp (by decide)) hrec).trans rfl)
theorem g_X11_shifted_105 {p j : Nat} {rec : Int32 → Int32 → Int32 → Int32 → Int32 → Int32 → Int32 → Int32 → Int32 → St → Int32 × St} {x2 : Int32} {x3 : Int32} {x4 : Int32} {x5 : Int32} {x6 : Int32} {x7 : Int32} {x8 : Int32} {x9 : Int32} {x10 : Int32} {s0 : Int32} {M : St} (hp : xno2 p j [(14, some 2)] = true) (hrec : ∀ (y0 : Int32) (y1 : Int32) (y2 : Int32) (y3 : Int32) (y4 : Int32) (y5 : Int32) (y6 : Int32) (y7 : Int32) (y8 : Int32) (N : St), (rec y0 y1 y2 y3 y4 y5 y6 y7 y8 N).2 p j = N p j) : (f_X11_shifted_105 rec x2 x3 x4 x5 x6 x7 x8 x9 x10 s0 M).2 p j = M p j := by
  unfold f_X11_shifted_105
  exact (ite2_p (fun _ => (ite2_p (fun _ => (ite2_p (fun _ => ((g_X11_shifted_125 (x2_sub hp (by decide)) hrec).trans rfl)) (fun _ => ((g_X11_shifted_158 (x2_sub hp (by decide)) hrec).trans rfl)))) (fun _ => ((g_X11_shifted_125 (x2_sub hp (by decide)) hrec).trans rfl)))) (fun _ => (ite2_p (fun _ => ((g_X11_shifted_158 (x2_sub hp (by decide)) hrec).trans rfl)) (fun _ => (ite2_p (fun _ => (ite2_p (fun _ => ((g_X11_shifted_157 (x2_sub hp (by decide)) hrec).trans rfl)) (fun _ => ((g_X11_shifted_158 (x2_sub hp (by decide)) hrec).trans rfl)))) (fun _ => ((g_X11_shifted_157 (x2_sub hp (by decide)) hrec).trans rfl)))))))
theorem g_X11_shifted_90 {p j : Nat} {rec : Int32 → Int32 → Int32 → Int32 → Int32 → Int32 → Int32 → Int32 → Int32 → St → Int32 × St} {x2 : Int32} {x3 : Int32} {x4 : Int32} {x5 : Int32} {x6 : Int32} {x7 : Int32} {x9 : Int32} {x10 : Int32} {s0 : Int32} {M : St} (hp : xno2 p j [(14, some 2)] = true) (hrec : ∀ (y0 : Int32) (y1 : Int32) (y2 : Int32) (y3 : Int32) (y4 : Int32) (y5 : Int32) (y6 : Int32) (y7 : Int32) (y8 : Int32) (N : St), (rec y0 y1 y2 y3 y4 y5 y6 y7 y8 N).2 p j = N p j) : (f_X11_shifted_90 rec x2 x3 x4 x5 x6 x7 x9 x10 s0 M).2 p j = M p j := by
  unfold f_X11_shifted_90
  exact (ite2_p (fun _ => ((g_X11_shifted_105 (x2_sub hp (by decide)) hrec).trans rfl)) (fun _ => ((g_X11_shifted_105 (x2_sub hp (by decide)) hrec).trans rfl)))
theorem g_X11_shifted_81 {p j : Nat} {rec : Int32 → Int32 → Int32 → Int32 → Int32 → Int32 → Int32 → Int32 → Int32 → St → Int32 × St} {x2 : Int32} {x3 : Int32} {x4 : Int32} {x5 : Int32} {x6 : Int32} {x7 : Int32} {x9 : Int32} {x10 : Int32} {s0 : Int32} {s1 : Int32} {M : St} (hp : xno2 p j [(14, some 2)] = true) (hrec : ∀ (y0 : Int32) (y1 : Int32) (y2 : Int32) (y3 : Int32) (y4 : Int32) (y5 : Int32) (y6 : Int32) (y7 : Int32) (y8 : Int32) (N : St), (rec y0 y1 y2 y3 y4 y5 y6 y7 y8 N).2 p j = N p j) : (f_X11_shifted_81 rec x2 x3 x4 x5 x6 x7 x9 x10 s0 s1 M).2 p j = M p j := by
  unfold f_X11_shifted_81
  exact (ite2_p (fun _ => ((g_X11_shifted_90 (x2_sub hp (by decide)) hrec).trans rfl)) (fun _ => ((g_X11_shifted_90 (x2_sub hp (by decide)) hrec).trans rfl)))
theorem g_X11_shifted_61 {p j : Nat} (hp : xno2 p j [(14, some 2)] = true) : ∀ (n : Nat) (x2 : Int32) (x3 : Int32) (x4 : Int32) (x5 : Int32) (x6 : Int32) (x7 : Int32) (x8 : Int32) (x9 : Int32) (x10 : Int32) (M : St), (f_X11_shifted_61 n x2 x3 x4 x5 x6 x7 x8 x9 x10 M).2 p j = M p j := by
  intro n
  induction n with
  | zero => intros; rfl
  | succ n ih =>
    intro x2 x3 x4 x5 x6 x7 x8 x9 x10 M
    unfold f_X11_shifted_61
    exact (ite2_p (fun _ => (xb2_sp ((g_X11_test (x2_sub hp (by decide))).trans rfl) (fun q18 hq18 => (xb2_sp ((g_X11_flag (x2_sub hp (by decide))).trans hq18) (fun q21 hq21 => (ite2_p (fun _ => (ite2_p (fun _ => ((g_X11_shifted_294 (x2_sub hp (by decide))).trans hq21)) (fun _ => (ite2_p (fun _ => ((g_X11_shifted_294 (x2_sub hp (by decide))).trans hq21)) (fun _ => ((g_X11_shifted_295 (x2_sub hp (by decide))).trans hq21)))))) (fun _ => ((g_X11_shifted_294 (x2_sub hp (by decide))).trans hq21)))))))) (fun _ => (ite2_p (fun _ => ((g_X11_shifted_81 (x2_sub hp (by decide)) ih).trans rfl)) (fun _ => ((g_X11_shifted_81 (x2_sub hp (by decide)) ih).trans rfl)))))
theorem g_X11_shifted_53 {p j : Nat} {x2 : Int32} {x3 : Int32} {x4 : Int32} {x5 : Int32} {x6 : Int32} {x7 : Int32} {s0 : Int32} {M : St} (hp : xno2 p j [(14, some 2)] = true) : (f_X11_shifted_53 x2 x3 x4 x5 x6 x7 s0 M).2 p j = M p j := by
  unfold f_X11_shifted_53
  exact ((g_X11_shifted_61 (x2_sub hp (by decide)) _ _ _ _ _ _ _ _ _ _ _).trans rfl)
theorem g_X11_shifted_52 {p j : Nat} {x2 : Int32} {x3 : Int32} {x4 : Int32} {x5 : Int32} {x6 : Int32} {x7 : Int32} {M : St} (hp : xno2 p j [(14, some 2)] = true) : (f_X11_shifted_52 x2 x3 x4 x5 x6 x7 M).2 p j = M p j := by
  unfold f_X11_shifted_52
  exact ((g_X11_shifted_53 (x2_sub hp (by decide))).trans rfl)
theorem g_X11_shifted_27 {p j : Nat} {x2 : Int32} {x3 : Int32} {x4 : Int32} {x5 : Int32} {x6 : Int32} {s0 : Int32} {M : St} (hp : xno2 p j [(14, some 2)] = true) : (f_X11_shifted_27 x2 x3 x4 x5 x6 s0 M).2 p j = M p j := by
  unfold f_X11_shifted_27
  exact (ite2_p (fun _ => (ite2_p (fun _ => (ite2_p (fun _ => ((g_X11_shifted_52 (x2_sub hp (by decide))).trans rfl)) (fun _ => ((g_X11_shifted_53 (x2_sub hp (by decide))).trans rfl)))) (fun _ => ((g_X11_shifted_52 (x2_sub hp (by decide))).trans rfl)))) (fun _ => ((g_X11_shifted_52 (x2_sub hp (by decide))).trans rfl)))
theorem g_X11_shifted {p j : Nat} {a1 : Int32} {a2 : Int32} {a3 : Int32} {a4 : Int32} {a5 : Int32} {M : St} (hp : xno2 p j [(14, some 2)] = true) : (f_X11_shifted a1 a2 a3 a4 a5 M).2 p j = M p j := by
  unfold f_X11_shifted
  exact (ite2_p (fun _ => ((g_X11_shifted_27 (x2_sub hp (by decide))).trans rfl)) (fun _ => (ite2_p (fun _ => ((g_X11_shifted_27 (x2_sub hp (by decide))).trans rfl)) (fun _ => ((g_X11_shifted_27 (x2_sub hp (by decide))).trans rfl)))))
theorem g_X11_shifts_55 {p j : Nat} {x1 : Int32} {x2 : Int32} {x4 : Int32} {s0 : Int32} {M : St} (hp : xno2 p j [(14, some 2), (15, none)] = true) : (f_X11_shifts_55 x1 x2 x4 s0 M) p j = M p j := by
  unfold f_X11_shifts_55
  exact (xb2_ps ((g_X11_shifted (x2_sub hp (by decide))).trans rfl) (fun q20 hq20 => (xb2_ss ((g_X11_keepIn (x2_sub hp (by decide))).trans hq20) (fun q23 hq23 => hq23))))
theorem g_X11_shifts {p j : Nat} {a1 : Int32} {a2 : Int32} {a3 : Int32} {a4 : Int32} {M : St} (hp : xno2 p j [(14, some 2), (14, some 9), (14, some 10), (14, some 11), (14, some 12), (14, some 14), (14, some 20), (14, some 21), (14, some 22), (14, some 25), (14, some 26), (15, none), (18, none), (19, none), (20, none)] = true) : (f_X11_shifts a1 a2 a3 a4 M) p j = M p j := by
  unfold f_X11_shifts
  exact (ite2_s (fun _ => (xb2_ps ((g_X11_loadAt (x2_sub hp (by decide))).trans rfl) (fun q8 hq8 => (xb2_ps ((g_X11_shifted (x2_sub hp (by decide))).trans hq8) (fun q11 hq11 => (xb2_ss ((g_X11_store (x2_sub hp (by decide))).trans hq11) (fun q14 hq14 => hq14))))))) (fun _ => (ite2_s (fun _ => ((g_X11_shifts_55 (x2_sub hp (by decide))).trans rfl)) (fun _ => (ite2_s (fun _ => ((g_X11_shifts_55 (x2_sub hp (by decide))).trans rfl)) (fun _ => ((g_X11_shifts_55 (x2_sub hp (by decide))).trans rfl)))))))
theorem g_X11_fourteen_97 {p j : Nat} {s0 : Int32} {s1 : Int32} {M : St} (hp : xno2 p j [(14, some 2), (14, some 23)] = true) : (f_X11_fourteen_97 s0 s1 M) p j = M p j := by
  unfold f_X11_fourteen_97
  exact (xb2_ss ((g_X11_flag (x2_sub hp (by decide))).trans rfl) (fun q25 hq25 => ((xup_o2 (x2_field 14 23 hp (by decide))).trans hq25)))
theorem g_X11_fourteen_84 {p j : Nat} {x7 : Int32} {M : St} (hp : xno2 p j [(14, some 2), (14, some 23)] = true) : (f_X11_fourteen_84 x7 M) p j = M p j := by
  unfold f_X11_fourteen_84
  exact (ite2_s (fun _ => ((g_X11_fourteen_97 (x2_sub hp (by decide))).trans rfl)) (fun _ => ((g_X11_fourteen_97 (x2_sub hp (by decide))).trans rfl)))
theorem g_X11_fourteen {p j : Nat} {a1 : Int32} {a2 : Int32} {a3 : Int32} {a4 : Int32} {a5 : Int32} {M : St} (hp : xno2 p j [(14, some 2), (14, some 12), (14, some 20), (14, some 21), (14, some 22), (14, some 23), (14, some 25), (14, some 26), (15, none), (19, none)] = true) : (f_X11_fourteen a1 a2 a3 a4 a5 M) p j = M p j := by
  unfold f_X11_fourteen
  exact (ite2_s (fun _ => (xb2_ss ((g_X11_test (x2_sub hp (by decide))).trans ((xup_o2 (Or.inl (x2_place 15 hp (by decide)))).trans rfl)) (fun q19 hq19 => hq19))) (fun _ => (ite2_s (fun _ => (xb2_ss ((g_X11_find (x2_sub hp (by decide))).trans rfl) (fun q13 hq13 => ((xup_o2 (Or.inl (x2_place 15 hp (by decide)))).trans hq13)))) (fun _ => (xb2_ps ((g_X11_loadAt (x2_sub hp (by decide))).trans rfl) (fun q3 hq3 => (ite2_s (fun _ => ((g_X11_fourteen_84 (x2_sub hp (by decide))).trans hq3)) (fun _ => (ite2_s (fun _ => ((g_X11_fourteen_84 (x2_sub hp (by decide))).trans hq3)) (fun _ => hq3))))))))))
theorem g_X11_perform_112 {p j : Nat} {x1 : Int32} {x2 : Int32} {M : St} (hp : xno2 p j [(14, some 2), (14, some 9), (14, some 10), (14, some 11), (14, some 12), (14, some 14), (14, some 20), (14, some 21), (14, some 22), (14, some 25), (14, some 26), (15, none), (18, none), (19, none), (20, none)] = true) : (f_X11_perform_112 x1 x2 M) p j = M p j := by
  unfold f_X11_perform_112
  exact (xb2_ss ((g_X11_move (x2_sub hp (by decide))).trans rfl) (fun q36 hq36 => hq36))
theorem g_X11_perform_166 {p j : Nat} {s0 : Int32} {s1 : Int32} {s2 : Int32} {s3 : Int32} {s4 : Int32} {M : St} (hp : xno2 p j [(14, some 2), (14, some 9), (14, some 10), (14, some 11), (14, some 12), (14, some 14), (14, some 20), (14, some 21), (14, some 22), (14, some 25), (14, some 26), (15, none), (18, none), (19, none), (20, none)] = true) : (f_X11_perform_166 s0 s1 s2 s3 s4 M) p j = M p j := by
  unfold f_X11_perform_166
  exact (xb2_ss ((g_X11_addOrTake (x2_sub hp (by decide))).trans rfl) (fun q46 hq46 => hq46))
theorem g_X11_perform_146 {p j : Nat} {x1 : Int32} {x2 : Int32} {x3 : Int32} {x4 : Int32} {x5 : Int32} {M : St} (hp : xno2 p j [(14, some 2), (14, some 9), (14, some 10), (14, some 11), (14, some 12), (14, some 14), (14, some 20), (14, some 21), (14, some 22), (14, some 25), (14, some 26), (15, none), (18, none), (19, none), (20, none)] = true) : (f_X11_perform_146 x1 x2 x3 x4 x5 M) p j = M p j := by
  unfold f_X11_perform_146
  exact (ite2_s (fun _ => ((g_X11_perform_166 (x2_sub hp (by decide))).trans rfl)) (fun _ => ((g_X11_perform_166 (x2_sub hp (by decide))).trans rfl)))
theorem g_X11_perform_206 {p j : Nat} {s0 : Int32} {s1 : Int32} {s2 : Int32} {s3 : Int32} {s4 : Int32} {M : St} (hp : xno2 p j [(14, some 2), (14, some 9), (14, some 10), (14, some 11), (14, some 12), (14, some 14), (14, some 20), (14, some 21), (14, some 22), (14, some 23), (14, some 25), (14, some 26), (15, none), (18, none), (19, none), (20, none)] = true) : (f_X11_perform_206 s0 s1 s2 s3 s4 M) p j = M p j := by
  unfold f_X11_perform_206
  exact (xb2_ss ((g_X11_logic (x2_sub hp (by decide))).trans rfl) (fun q49 hq49 => hq49))
theorem g_X11_perform_185 {p j : Nat} {x1 : Int32} {x2 : Int32} {x3 : Int32} {x4 : Int32} {x5 : Int32} {M : St} (hp : xno2 p j [(14, some 2), (14, some 9), (14, some 10), (14, some 11), (14, some 12), (14, some 14), (14, some 20), (14, some 21), (14, some 22), (14, some 23), (14, some 25), (14, some 26), (15, none), (18, none), (19, none), (20, none)] = true) : (f_X11_perform_185 x1 x2 x3 x4 x5 M) p j = M p j := by
  unfold f_X11_perform_185
  exact (ite2_s (fun _ => ((g_X11_perform_206 (x2_sub hp (by decide))).trans rfl)) (fun _ => ((g_X11_perform_206 (x2_sub hp (by decide))).trans rfl)))
theorem g_X11_perform_259 {p j : Nat} {x1 : Int32} {x2 : Int32} {x3 : Int32} {x4 : Int32} {x5 : Int32} {M : St} (hp : xno2 p j [(14, some 2), (14, some 12), (14, some 20), (14, some 21), (14, some 22), (14, some 23), (14, some 25), (14, some 26), (15, none), (19, none)] = true) : (f_X11_perform_259 x1 x2 x3 x4 x5 M) p j = M p j := by
  unfold f_X11_perform_259
  exact (xb2_ss ((g_X11_fourteen (x2_sub hp (by decide))).trans rfl) (fun q43 hq43 => hq43))
theorem g_X11_perform_34 {p j : Nat} {x1 : Int32} {x2 : Int32} {x3 : Int32} {x4 : Int32} {s0 : Int32} {M : St} (hp : xno2 p j [(14, some 2), (14, some 9), (14, some 10), (14, some 11), (14, some 12), (14, some 14), (14, some 20), (14, some 21), (14, some 22), (14, some 23), (14, some 24), (14, some 25), (14, some 26), (15, none), (18, none), (19, none), (20, none)] = true) : (f_X11_perform_34 x1 x2 x3 x4 s0 M) p j = M p j := by
  unfold f_X11_perform_34
  exact (ite2_s (fun _ => ((g_X11_perform_112 (x2_sub hp (by decide))).trans rfl)) (fun _ => (ite2_s (fun _ => ((g_X11_perform_112 (x2_sub hp (by decide))).trans rfl)) (fun _ => (ite2_s (fun _ => ((g_X11_perform_112 (x2_sub hp (by decide))).trans rfl)) (fun _ => (ite2_s (fun _ => (xb2_ss ((g_X11_three (x2_sub hp (by decide))).trans rfl) (fun q8 hq8 => hq8))) (fun _ => (ite2_s (fun _ => ((g_X11_perform_146 (x2_sub hp (by decide))).trans rfl)) (fun _ => (ite2_s (fun _ => ((g_X11_perform_146 (x2_sub hp (by decide))).trans rfl)) (fun _ => (ite2_s (fun _ => (xb2_ss ((g_X11_compare (x2_sub hp (by decide))).trans rfl) (fun q14 hq14 => hq14))) (fun _ => (ite2_s (fun _ => ((g_X11_perform_185 (x2_sub hp (by decide))).trans rfl)) (fun _ => (ite2_s (fun _ => ((g_X11_perform_185 (x2_sub hp (by decide))).trans rfl)) (fun _ => (ite2_s (fun _ => (xb2_ss ((g_X11_quick (x2_sub hp (by decide))).trans rfl) (fun q20 hq20 => hq20))) (fun _ => (ite2_s (fun _ => ((g_X11_perform_259 (x2_sub hp (by decide))).trans rfl)) (fun _ => (ite2_s (fun _ => (xb2_ss ((g_X11_branch (x2_sub hp (by decide))).trans rfl) (fun q25 hq25 => hq25))) (fun _ => (ite2_s (fun _ => (xb2_ss ((g_X11_twelve (x2_sub hp (by decide))).trans rfl) (fun q29 hq29 => hq29))) (fun _ => (ite2_s (fun _ => (xb2_ss ((g_X11_shifts (x2_sub hp (by decide))).trans rfl) (fun q33 hq33 => hq33))) (fun _ => ((g_X11_perform_259 (x2_sub hp (by decide))).trans rfl)))))))))))))))))))))))))))))
theorem g_X11_perform {p j : Nat} {a1 : Int32} {M : St} (hp : xno2 p j [(14, some 2), (14, some 9), (14, some 10), (14, some 11), (14, some 12), (14, some 14), (14, some 20), (14, some 21), (14, some 22), (14, some 23), (14, some 24), (14, some 25), (14, some 26), (15, none), (18, none), (19, none), (20, none)] = true) : (f_X11_perform a1 M) p j = M p j := by
  unfold f_X11_perform
  exact (ite2_s (fun _ => ((g_X11_perform_34 (x2_sub hp (by decide))).trans rfl)) (fun _ => ((g_X11_perform_34 (x2_sub hp (by decide))).trans rfl)))
theorem g_X11_instruct_253 {p j : Nat} {x1 : Int32} {M : St} (hp : xno2 p j [] = true) : (f_X11_instruct_253 x1 M).2 p j = M p j := by
  unfold f_X11_instruct_253
  exact (ite2_p (fun _ => (ite2_p (fun _ => rfl) (fun _ => rfl))) (fun _ => rfl))
theorem g_X11_instruct_229 {p j : Nat} {x1 : Int32} {M : St} (hp : xno2 p j [(14, some 2), (14, some 5), (14, some 9), (14, some 10), (14, some 11), (14, some 12), (14, some 14), (14, some 20), (14, some 21), (14, some 22), (15, none), (17, none), (18, none), (19, none), (20, none), (21, none)] = true) : (f_X11_instruct_229 x1 M).2 p j = M p j := by
  unfold f_X11_instruct_229
  exact (ite2_p (fun _ => ((g_X11_instruct_253 (x2_sub hp (by decide))).trans rfl)) (fun _ => (ite2_p (fun _ => (xb2_sp ((g_X11_work (x2_sub hp (by decide))).trans rfl) (fun q75 hq75 => ((g_X11_instruct_253 (x2_sub hp (by decide))).trans hq75)))) (fun _ => ((g_X11_instruct_253 (x2_sub hp (by decide))).trans rfl)))))
theorem g_X11_instruct_204 {p j : Nat} {x1 : Int32} {s0 : Int32} {M : St} (hp : xno2 p j [(14, some 2), (14, some 5), (14, some 6), (14, some 9), (14, some 10), (14, some 11), (14, some 12), (14, some 14), (14, some 20), (14, some 21), (14, some 22), (15, none), (17, none), (18, none), (19, none), (20, none), (21, none)] = true) : (f_X11_instruct_204 x1 s0 M).2 p j = M p j := by
  unfold f_X11_instruct_204
  exact (ite2_p (fun _ => ((g_X11_instruct_229 (x2_sub hp (by decide))).trans ((xup_o2 (x2_field 14 6 hp (by decide))).trans rfl))) (fun _ => (xb2_sp ((g_X11_work (x2_sub hp (by decide))).trans ((xup_o2 (x2_field 14 6 hp (by decide))).trans rfl)) (fun q67 hq67 => ((g_X11_instruct_229 (x2_sub hp (by decide))).trans hq67)))))
theorem g_X11_instruct_203 {p j : Nat} {x1 : Int32} {M : St} (hp : xno2 p j [(14, some 2), (14, some 5), (14, some 6), (14, some 9), (14, some 10), (14, some 11), (14, some 12), (14, some 14), (14, some 20), (14, some 21), (14, some 22), (15, none), (17, none), (18, none), (19, none), (20, none), (21, none)] = true) : (f_X11_instruct_203 x1 M).2 p j = M p j := by
  unfold f_X11_instruct_203
  exact ((g_X11_instruct_204 (x2_sub hp (by decide))).trans rfl)
theorem g_X11_instruct_162 {p j : Nat} {x1 : Int32} {x2 : Int32} {s0 : Int32} {M : St} (hp : xno2 p j [(14, some 2), (14, some 5), (14, some 6), (14, some 9), (14, some 10), (14, some 11), (14, some 12), (14, some 14), (14, some 20), (14, some 21), (14, some 22), (15, none), (17, none), (18, none), (19, none), (20, none), (21, none)] = true) : (f_X11_instruct_162 x1 x2 s0 M).2 p j = M p j := by
  unfold f_X11_instruct_162
  exact (ite2_p (fun _ => (ite2_p (fun _ => ((g_X11_instruct_203 (x2_sub hp (by decide))).trans rfl)) (fun _ => (ite2_p (fun _ => ((g_X11_instruct_204 (x2_sub hp (by decide))).trans rfl)) (fun _ => ((g_X11_instruct_203 (x2_sub hp (by decide))).trans rfl)))))) (fun _ => (xb2_sp ((g_X11_back__16 (x2_sub hp (by decide))).trans rfl) (fun q57 hq57 => (xb2_sp ((g_X11_work (x2_sub hp (by decide))).trans hq57) (fun q60 hq60 => hq60))))))
theorem g_X11_instruct_146 {p j : Nat} {x1 : Int32} {x2 : Int32} {x4 : Int32} {M : St} (hp : xno2 p j [(14, some 2), (14, some 5), (14, some 6), (14, some 9), (14, some 10), (14, some 11), (14, some 12), (14, some 14), (14, some 20), (14, some 21), (14, some 22), (15, none), (17, none), (18, none), (19, none), (20, none), (21, none)] = true) : (f_X11_instruct_146 x1 x2 x4 M).2 p j = M p j := by
  unfold f_X11_instruct_146
  exact (ite2_p (fun _ => ((g_X11_instruct_162 (x2_sub hp (by decide))).trans rfl)) (fun _ => ((g_X11_instruct_162 (x2_sub hp (by decide))).trans rfl)))
theorem g_X11_instruct_127 {p j : Nat} {x1 : Int32} {x2 : Int32} {x3 : Int32} {s0 : Int32} {M : St} (hp : xno2 p j [(14, some 2), (14, some 5), (14, some 6), (14, some 9), (14, some 10), (14, some 11), (14, some 12), (14, some 14), (14, some 20), (14, some 21), (14, some 22), (14, some 23), (14, some 24), (14, some 25), (14, some 26), (15, none), (17, none), (18, none), (19, none), (20, none), (21, none)] = true) : (f_X11_instruct_127 x1 x2 x3 s0 M).2 p j = M p j := by
  unfold f_X11_instruct_127
  exact (ite2_p (fun _ => (ite2_p (fun _ => (xb2_sp ((g_X11_perform (x2_sub hp (by decide))).trans rfl) (fun q43 hq43 => ((g_X11_instruct_146 (x2_sub hp (by decide))).trans hq43)))) (fun _ => ((g_X11_instruct_146 (x2_sub hp (by decide))).trans rfl)))) (fun _ => ((g_X11_instruct_146 (x2_sub hp (by decide))).trans rfl)))
theorem g_X11_instruct_126 {p j : Nat} {x1 : Int32} {x2 : Int32} {x3 : Int32} {M : St} (hp : xno2 p j [(14, some 2), (14, some 5), (14, some 6), (14, some 9), (14, some 10), (14, some 11), (14, some 12), (14, some 14), (14, some 20), (14, some 21), (14, some 22), (14, some 23), (14, some 24), (14, some 25), (14, some 26), (15, none), (17, none), (18, none), (19, none), (20, none), (21, none)] = true) : (f_X11_instruct_126 x1 x2 x3 M).2 p j = M p j := by
  unfold f_X11_instruct_126
  exact ((g_X11_instruct_127 (x2_sub hp (by decide))).trans rfl)
theorem g_X11_instruct_62 {p j : Nat} {x1 : Int32} {x2 : Int32} {x3 : Int32} {s0 : Int32} {M : St} (hp : xno2 p j [(14, some 2), (14, some 5), (14, some 6), (14, some 9), (14, some 10), (14, some 11), (14, some 12), (14, some 14), (14, some 19), (14, some 20), (14, some 21), (14, some 22), (14, some 23), (14, some 24), (14, some 25), (14, some 26), (15, none), (17, none), (18, none), (19, none), (20, none), (21, none)] = true) : (f_X11_instruct_62 x1 x2 x3 s0 M).2 p j = M p j := by
  unfold f_X11_instruct_62
  exact (ite2_p (fun _ => ((g_X11_instruct_127 (x2_sub hp (by decide))).trans ((xup_o2 (x2_field 14 19 hp (by decide))).trans rfl))) (fun _ => (ite2_p (fun _ => ((g_X11_instruct_127 (x2_sub hp (by decide))).trans ((xup_o2 (x2_field 14 19 hp (by decide))).trans rfl))) (fun _ => (ite2_p (fun _ => ((g_X11_instruct_127 (x2_sub hp (by decide))).trans ((xup_o2 (x2_field 14 19 hp (by decide))).trans rfl))) (fun _ => (ite2_p (fun _ => ((g_X11_instruct_126 (x2_sub hp (by decide))).trans ((xup_o2 (x2_field 14 19 hp (by decide))).trans rfl))) (fun _ => (ite2_p (fun _ => ((g_X11_instruct_127 (x2_sub hp (by decide))).trans ((xup_o2 (x2_field 14 19 hp (by decide))).trans rfl))) (fun _ => ((g_X11_instruct_126 (x2_sub hp (by decide))).trans ((xup_o2 (x2_field 14 19 hp (by decide))).trans rfl))))))))))))
theorem g_X11_instruct {p j : Nat} {M : St} (hp : xno2 p j [(14, some 2), (14, some 5), (14, some 6), (14, some 9), (14, some 10), (14, some 11), (14, some 12), (14, some 14), (14, some 19), (14, some 20), (14, some 21), (14, some 22), (14, some 23), (14, some 24), (14, some 25), (14, some 26), (15, none), (16, none), (17, none), (18, none), (19, none), (20, none), (21, none)] = true) : (f_X11_instruct M).2 p j = M p j := by
  unfold f_X11_instruct
  exact (xb2_sp ((g_X11_keep__16 (x2_sub hp (by decide))).trans rfl) (fun q1 hq1 => (xb2_pp ((g_X11_fetch (x2_sub hp (by decide))).trans ((xup_o2 (x2_field 14 24 hp (by decide))).trans ((xup_o2 (x2_field 14 23 hp (by decide))).trans ((xup_o2 (x2_field 14 20 hp (by decide))).trans ((xup_o2 (x2_field 14 19 hp (by decide))).trans hq1))))) (fun q8 hq8 => (ite2_p (fun _ => ((g_X11_instruct_62 (x2_sub hp (by decide))).trans hq8)) (fun _ => ((g_X11_instruct_62 (x2_sub hp (by decide))).trans hq8)))))))
theorem g_X11_stepped_150 {p j : Nat} {x3 : Int32} {s0 : Int32} {M : St} (hp : xno2 p j [(14, some 11)] = true) : (f_X11_stepped_150 x3 s0 M).2 p j = M p j := by
  unfold f_X11_stepped_150
  exact ((xup_o2 (x2_field 14 11 hp (by decide))).trans rfl)
theorem g_X11_stepped_145 {p j : Nat} {x3 : Int32} {M : St} (hp : xno2 p j [(14, some 11)] = true) : (f_X11_stepped_145 x3 M).2 p j = M p j := by
  unfold f_X11_stepped_145
  exact ((g_X11_stepped_150 (x2_sub hp (by decide))).trans rfl)
theorem g_X11_stepped_113 {p j : Nat} {x3 : Int32} {M : St} (hp : xno2 p j [(14, some 9), (14, some 11)] = true) : (f_X11_stepped_113 x3 M).2 p j = M p j := by
  unfold f_X11_stepped_113
  exact (ite2_p (fun _ => rfl) (fun _ => (ite2_p (fun _ => (ite2_p (fun _ => ((g_X11_stepped_145 (x2_sub hp (by decide))).trans ((xup_o2 (x2_field 14 9 hp (by decide))).trans rfl))) (fun _ => ((g_X11_stepped_150 (x2_sub hp (by decide))).trans ((xup_o2 (x2_field 14 9 hp (by decide))).trans rfl))))) (fun _ => ((g_X11_stepped_145 (x2_sub hp (by decide))).trans ((xup_o2 (x2_field 14 9 hp (by decide))).trans rfl))))))
theorem g_X11_stepped_64 {p j : Nat} {x1 : Int32} {s0 : Int32} {M : St} (hp : xno2 p j [(14, some 2), (14, some 5), (14, some 6), (14, some 9), (14, some 10), (14, some 11), (14, some 12), (14, some 14), (14, some 17), (14, some 19), (14, some 20), (14, some 21), (14, some 22), (14, some 23), (14, some 24), (14, some 25), (14, some 26), (15, none), (16, none), (17, none), (18, none), (19, none), (20, none), (21, none)] = true) : (f_X11_stepped_64 x1 s0 M).2 p j = M p j := by
  unfold f_X11_stepped_64
  exact (ite2_p (fun _ => (ite2_p (fun _ => (xb2_pp ((g_X11_instruct (x2_sub hp (by decide))).trans ((xup_o2 (x2_field 14 17 hp (by decide))).trans rfl)) (fun q19 hq19 => ((g_X11_stepped_113 (x2_sub hp (by decide))).trans hq19)))) (fun _ => ((g_X11_stepped_113 (x2_sub hp (by decide))).trans ((xup_o2 (x2_field 14 17 hp (by decide))).trans rfl))))) (fun _ => (xb2_sp ((g_X11_work (x2_sub hp (by decide))).trans ((xup_o2 (x2_field 14 6 hp (by decide))).trans ((xup_o2 (x2_field 14 17 hp (by decide))).trans rfl))) (fun q24 hq24 => ((g_X11_stepped_113 (x2_sub hp (by decide))).trans hq24)))))
theorem g_X11_stepped_59 {p j : Nat} {x1 : Int32} {M : St} (hp : xno2 p j [(14, some 2), (14, some 5), (14, some 6), (14, some 9), (14, some 10), (14, some 11), (14, some 12), (14, some 14), (14, some 17), (14, some 19), (14, some 20), (14, some 21), (14, some 22), (14, some 23), (14, some 24), (14, some 25), (14, some 26), (15, none), (16, none), (17, none), (18, none), (19, none), (20, none), (21, none)] = true) : (f_X11_stepped_59 x1 M).2 p j = M p j := by
  unfold f_X11_stepped_59
  exact ((g_X11_stepped_64 (x2_sub hp (by decide))).trans rfl)
theorem g_X11_stepped_63 {p j : Nat} {x1 : Int32} {M : St} (hp : xno2 p j [(14, some 2), (14, some 5), (14, some 6), (14, some 9), (14, some 10), (14, some 11), (14, some 12), (14, some 14), (14, some 17), (14, some 19), (14, some 20), (14, some 21), (14, some 22), (14, some 23), (14, some 24), (14, some 25), (14, some 26), (15, none), (16, none), (17, none), (18, none), (19, none), (20, none), (21, none)] = true) : (f_X11_stepped_63 x1 M).2 p j = M p j := by
  unfold f_X11_stepped_63
  exact ((g_X11_stepped_64 (x2_sub hp (by decide))).trans rfl)
theorem g_X11_stepped_29 {p j : Nat} {s0 : Int32} {M : St} (hp : xno2 p j [(14, some 2), (14, some 5), (14, some 6), (14, some 9), (14, some 10), (14, some 11), (14, some 12), (14, some 14), (14, some 17), (14, some 19), (14, some 20), (14, some 21), (14, some 22), (14, some 23), (14, some 24), (14, some 25), (14, some 26), (15, none), (16, none), (17, none), (18, none), (19, none), (20, none), (21, none)] = true) : (f_X11_stepped_29 s0 M).2 p j = M p j := by
  unfold f_X11_stepped_29
  exact (ite2_p (fun _ => ((g_X11_stepped_59 (x2_sub hp (by decide))).trans rfl)) (fun _ => (ite2_p (fun _ => (ite2_p (fun _ => ((g_X11_stepped_63 (x2_sub hp (by decide))).trans rfl)) (fun _ => ((g_X11_stepped_59 (x2_sub hp (by decide))).trans rfl)))) (fun _ => ((g_X11_stepped_63 (x2_sub hp (by decide))).trans rfl)))))
theorem g_X11_stepped_25 {p j : Nat} {M : St} (hp : xno2 p j [(14, some 2), (14, some 5), (14, some 6), (14, some 9), (14, some 10), (14, some 11), (14, some 12), (14, some 14), (14, some 17), (14, some 19), (14, some 20), (14, some 21), (14, some 22), (14, some 23), (14, some 24), (14, some 25), (14, some 26), (15, none), (16, none), (17, none), (18, none), (19, none), (20, none), (21, none)] = true) : (f_X11_stepped_25 M).2 p j = M p j := by
  unfold f_X11_stepped_25
  exact ((g_X11_stepped_29 (x2_sub hp (by decide))).trans rfl)
theorem g_X11_stepped {p j : Nat} {M : St} (hp : xno2 p j [(14, some 2), (14, some 5), (14, some 6), (14, some 9), (14, some 10), (14, some 11), (14, some 12), (14, some 14), (14, some 17), (14, some 19), (14, some 20), (14, some 21), (14, some 22), (14, some 23), (14, some 24), (14, some 25), (14, some 26), (15, none), (16, none), (17, none), (18, none), (19, none), (20, none), (21, none)] = true) : (f_X11_stepped M).2 p j = M p j := by
  unfold f_X11_stepped
  exact (ite2_p (fun _ => ((g_X11_stepped_25 (x2_sub hp (by decide))).trans rfl)) (fun _ => (ite2_p (fun _ => ((g_X11_stepped_25 (x2_sub hp (by decide))).trans rfl)) (fun _ => ((g_X11_stepped_29 (x2_sub hp (by decide))).trans rfl)))))
theorem g_X11_step_13 {p j : Nat} {s0 : Int32} {M : St} (hp : xno2 p j [(14, some 0), (14, some 2), (14, some 5), (14, some 6), (14, some 9), (14, some 10), (14, some 11), (14, some 12), (14, some 14), (14, some 17), (14, some 19), (14, some 20), (14, some 21), (14, some 22), (14, some 23), (14, some 24), (14, some 25), (14, some 26), (15, none), (16, none), (17, none), (18, none), (19, none), (20, none), (21, none)] = true) : (f_X11_step_13 s0 M).2 p j = M p j := by
  unfold f_X11_step_13
  exact (ite2_p (fun _ => (xb2_pp ((g_X11_stepped (x2_sub hp (by decide))).trans ((xup_o2 (x2_field 14 0 hp (by decide))).trans rfl)) (fun q6 hq6 => hq6))) (fun _ => ((xup_o2 (x2_field 14 0 hp (by decide))).trans rfl)))
theorem g_X11_step {p j : Nat} {M : St} (hp : xno2 p j [(14, some 0), (14, some 2), (14, some 5), (14, some 6), (14, some 9), (14, some 10), (14, some 11), (14, some 12), (14, some 14), (14, some 17), (14, some 19), (14, some 20), (14, some 21), (14, some 22), (14, some 23), (14, some 24), (14, some 25), (14, some 26), (15, none), (16, none), (17, none), (18, none), (19, none), (20, none), (21, none)] = true) : (f_X11_step M).2 p j = M p j := by
  unfold f_X11_step
  exact (ite2_p (fun _ => ((g_X11_step_13 (x2_sub hp (by decide))).trans rfl)) (fun _ => ((g_X11_step_13 (x2_sub hp (by decide))).trans rfl)))
theorem g_X11_run_21 {p j : Nat} (hp : xno2 p j [(14, some 2), (14, some 5), (14, some 6), (14, some 9), (14, some 10), (14, some 11), (14, some 12), (14, some 14), (14, some 17), (14, some 19), (14, some 20), (14, some 21), (14, some 22), (14, some 23), (14, some 24), (14, some 25), (14, some 26), (15, none), (16, none), (17, none), (18, none), (19, none), (20, none), (21, none)] = true) : ∀ (n : Nat) (x1 : Int32) (x2 : Int32) (M : St), (f_X11_run_21 n x1 x2 M).2 p j = M p j := by
  intro n
  induction n with
  | zero => intros; rfl
  | succ n ih =>
    intro x1 x2 M
    unfold f_X11_run_21
    exact (ite2_p (fun _ => (ite2_p (fun _ => rfl) (fun _ => (ite2_p (fun _ => (xb2_pp ((g_X11_stepped (x2_sub hp (by decide))).trans rfl) (fun q17 hq17 => ((ih _ _ _).trans hq17)))) (fun _ => rfl))))) (fun _ => rfl))
theorem g_X11_run_16 {p j : Nat} {x1 : Int32} {s0 : Int32} {M : St} (hp : xno2 p j [(14, some 0), (14, some 2), (14, some 5), (14, some 6), (14, some 9), (14, some 10), (14, some 11), (14, some 12), (14, some 14), (14, some 17), (14, some 19), (14, some 20), (14, some 21), (14, some 22), (14, some 23), (14, some 24), (14, some 25), (14, some 26), (15, none), (16, none), (17, none), (18, none), (19, none), (20, none), (21, none)] = true) : (f_X11_run_16 x1 s0 M).2 p j = M p j := by
  unfold f_X11_run_16
  exact ((g_X11_run_21 (x2_sub hp (by decide)) _ _ _ _).trans ((xup_o2 (x2_field 14 0 hp (by decide))).trans rfl))
theorem g_X11_run_11 {p j : Nat} {x1 : Int32} {M : St} (hp : xno2 p j [(14, some 0), (14, some 2), (14, some 5), (14, some 6), (14, some 9), (14, some 10), (14, some 11), (14, some 12), (14, some 14), (14, some 17), (14, some 19), (14, some 20), (14, some 21), (14, some 22), (14, some 23), (14, some 24), (14, some 25), (14, some 26), (15, none), (16, none), (17, none), (18, none), (19, none), (20, none), (21, none)] = true) : (f_X11_run_11 x1 M).2 p j = M p j := by
  unfold f_X11_run_11
  exact ((g_X11_run_16 (x2_sub hp (by decide))).trans rfl)
theorem g_X11_run {p j : Nat} {a1 : Int32} {M : St} (hp : xno2 p j [(14, some 0), (14, some 2), (14, some 5), (14, some 6), (14, some 9), (14, some 10), (14, some 11), (14, some 12), (14, some 14), (14, some 17), (14, some 19), (14, some 20), (14, some 21), (14, some 22), (14, some 23), (14, some 24), (14, some 25), (14, some 26), (15, none), (16, none), (17, none), (18, none), (19, none), (20, none), (21, none)] = true) : (f_X11_run a1 M).2 p j = M p j := by
  unfold f_X11_run
  exact (ite2_p (fun _ => ((g_X11_run_11 (x2_sub hp (by decide))).trans rfl)) (fun _ => (ite2_p (fun _ => ((g_X11_run_16 (x2_sub hp (by decide))).trans rfl)) (fun _ => ((g_X11_run_11 (x2_sub hp (by decide))).trans rfl)))))
theorem g_X11_level {p j : Nat} {a1 : Int32} {M : St} (hp : xno2 p j [(14, some 0), (14, some 16)] = true) : (f_X11_level a1 M) p j = M p j := by
  unfold f_X11_level
  exact (ite2_s (fun _ => ((xup_o2 (x2_field 14 16 hp (by decide))).trans ((xup_o2 (x2_field 14 0 hp (by decide))).trans rfl))) (fun _ => (ite2_s (fun _ => ((xup_o2 (x2_field 14 16 hp (by decide))).trans ((xup_o2 (x2_field 14 0 hp (by decide))).trans rfl))) (fun _ => ((xup_o2 (x2_field 14 16 hp (by decide))).trans ((xup_o2 (x2_field 14 0 hp (by decide))).trans rfl))))))
theorem g_X11_type {p j : Nat} {a1 : Int32} {M : St} (hp : xno2 p j [(14, some 0), (14, some 12), (19, none)] = true) : (f_X11_type a1 M).2 p j = M p j := by
  unfold f_X11_type
  exact (ite2_p (fun _ => ((xup_o2 (x2_field 14 0 hp (by decide))).trans rfl)) (fun _ => ((xup_o2 (x2_field 14 12 hp (by decide))).trans ((xup_o2 (Or.inl (x2_place 19 hp (by decide)))).trans ((xup_o2 (x2_field 14 0 hp (by decide))).trans rfl)))))
theorem g_X11_said {p j : Nat} {a1 : Int32} {M : St} (hp : xno2 p j [(14, some 0)] = true) : (f_X11_said a1 M).2 p j = M p j := by
  unfold f_X11_said
  exact (ite2_p (fun _ => ((xup_o2 (x2_field 14 0 hp (by decide))).trans rfl)) (fun _ => (ite2_p (fun _ => ((xup_o2 (x2_field 14 0 hp (by decide))).trans rfl)) (fun _ => ((xup_o2 (x2_field 14 0 hp (by decide))).trans rfl)))))
theorem g_X11_get {p j : Nat} {a1 : Int32} {M : St} (hp : xno2 p j [(14, some 0)] = true) : (f_X11_get a1 M).2 p j = M p j := by
  unfold f_X11_get
  exact (ite2_p (fun _ => ((xup_o2 (x2_field 14 0 hp (by decide))).trans rfl)) (fun _ => (ite2_p (fun _ => (ite2_p (fun _ => ((xup_o2 (x2_field 14 0 hp (by decide))).trans rfl)) (fun _ => ((xup_o2 (x2_field 14 0 hp (by decide))).trans rfl)))) (fun _ => ((xup_o2 (x2_field 14 0 hp (by decide))).trans rfl)))))
theorem g_X11_set {p j : Nat} {a1 : Int32} {a2 : Int32} {M : St} (hp : xno2 p j [(14, some 0), (14, some 2), (15, none)] = true) : (f_X11_set a1 a2 M) p j = M p j := by
  unfold f_X11_set
  exact (ite2_s (fun _ => ((xup_o2 (x2_field 14 0 hp (by decide))).trans rfl)) (fun _ => (ite2_s (fun _ => (ite2_s (fun _ => (xb2_ss ((g_X11_setStatus (x2_sub hp (by decide))).trans ((xup_o2 (x2_field 14 0 hp (by decide))).trans rfl)) (fun q14 hq14 => hq14))) (fun _ => ((xup_o2 (Or.inl (x2_place 15 hp (by decide)))).trans ((xup_o2 (x2_field 14 0 hp (by decide))).trans rfl))))) (fun _ => ((xup_o2 (x2_field 14 0 hp (by decide))).trans rfl)))))
theorem g_X11_memory {p j : Nat} {a1 : Int32} {M : St} (hp : xno2 p j [(14, some 0)] = true) : (f_X11_memory a1 M).2 p j = M p j := by
  unfold f_X11_memory
  exact (ite2_p (fun _ => ((xup_o2 (x2_field 14 0 hp (by decide))).trans rfl)) (fun _ => (ite2_p (fun _ => ((xup_o2 (x2_field 14 0 hp (by decide))).trans rfl)) (fun _ => ((xup_o2 (x2_field 14 0 hp (by decide))).trans rfl)))))
theorem g_X11_device_15 {p j : Nat} {x1 : Int32} {s0 : Int32} {M : St} (hp : xno2 p j [(14, some 0)] = true) : (f_X11_device_15 x1 s0 M).2 p j = M p j := by
  unfold f_X11_device_15
  exact (ite2_p (fun _ => (ite2_p (fun _ => ((xup_o2 (x2_field 14 0 hp (by decide))).trans rfl)) (fun _ => (ite2_p (fun _ => ((xup_o2 (x2_field 14 0 hp (by decide))).trans rfl)) (fun _ => (ite2_p (fun _ => (ite2_p (fun _ => ((xup_o2 (x2_field 14 0 hp (by decide))).trans rfl)) (fun _ => ((xup_o2 (x2_field 14 0 hp (by decide))).trans rfl)))) (fun _ => (ite2_p (fun _ => ((xup_o2 (x2_field 14 0 hp (by decide))).trans rfl)) (fun _ => ((xup_o2 (x2_field 14 0 hp (by decide))).trans rfl)))))))))) (fun _ => ((xup_o2 (x2_field 14 0 hp (by decide))).trans rfl)))
theorem g_X11_device_10 {p j : Nat} {x1 : Int32} {M : St} (hp : xno2 p j [(14, some 0)] = true) : (f_X11_device_10 x1 M).2 p j = M p j := by
  unfold f_X11_device_10
  exact ((g_X11_device_15 (x2_sub hp (by decide))).trans rfl)
theorem g_X11_device {p j : Nat} {a1 : Int32} {M : St} (hp : xno2 p j [(14, some 0)] = true) : (f_X11_device a1 M).2 p j = M p j := by
  unfold f_X11_device
  exact (ite2_p (fun _ => ((g_X11_device_10 (x2_sub hp (by decide))).trans rfl)) (fun _ => (ite2_p (fun _ => ((g_X11_device_15 (x2_sub hp (by decide))).trans rfl)) (fun _ => ((g_X11_device_10 (x2_sub hp (by decide))).trans rfl)))))
theorem g_X11_state {p j : Nat} {M : St} (hp : xno2 p j [(14, some 0)] = true) : (f_X11_state M).2 p j = M p j := by
  unfold f_X11_state
  exact (ite2_p (fun _ => (ite2_p (fun _ => ((xup_o2 (x2_field 14 0 hp (by decide))).trans rfl)) (fun _ => ((xup_o2 (x2_field 14 0 hp (by decide))).trans rfl)))) (fun _ => ((xup_o2 (x2_field 14 0 hp (by decide))).trans rfl)))
theorem g_X11_counted {p j : Nat} {a1 : Int32} {M : St} (hp : xno2 p j [(14, some 0)] = true) : (f_X11_counted a1 M).2 p j = M p j := by
  unfold f_X11_counted
  exact (ite2_p (fun _ => ((xup_o2 (x2_field 14 0 hp (by decide))).trans rfl)) (fun _ => (ite2_p (fun _ => ((xup_o2 (x2_field 14 0 hp (by decide))).trans rfl)) (fun _ => ((xup_o2 (x2_field 14 0 hp (by decide))).trans rfl)))))
theorem g_X8_changeStatus_51 {p j : Nat} {x2 : Int32} {M : St} (hp : xno2 p j [(2, some 18)] = true) : (f_X8_changeStatus_51 x2 M) p j = M p j := by
  unfold f_X8_changeStatus_51
  exact ((xup_o2 (x2_field 2 18 hp (by decide))).trans rfl)
theorem g_X8_changeStatus {p j : Nat} {a1 : Int32} {M : St} (hp : xno2 p j [(2, some 15), (2, some 16), (2, some 18)] = true) : (f_X8_changeStatus a1 M) p j = M p j := by
  unfold f_X8_changeStatus
  exact (ite2_s (fun _ => ((g_X8_changeStatus_51 (x2_sub hp (by decide))).trans rfl)) (fun _ => ((g_X8_changeStatus_51 (x2_sub hp (by decide))).trans ((xup_o2 (x2_field 2 16 hp (by decide))).trans ((xup_o2 (x2_field 2 15 hp (by decide))).trans rfl)))))
theorem g_X2_clearError {p j : Nat} {M : St} (hp : xno2 p j [(4, some 10)] = true) : (f_X2_clearError M) p j = M p j := by
  unfold f_X2_clearError
  exact ((xup_o2 (x2_field 4 10 hp (by decide))).trans rfl)
theorem g_X2_allows_125 {p j : Nat} {x1 : Int32} {x3 : Int32} {M : St} (hp : xno2 p j [(4, some 11), (4, some 12)] = true) : (f_X2_allows_125 x1 x3 M).2 p j = M p j := by
  unfold f_X2_allows_125
  exact ((xup_o2 (x2_field 4 12 hp (by decide))).trans ((xup_o2 (x2_field 4 11 hp (by decide))).trans rfl))
theorem g_X2_allows_105 {p j : Nat} {x1 : Int32} {x3 : Int32} {x6 : Int32} {x7 : Int32} {M : St} (hp : xno2 p j [(4, some 10), (4, some 11), (4, some 12)] = true) : (f_X2_allows_105 x1 x3 x6 x7 M).2 p j = M p j := by
  unfold f_X2_allows_105
  exact (ite2_p (fun _ => (ite2_p (fun _ => ((g_X2_allows_125 (x2_sub hp (by decide))).trans ((xup_o2 (x2_field 4 10 hp (by decide))).trans rfl))) (fun _ => rfl))) (fun _ => rfl))
theorem g_X2_allows_84 {p j : Nat} {x1 : Int32} {x2 : Int32} {x3 : Int32} {x6 : Int32} {s0 : Int32} {M : St} (hp : xno2 p j [(4, some 10), (4, some 11), (4, some 12)] = true) : (f_X2_allows_84 x1 x2 x3 x6 s0 M).2 p j = M p j := by
  unfold f_X2_allows_84
  exact (ite2_p (fun _ => ((g_X2_allows_105 (x2_sub hp (by decide))).trans rfl)) (fun _ => (ite2_p (fun _ => ((g_X2_allows_105 (x2_sub hp (by decide))).trans rfl)) (fun _ => ((g_X2_allows_125 (x2_sub hp (by decide))).trans ((xup_o2 (x2_field 4 10 hp (by decide))).trans rfl))))))
theorem g_X2_allows_83 {p j : Nat} {x1 : Int32} {x2 : Int32} {x3 : Int32} {x6 : Int32} {M : St} (hp : xno2 p j [(4, some 10), (4, some 11), (4, some 12)] = true) : (f_X2_allows_83 x1 x2 x3 x6 M).2 p j = M p j := by
  unfold f_X2_allows_83
  exact ((g_X2_allows_84 (x2_sub hp (by decide))).trans rfl)
theorem g_X2_allows_53 {p j : Nat} {x1 : Int32} {x2 : Int32} {x3 : Int32} {x4 : Int32} {x5 : Int32} {s0 : Int32} {M : St} (hp : xno2 p j [(4, some 10), (4, some 11), (4, some 12)] = true) : (f_X2_allows_53 x1 x2 x3 x4 x5 s0 M).2 p j = M p j := by
  unfold f_X2_allows_53
  exact (ite2_p (fun _ => ((g_X2_allows_83 (x2_sub hp (by decide))).trans rfl)) (fun _ => (ite2_p (fun _ => ((g_X2_allows_83 (x2_sub hp (by decide))).trans rfl)) (fun _ => (ite2_p (fun _ => ((g_X2_allows_83 (x2_sub hp (by decide))).trans rfl)) (fun _ => ((g_X2_allows_84 (x2_sub hp (by decide))).trans rfl)))))))
theorem g_X2_allows_52 {p j : Nat} {x1 : Int32} {x2 : Int32} {x3 : Int32} {x4 : Int32} {x5 : Int32} {M : St} (hp : xno2 p j [(4, some 10), (4, some 11), (4, some 12)] = true) : (f_X2_allows_52 x1 x2 x3 x4 x5 M).2 p j = M p j := by
  unfold f_X2_allows_52
  exact ((g_X2_allows_53 (x2_sub hp (by decide))).trans rfl)
theorem g_X2_allows_48 {p j : Nat} {x1 : Int32} {x2 : Int32} {x3 : Int32} {x4 : Int32} {x5 : Int32} {M : St} (hp : xno2 p j [(4, some 10), (4, some 11), (4, some 12)] = true) : (f_X2_allows_48 x1 x2 x3 x4 x5 M).2 p j = M p j := by
  unfold f_X2_allows_48
  exact ((g_X2_allows_53 (x2_sub hp (by decide))).trans rfl)
theorem g_X2_allows {p j : Nat} {a1 : Int32} {a2 : Int32} {a3 : Int32} {M : St} (hp : xno2 p j [(4, some 10), (4, some 11), (4, some 12)] = true) : (f_X2_allows a1 a2 a3 M).2 p j = M p j := by
  unfold f_X2_allows
  exact (ite2_p (fun _ => (ite2_p (fun _ => ((g_X2_allows_52 (x2_sub hp (by decide))).trans rfl)) (fun _ => (ite2_p (fun _ => (ite2_p (fun _ => ((g_X2_allows_52 (x2_sub hp (by decide))).trans rfl)) (fun _ => ((g_X2_allows_48 (x2_sub hp (by decide))).trans rfl)))) (fun _ => ((g_X2_allows_48 (x2_sub hp (by decide))).trans rfl)))))) (fun _ => rfl))
theorem g_X2_readByte {p j : Nat} {a1 : Int32} {M : St} (hp : xno2 p j [(4, some 3), (4, some 4)] = true) : (f_X2_readByte a1 M).2 p j = M p j := by
  unfold f_X2_readByte
  exact (ite2_p (fun _ => (ite2_p (fun _ => (ite2_p (fun _ => rfl) (fun _ => ((xup_o2 (x2_field 4 4 hp (by decide))).trans ((xup_o2 (x2_field 4 3 hp (by decide))).trans rfl))))) (fun _ => (ite2_p (fun _ => rfl) (fun _ => (ite2_p (fun _ => rfl) (fun _ => (ite2_p (fun _ => rfl) (fun _ => (ite2_p (fun _ => rfl) (fun _ => (ite2_p (fun _ => (ite2_p (fun _ => rfl) (fun _ => rfl))) (fun _ => rfl))))))))))))) (fun _ => rfl))
theorem g_X2_read_32 {p j : Nat} (hp : xno2 p j [(4, some 3), (4, some 4)] = true) : ∀ (n : Nat) (x4 : Int32) (x5 : Int32) (x6 : Int32) (x7 : Int32) (M : St), (f_X2_read_32 n x4 x5 x6 x7 M).2 p j = M p j := by
  intro n
  induction n with
  | zero => intros; rfl
  | succ n ih =>
    intro x4 x5 x6 x7 M
    unfold f_X2_read_32
    exact (ite2_p (fun _ => rfl) (fun _ => (xb2_pp ((g_X2_readByte (x2_sub hp (by decide))).trans rfl) (fun q14 hq14 => ((ih _ _ _ _ _).trans hq14)))))
theorem g_X2_read {p j : Nat} {a1 : Int32} {a2 : Int32} {a3 : Int32} {M : St} (hp : xno2 p j [(4, some 3), (4, some 4), (4, some 10), (4, some 11), (4, some 12)] = true) : (f_X2_read a1 a2 a3 M).2 p j = M p j := by
  unfold f_X2_read
  exact (xb2_pp ((g_X2_allows (x2_sub hp (by decide))).trans rfl) (fun q4 hq4 => (ite2_p (fun _ => hq4) (fun _ => ((g_X2_read_32 (x2_sub hp (by decide)) _ _ _ _ _ _).trans hq4)))))
theorem g_X2_quietTimer {p j : Nat} {M : St} (hp : xno2 p j [(4, some 7), (4, some 8), (4, some 9)] = true) : (f_X2_quietTimer M) p j = M p j := by
  unfold f_X2_quietTimer
  exact ((xup_o2 (x2_field 4 9 hp (by decide))).trans ((xup_o2 (x2_field 4 8 hp (by decide))).trans ((xup_o2 (x2_field 4 7 hp (by decide))).trans rfl)))
theorem g_X7_startAnew {p j : Nat} {M : St} (hp : xno2 p j [(2, some 15), (2, some 16), (2, some 17), (2, some 18), (4, some 3), (4, some 4), (4, some 7), (4, some 8), (4, some 9), (4, some 10), (4, some 11), (4, some 12), (8, some 7), (8, some 8), (8, some 10), (8, some 11)] = true) : (f_X7_startAnew M) p j = M p j := by
  unfold f_X7_startAnew
  exact (xb2_ss ((g_X8_changeStatus (x2_sub hp (by decide))).trans rfl) (fun q1 hq1 => (xb2_ss ((g_X2_clearError (x2_sub hp (by decide))).trans hq1) (fun q4 hq4 => (xb2_ps ((g_X2_read (x2_sub hp (by decide))).trans hq4) (fun q7 hq7 => (xb2_ps ((g_X2_read (x2_sub hp (by decide))).trans ((xup_o2 (x2_field 2 15 hp (by decide))).trans hq7)) (fun q11 hq11 => (xb2_ss ((g_X2_quietTimer (x2_sub hp (by decide))).trans ((xup_o2 (x2_field 2 17 hp (by decide))).trans hq11)) (fun q15 hq15 => ((xup_o2 (x2_field 8 11 hp (by decide))).trans ((xup_o2 (x2_field 8 10 hp (by decide))).trans ((xup_o2 (x2_field 8 8 hp (by decide))).trans ((xup_o2 (x2_field 8 7 hp (by decide))).trans hq15))))))))))))))
theorem g_X10_reset {p j : Nat} {M : St} (hp : xno2 p j [(2, some 15), (2, some 16), (2, some 17), (2, some 18), (4, some 3), (4, some 4), (4, some 7), (4, some 8), (4, some 9), (4, some 10), (4, some 11), (4, some 12), (8, some 7), (8, some 8), (8, some 10), (8, some 11)] = true) : (f_X10_reset M) p j = M p j := by
  unfold f_X10_reset
  exact (xb2_ss ((g_X7_startAnew (x2_sub hp (by decide))).trans rfl) (fun q1 hq1 => hq1))
theorem g_X2_enqueue {p j : Nat} {a1 : Int32} {M : St} (hp : xno2 p j [(4, some 4), (6, none)] = true) : (f_X2_enqueue a1 M).2 p j = M p j := by
  unfold f_X2_enqueue
  exact (ite2_p (fun _ => ((xup_o2 (x2_field 4 4 hp (by decide))).trans ((xup_o2 (Or.inl (x2_place 6 hp (by decide)))).trans rfl))) (fun _ => rfl))
theorem g_X10_type {p j : Nat} {a1 : Int32} {M : St} (hp : xno2 p j [(4, some 4), (6, none)] = true) : (f_X10_type a1 M).2 p j = M p j := by
  unfold f_X10_type
  exact (xb2_pp ((g_X2_enqueue (x2_sub hp (by decide))).trans rfl) (fun q1 hq1 => hq1))
theorem g_X2_store {p j : Nat} {a1 : Int32} {a2 : Int32} {M : St} (hp : xno2 p j [(5, none)] = true) : (f_X2_store a1 a2 M) p j = M p j := by
  unfold f_X2_store
  exact ((xup_o2 (Or.inl (x2_place 5 hp (by decide)))).trans ((xup_o2 (Or.inl (x2_place 5 hp (by decide)))).trans rfl))
theorem g_X8_keep {p j : Nat} {M : St} (hp : xno2 p j [(3, none)] = true) : (f_X8_keep M) p j = M p j := by
  unfold f_X8_keep
  exact ((xcp_o2 (x2_place 3 hp (by decide))).trans rfl)
theorem g_X2_writeByte {p j : Nat} {a1 : Int32} {a2 : Int32} {M : St} (hp : xno2 p j [(4, some 5), (4, some 7), (4, some 8), (4, some 9), (5, none), (7, none)] = true) : (f_X2_writeByte a1 a2 M) p j = M p j := by
  unfold f_X2_writeByte
  exact (ite2_s (fun _ => (ite2_s (fun _ => (ite2_s (fun _ => rfl) (fun _ => ((xup_o2 (x2_field 4 5 hp (by decide))).trans ((xup_o2 (Or.inl (x2_place 7 hp (by decide)))).trans rfl))))) (fun _ => (ite2_s (fun _ => rfl) (fun _ => (ite2_s (fun _ => ((xup_o2 (x2_field 4 7 hp (by decide))).trans rfl)) (fun _ => (ite2_s (fun _ => ((xup_o2 (x2_field 4 7 hp (by decide))).trans rfl)) (fun _ => (ite2_s (fun _ => ((xup_o2 (x2_field 4 8 hp (by decide))).trans rfl)) (fun _ => (ite2_s (fun _ => ((xup_o2 (x2_field 4 9 hp (by decide))).trans rfl)) (fun _ => rfl))))))))))))) (fun _ => ((xup_o2 (Or.inl (x2_place 5 hp (by decide)))).trans rfl)))
theorem g_X2_write_28 {p j : Nat} (hp : xno2 p j [(4, some 5), (4, some 7), (4, some 8), (4, some 9), (5, none), (7, none)] = true) : ∀ (n : Nat) (x3 : Int32) (x4 : Int32) (x5 : Int32) (x6 : Int32) (M : St), (f_X2_write_28 n x3 x4 x5 x6 M) p j = M p j := by
  intro n
  induction n with
  | zero => intros; rfl
  | succ n ih =>
    intro x3 x4 x5 x6 M
    unfold f_X2_write_28
    exact (ite2_s (fun _ => rfl) (fun _ => (xb2_ss ((g_X2_writeByte (x2_sub hp (by decide))).trans rfl) (fun q14 hq14 => ((ih _ _ _ _ _).trans hq14)))))
theorem g_X2_write {p j : Nat} {a1 : Int32} {a2 : Int32} {a3 : Int32} {M : St} (hp : xno2 p j [(4, some 5), (4, some 7), (4, some 8), (4, some 9), (4, some 10), (4, some 11), (4, some 12), (5, none), (7, none)] = true) : (f_X2_write a1 a2 a3 M) p j = M p j := by
  unfold f_X2_write
  exact (xb2_ps ((g_X2_allows (x2_sub hp (by decide))).trans rfl) (fun q4 hq4 => (ite2_s (fun _ => hq4) (fun _ => ((g_X2_write_28 (x2_sub hp (by decide)) _ _ _ _ _ _).trans hq4)))))
theorem g_X6_push {p j : Nat} {a1 : Int32} {a2 : Int32} {M : St} (hp : xno2 p j [(2, some 15), (4, some 5), (4, some 7), (4, some 8), (4, some 9), (4, some 10), (4, some 11), (4, some 12), (5, none), (7, none)] = true) : (f_X6_push a1 a2 M) p j = M p j := by
  unfold f_X6_push
  exact (xb2_ss ((g_X2_write (x2_sub hp (by decide))).trans ((xup_o2 (x2_field 2 15 hp (by decide))).trans rfl)) (fun q5 hq5 => hq5))
theorem g_X8_takeBack {p j : Nat} {M : St} (hp : xno2 p j [(2, none)] = true) : (f_X8_takeBack M) p j = M p j := by
  unfold f_X8_takeBack
  exact ((xcp_o2 (x2_place 2 hp (by decide))).trans rfl)
theorem g_X7_enters_162 {p j : Nat} {x1 : Int32} {M : St} (hp : xno2 p j [(2, none), (4, some 3), (4, some 4), (4, some 10), (4, some 11), (4, some 12), (9, none)] = true) : (f_X7_enters_162 x1 M).2 p j = M p j := by
  unfold f_X7_enters_162
  exact (xb2_pp ((g_X2_read (x2_sub hp (by decide))).trans rfl) (fun q40 hq40 => (ite2_p (fun _ => ((xup_o2 (Or.inl (x2_place 9 hp (by decide)))).trans ((xup_o2 (Or.inl (x2_place 2 hp (by decide)))).trans hq40))) (fun _ => (xb2_sp ((g_X8_takeBack (x2_sub hp (by decide))).trans ((xup_o2 (Or.inl (x2_place 2 hp (by decide)))).trans hq40)) (fun q48 hq48 => hq48))))))
theorem g_X7_enters_56 {p j : Nat} {x1 : Int32} {x2 : Int32} {x3 : Int32} {s0 : Int32} {s1 : Int32} {M : St} (hp : xno2 p j [(2, none), (3, none), (4, some 3), (4, some 4), (4, some 5), (4, some 7), (4, some 8), (4, some 9), (4, some 10), (4, some 11), (4, some 12), (5, none), (7, none), (9, none)] = true) : (f_X7_enters_56 x1 x2 x3 s0 s1 M).2 p j = M p j := by
  unfold f_X7_enters_56
  exact (xb2_sp ((g_X8_keep (x2_sub hp (by decide))).trans rfl) (fun q10 hq10 => (xb2_sp ((g_X2_clearError (x2_sub hp (by decide))).trans hq10) (fun q13 hq13 => (xb2_sp ((g_X8_changeStatus (x2_sub hp (by decide))).trans hq13) (fun q16 hq16 => (xb2_sp ((g_X6_push (x2_sub hp (by decide))).trans hq16) (fun q19 hq19 => (xb2_sp ((g_X6_push (x2_sub hp (by decide))).trans hq19) (fun q22 hq22 => (ite2_p (fun _ => ((g_X7_enters_162 (x2_sub hp (by decide))).trans hq22)) (fun _ => (xb2_sp ((g_X6_push (x2_sub hp (by decide))).trans hq22) (fun q31 hq31 => (xb2_sp ((g_X6_push (x2_sub hp (by decide))).trans hq31) (fun q34 hq34 => (xb2_sp ((g_X6_push (x2_sub hp (by decide))).trans hq34) (fun q37 hq37 => ((g_X7_enters_162 (x2_sub hp (by decide))).trans hq37)))))))))))))))))))
theorem g_X7_enters_35 {p j : Nat} {x1 : Int32} {x2 : Int32} {s0 : Int32} {M : St} (hp : xno2 p j [(2, none), (3, none), (4, some 3), (4, some 4), (4, some 5), (4, some 7), (4, some 8), (4, some 9), (4, some 10), (4, some 11), (4, some 12), (5, none), (7, none), (9, none)] = true) : (f_X7_enters_35 x1 x2 s0 M).2 p j = M p j := by
  unfold f_X7_enters_35
  exact (ite2_p (fun _ => ((g_X7_enters_56 (x2_sub hp (by decide))).trans rfl)) (fun _ => ((g_X7_enters_56 (x2_sub hp (by decide))).trans rfl)))
theorem g_X7_enters_30 {p j : Nat} {x1 : Int32} {x2 : Int32} {M : St} (hp : xno2 p j [(2, none), (3, none), (4, some 3), (4, some 4), (4, some 5), (4, some 7), (4, some 8), (4, some 9), (4, some 10), (4, some 11), (4, some 12), (5, none), (7, none), (9, none)] = true) : (f_X7_enters_30 x1 x2 M).2 p j = M p j := by
  unfold f_X7_enters_30
  exact ((g_X7_enters_35 (x2_sub hp (by decide))).trans rfl)
theorem g_X7_enters {p j : Nat} {a1 : Int32} {M : St} (hp : xno2 p j [(2, none), (3, none), (4, some 3), (4, some 4), (4, some 5), (4, some 7), (4, some 8), (4, some 9), (4, some 10), (4, some 11), (4, some 12), (5, none), (7, none), (9, none)] = true) : (f_X7_enters a1 M).2 p j = M p j := by
  unfold f_X7_enters
  exact (ite2_p (fun _ => ((g_X7_enters_30 (x2_sub hp (by decide))).trans rfl)) (fun _ => (ite2_p (fun _ => ((g_X7_enters_30 (x2_sub hp (by decide))).trans rfl)) (fun _ => ((g_X7_enters_35 (x2_sub hp (by decide))).trans rfl)))))
theorem g_X7_workOff_36 {p j : Nat} {s0 : Int32} {M : St} (hp : xno2 p j [(8, some 7)] = true) : (f_X7_workOff_36 s0 M) p j = M p j := by
  unfold f_X7_workOff_36
  exact ((xup_o2 (x2_field 8 7 hp (by decide))).trans rfl)
theorem g_X7_workOff_31 {p j : Nat} {M : St} (hp : xno2 p j [(8, some 7)] = true) : (f_X7_workOff_31 M) p j = M p j := by
  unfold f_X7_workOff_31
  exact ((g_X7_workOff_36 (x2_sub hp (by decide))).trans rfl)
theorem g_X7_workOff {p j : Nat} {a1 : Int32} {M : St} (hp : xno2 p j [(2, none), (3, none), (4, some 3), (4, some 4), (4, some 5), (4, some 7), (4, some 8), (4, some 9), (4, some 10), (4, some 11), (4, some 12), (5, none), (7, none), (8, some 7), (9, none)] = true) : (f_X7_workOff a1 M) p j = M p j := by
  unfold f_X7_workOff
  exact (xb2_ps ((g_X7_enters (x2_sub hp (by decide))).trans rfl) (fun q1 hq1 => (ite2_s (fun _ => (ite2_s (fun _ => (xb2_ps ((g_X7_enters (x2_sub hp (by decide))).trans hq1) (fun q12 hq12 => (ite2_s (fun _ => ((g_X7_workOff_31 (x2_sub hp (by decide))).trans hq12)) (fun _ => ((g_X7_workOff_36 (x2_sub hp (by decide))).trans hq12)))))) (fun _ => ((g_X7_workOff_31 (x2_sub hp (by decide))).trans hq1)))) (fun _ => hq1))))
theorem g_X7_interrupt {p j : Nat} {a1 : Int32} {M : St} (hp : xno2 p j [(2, none), (3, none), (4, some 3), (4, some 4), (4, some 5), (4, some 7), (4, some 8), (4, some 9), (4, some 10), (4, some 11), (4, some 12), (5, none), (7, none), (8, some 7), (8, some 8), (9, none)] = true) : (f_X7_interrupt a1 M).2 p j = M p j := by
  unfold f_X7_interrupt
  exact (xb2_sp ((g_X7_workOff (x2_sub hp (by decide))).trans ((xup_o2 (x2_field 8 8 hp (by decide))).trans rfl)) (fun q2 hq2 => hq2))
theorem g_X6_fetch_13 {p j : Nat} (hp : xno2 p j [(2, some 17), (4, some 3), (4, some 4), (4, some 10), (4, some 11), (4, some 12)] = true) : ∀ (n : Nat) (x1 : Int32) (x2 : Int32) (x3 : Int32) (M : St), (f_X6_fetch_13 n x1 x2 x3 M).2 p j = M p j := by
  intro n
  induction n with
  | zero => intros; rfl
  | succ n ih =>
    intro x1 x2 x3 M
    unfold f_X6_fetch_13
    exact (ite2_p (fun _ => (ite2_p (fun _ => rfl) (fun _ => rfl))) (fun _ => (xb2_pp ((g_X2_read (x2_sub hp (by decide))).trans rfl) (fun q9 hq9 => ((ih _ _ _ _).trans ((xup_o2 (x2_field 2 17 hp (by decide))).trans hq9))))))
theorem g_X6_fetch_12 {p j : Nat} {x1 : Int32} {x2 : Int32} {s0 : Int32} {M : St} (hp : xno2 p j [(2, some 17), (4, some 3), (4, some 4), (4, some 10), (4, some 11), (4, some 12)] = true) : (f_X6_fetch_12 x1 x2 s0 M).2 p j = M p j := by
  unfold f_X6_fetch_12
  exact ((g_X6_fetch_13 (x2_sub hp (by decide)) _ _ _ _ _).trans rfl)
theorem g_X6_fetch {p j : Nat} {a1 : Int32} {M : St} (hp : xno2 p j [(2, some 17), (4, some 3), (4, some 4), (4, some 10), (4, some 11), (4, some 12)] = true) : (f_X6_fetch a1 M).2 p j = M p j := by
  unfold f_X6_fetch
  exact (ite2_p (fun _ => ((g_X6_fetch_12 (x2_sub hp (by decide))).trans rfl)) (fun _ => ((g_X6_fetch_12 (x2_sub hp (by decide))).trans rfl)))
theorem g_X3_pair {p j : Nat} {a1 : Nat} {a2 : Int32} {a3 : Int32} {a4 : Int32} {a5 : Int32} {M : St} (hp : xno2 p j [(11, some 1), (11, some 2), (11, some 3)] = true) : (f_X3_pair a1 a2 a3 a4 a5 M).2 p j = M p j := by
  unfold f_X3_pair
  exact (ite2_p (fun _ => ((xup_o2 (x2_field 11 1 hp (by decide))).trans ((xup_o2 (x2_field 11 3 hp (by decide))).trans ((xup_o2 (x2_field 11 2 hp (by decide))).trans rfl)))) (fun _ => ((xup_o2 (x2_field 11 1 hp (by decide))).trans ((xup_o2 (x2_field 11 3 hp (by decide))).trans ((xup_o2 (x2_field 11 2 hp (by decide))).trans rfl)))))
theorem g_X3_moving_68 {p j : Nat} {x1 : Int32} {x2 : Int32} {x3 : Int32} {s0 : Nat} {M : St} (hp : xno2 p j [(11, some 1), (11, some 2), (11, some 3)] = true) : (f_X3_moving_68 x1 x2 x3 s0 M).2 p j = M p j := by
  unfold f_X3_moving_68
  exact (xb2_pp ((g_X3_pair (x2_sub hp (by decide))).trans rfl) (fun q31 hq31 => hq31))
theorem g_X3_moving_50 {p j : Nat} {x1 : Int32} {x2 : Int32} {s0 : Int32} {M : St} (hp : xno2 p j [(11, some 1), (11, some 2), (11, some 3)] = true) : (f_X3_moving_50 x1 x2 s0 M).2 p j = M p j := by
  unfold f_X3_moving_50
  exact (ite2_p (fun _ => ((g_X3_moving_68 (x2_sub hp (by decide))).trans rfl)) (fun _ => ((g_X3_moving_68 (x2_sub hp (by decide))).trans rfl)))
theorem g_X3_moving_49 {p j : Nat} {x1 : Int32} {x2 : Int32} {M : St} (hp : xno2 p j [(11, some 1), (11, some 2), (11, some 3)] = true) : (f_X3_moving_49 x1 x2 M).2 p j = M p j := by
  unfold f_X3_moving_49
  exact ((g_X3_moving_50 (x2_sub hp (by decide))).trans rfl)
theorem g_X3_moving {p j : Nat} {M : St} (hp : xno2 p j [(11, some 1), (11, some 2), (11, some 3)] = true) : (f_X3_moving M).2 p j = M p j := by
  unfold f_X3_moving
  exact (ite2_p (fun _ => ((g_X3_moving_49 (x2_sub hp (by decide))).trans rfl)) (fun _ => (ite2_p (fun _ => ((g_X3_moving_49 (x2_sub hp (by decide))).trans rfl)) (fun _ => (ite2_p (fun _ => ((g_X3_moving_49 (x2_sub hp (by decide))).trans rfl)) (fun _ => ((g_X3_moving_50 (x2_sub hp (by decide))).trans rfl)))))))
theorem g_X3_single {p j : Nat} {a1 : Nat} {a2 : Int32} {a3 : Int32} {M : St} (hp : xno2 p j [(11, some 1), (11, some 2), (11, some 3)] = true) : (f_X3_single a1 a2 a3 M).2 p j = M p j := by
  unfold f_X3_single
  exact (xb2_pp ((g_X3_pair (x2_sub hp (by decide))).trans rfl) (fun q7 hq7 => hq7))
theorem g_X3_ofGroupThree_152 {p j : Nat} {x1 : Int32} {x2 : Int32} {M : St} (hp : xno2 p j [(11, some 1), (11, some 2), (11, some 3)] = true) : (f_X3_ofGroupThree_152 x1 x2 M).2 p j = M p j := by
  unfold f_X3_ofGroupThree_152
  exact (xb2_pp ((g_X3_single (x2_sub hp (by decide))).trans rfl) (fun q102 hq102 => hq102))
theorem g_X3_ofGroupThree_172 {p j : Nat} {x1 : Int32} {x2 : Int32} {M : St} (hp : xno2 p j [(11, some 1), (11, some 2), (11, some 3)] = true) : (f_X3_ofGroupThree_172 x1 x2 M).2 p j = M p j := by
  unfold f_X3_ofGroupThree_172
  exact (xb2_pp ((g_X3_single (x2_sub hp (by decide))).trans rfl) (fun q105 hq105 => hq105))
theorem g_X3_ofGroupThree_200 {p j : Nat} {x1 : Int32} {x2 : Int32} {M : St} (hp : xno2 p j [(11, some 1), (11, some 2), (11, some 3)] = true) : (f_X3_ofGroupThree_200 x1 x2 M).2 p j = M p j := by
  unfold f_X3_ofGroupThree_200
  exact (xb2_pp ((g_X3_single (x2_sub hp (by decide))).trans rfl) (fun q108 hq108 => hq108))
theorem g_X3_ofGroupThree_229 {p j : Nat} {x1 : Int32} {x2 : Int32} {M : St} (hp : xno2 p j [(11, some 1), (11, some 2), (11, some 3)] = true) : (f_X3_ofGroupThree_229 x1 x2 M).2 p j = M p j := by
  unfold f_X3_ofGroupThree_229
  exact (xb2_pp ((g_X3_single (x2_sub hp (by decide))).trans rfl) (fun q111 hq111 => hq111))
theorem g_X3_ofGroupThree_252 {p j : Nat} {x1 : Int32} {x2 : Int32} {M : St} (hp : xno2 p j [(11, some 1), (11, some 2), (11, some 3)] = true) : (f_X3_ofGroupThree_252 x1 x2 M).2 p j = M p j := by
  unfold f_X3_ofGroupThree_252
  exact (xb2_pp ((g_X3_single (x2_sub hp (by decide))).trans rfl) (fun q114 hq114 => hq114))
theorem g_X3_ofGroupThree_310 {p j : Nat} {x1 : Int32} {M : St} (hp : xno2 p j [(11, some 1), (11, some 2), (11, some 3)] = true) : (f_X3_ofGroupThree_310 x1 M).2 p j = M p j := by
  unfold f_X3_ofGroupThree_310
  exact (ite2_p (fun _ => (xb2_pp ((g_X3_single (x2_sub hp (by decide))).trans rfl) (fun q129 hq129 => hq129))) (fun _ => (xb2_pp ((g_X3_single (x2_sub hp (by decide))).trans rfl) (fun q125 hq125 => hq125))))
theorem g_X3_ofGroupThree_348 {p j : Nat} {x1 : Int32} {M : St} (hp : xno2 p j [(11, some 1), (11, some 2), (11, some 3)] = true) : (f_X3_ofGroupThree_348 x1 M).2 p j = M p j := by
  unfold f_X3_ofGroupThree_348
  exact (xb2_pp ((g_X3_single (x2_sub hp (by decide))).trans rfl) (fun q135 hq135 => hq135))
theorem g_X3_ofGroupThree {p j : Nat} {M : St} (hp : xno2 p j [(11, some 1), (11, some 2), (11, some 3)] = true) : (f_X3_ofGroupThree M).2 p j = M p j := by
  unfold f_X3_ofGroupThree
  exact (ite2_p (fun _ => ((g_X3_ofGroupThree_152 (x2_sub hp (by decide))).trans rfl)) (fun _ => (ite2_p (fun _ => ((g_X3_ofGroupThree_152 (x2_sub hp (by decide))).trans rfl)) (fun _ => (ite2_p (fun _ => ((g_X3_ofGroupThree_152 (x2_sub hp (by decide))).trans rfl)) (fun _ => (ite2_p (fun _ => (xb2_pp ((g_X3_single (x2_sub hp (by decide))).trans rfl) (fun q11 hq11 => hq11))) (fun _ => (ite2_p (fun _ => ((g_X3_ofGroupThree_172 (x2_sub hp (by decide))).trans rfl)) (fun _ => (ite2_p (fun _ => ((g_X3_ofGroupThree_172 (x2_sub hp (by decide))).trans rfl)) (fun _ => (ite2_p (fun _ => ((g_X3_ofGroupThree_172 (x2_sub hp (by decide))).trans rfl)) (fun _ => (ite2_p (fun _ => (xb2_pp ((g_X3_single (x2_sub hp (by decide))).trans rfl) (fun q24 hq24 => hq24))) (fun _ => (ite2_p (fun _ => ((g_X3_ofGroupThree_200 (x2_sub hp (by decide))).trans rfl)) (fun _ => (ite2_p (fun _ => ((g_X3_ofGroupThree_200 (x2_sub hp (by decide))).trans rfl)) (fun _ => (ite2_p (fun _ => ((g_X3_ofGroupThree_200 (x2_sub hp (by decide))).trans rfl)) (fun _ => (ite2_p (fun _ => (xb2_pp ((g_X3_single (x2_sub hp (by decide))).trans rfl) (fun q37 hq37 => hq37))) (fun _ => (ite2_p (fun _ => ((g_X3_ofGroupThree_229 (x2_sub hp (by decide))).trans rfl)) (fun _ => (ite2_p (fun _ => ((g_X3_ofGroupThree_229 (x2_sub hp (by decide))).trans rfl)) (fun _ => (ite2_p (fun _ => ((g_X3_ofGroupThree_229 (x2_sub hp (by decide))).trans rfl)) (fun _ => (ite2_p (fun _ => (xb2_pp ((g_X3_single (x2_sub hp (by decide))).trans rfl) (fun q44 hq44 => hq44))) (fun _ => (ite2_p (fun _ => ((g_X3_ofGroupThree_252 (x2_sub hp (by decide))).trans rfl)) (fun _ => (ite2_p (fun _ => ((g_X3_ofGroupThree_252 (x2_sub hp (by decide))).trans rfl)) (fun _ => (ite2_p (fun _ => ((g_X3_ofGroupThree_252 (x2_sub hp (by decide))).trans rfl)) (fun _ => (ite2_p (fun _ => (xb2_pp ((g_X3_single (x2_sub hp (by decide))).trans rfl) (fun q51 hq51 => hq51))) (fun _ => (ite2_p (fun _ => (ite2_p (fun _ => (xb2_pp ((g_X3_single (x2_sub hp (by decide))).trans rfl) (fun q70 hq70 => hq70))) (fun _ => (xb2_pp ((g_X3_single (x2_sub hp (by decide))).trans rfl) (fun q66 hq66 => hq66))))) (fun _ => (ite2_p (fun _ => ((g_X3_ofGroupThree_310 (x2_sub hp (by decide))).trans rfl)) (fun _ => (ite2_p (fun _ => ((g_X3_ofGroupThree_310 (x2_sub hp (by decide))).trans rfl)) (fun _ => (ite2_p (fun _ => rfl) (fun _ => (ite2_p (fun _ => ((g_X3_ofGroupThree_348 (x2_sub hp (by decide))).trans rfl)) (fun _ => (ite2_p (fun _ => ((g_X3_ofGroupThree_348 (x2_sub hp (by decide))).trans rfl)) (fun _ => (ite2_p (fun _ => (xb2_pp ((g_X3_single (x2_sub hp (by decide))).trans rfl) (fun q85 hq85 => hq85))) (fun _ => (ite2_p (fun _ => (xb2_pp ((g_X3_single (x2_sub hp (by decide))).trans rfl) (fun q95 hq95 => hq95))) (fun _ => (ite2_p (fun _ => rfl) (fun _ => rfl))))))))))))))))))))))))))))))))))))))))))))))))))))))))))
theorem g_X3_withAddress_12 {p j : Nat} {x1 : Nat} {s0 : Int32} {M : St} (hp : xno2 p j [(11, some 1), (11, some 2), (11, some 3)] = true) : (f_X3_withAddress_12 x1 s0 M).2 p j = M p j := by
  unfold f_X3_withAddress_12
  exact (xb2_pp ((g_X3_pair (x2_sub hp (by decide))).trans rfl) (fun q19 hq19 => hq19))
theorem g_X3_withAddress {p j : Nat} {a1 : Nat} {M : St} (hp : xno2 p j [(11, some 1), (11, some 2), (11, some 3)] = true) : (f_X3_withAddress a1 M).2 p j = M p j := by
  unfold f_X3_withAddress
  exact (ite2_p (fun _ => ((g_X3_withAddress_12 (x2_sub hp (by decide))).trans rfl)) (fun _ => ((g_X3_withAddress_12 (x2_sub hp (by decide))).trans rfl)))
theorem g_X3_summing {p j : Nat} {a1 : Nat} {a2 : Nat} {a3 : Nat} {M : St} (hp : xno2 p j [(11, some 1), (11, some 2), (11, some 3)] = true) : (f_X3_summing a1 a2 a3 M).2 p j = M p j := by
  unfold f_X3_summing
  exact (ite2_p (fun _ => (xb2_pp ((g_X3_withAddress (x2_sub hp (by decide))).trans rfl) (fun q78 hq78 => hq78))) (fun _ => (ite2_p (fun _ => (xb2_pp ((g_X3_pair (x2_sub hp (by decide))).trans rfl) (fun q74 hq74 => hq74))) (fun _ => (ite2_p (fun _ => (xb2_pp ((g_X3_pair (x2_sub hp (by decide))).trans rfl) (fun q24 hq24 => hq24))) (fun _ => (ite2_p (fun _ => (xb2_pp ((g_X3_pair (x2_sub hp (by decide))).trans rfl) (fun q40 hq40 => hq40))) (fun _ => (xb2_pp ((g_X3_pair (x2_sub hp (by decide))).trans rfl) (fun q55 hq55 => hq55))))))))))
theorem g_X3_comparing {p j : Nat} {M : St} (hp : xno2 p j [(11, some 1), (11, some 2), (11, some 3)] = true) : (f_X3_comparing M).2 p j = M p j := by
  unfold f_X3_comparing
  exact (ite2_p (fun _ => (xb2_pp ((g_X3_withAddress (x2_sub hp (by decide))).trans rfl) (fun q69 hq69 => hq69))) (fun _ => (ite2_p (fun _ => (xb2_pp ((g_X3_pair (x2_sub hp (by decide))).trans rfl) (fun q65 hq65 => hq65))) (fun _ => (ite2_p (fun _ => (xb2_pp ((g_X3_pair (x2_sub hp (by decide))).trans rfl) (fun q46 hq46 => hq46))) (fun _ => (xb2_pp ((g_X3_pair (x2_sub hp (by decide))).trans rfl) (fun q30 hq30 => hq30))))))))
theorem g_X3_exchanging_62 {p j : Nat} {s0 : Int32} {s1 : Int32} {s2 : Int32} {s3 : Int32} {s4 : Nat} {M : St} (hp : xno2 p j [(11, some 1), (11, some 2), (11, some 3)] = true) : (f_X3_exchanging_62 s0 s1 s2 s3 s4 M).2 p j = M p j := by
  unfold f_X3_exchanging_62
  exact (xb2_pp ((g_X3_pair (x2_sub hp (by decide))).trans rfl) (fun q30 hq30 => hq30))
theorem g_X3_exchanging_57 {p j : Nat} {s0 : Int32} {s1 : Int32} {s2 : Int32} {s3 : Nat} {M : St} (hp : xno2 p j [(11, some 1), (11, some 2), (11, some 3)] = true) : (f_X3_exchanging_57 s0 s1 s2 s3 M).2 p j = M p j := by
  unfold f_X3_exchanging_57
  exact ((g_X3_exchanging_62 (x2_sub hp (by decide))).trans rfl)
theorem g_X3_exchanging_30 {p j : Nat} {s0 : Int32} {M : St} (hp : xno2 p j [(11, some 1), (11, some 2), (11, some 3)] = true) : (f_X3_exchanging_30 s0 M).2 p j = M p j := by
  unfold f_X3_exchanging_30
  exact (ite2_p (fun _ => ((g_X3_exchanging_57 (x2_sub hp (by decide))).trans rfl)) (fun _ => (ite2_p (fun _ => ((g_X3_exchanging_57 (x2_sub hp (by decide))).trans rfl)) (fun _ => ((g_X3_exchanging_62 (x2_sub hp (by decide))).trans rfl)))))
theorem g_X3_exchanging_26 {p j : Nat} {M : St} (hp : xno2 p j [(11, some 1), (11, some 2), (11, some 3)] = true) : (f_X3_exchanging_26 M).2 p j = M p j := by
  unfold f_X3_exchanging_26
  exact ((g_X3_exchanging_30 (x2_sub hp (by decide))).trans rfl)
theorem g_X3_exchanging {p j : Nat} {M : St} (hp : xno2 p j [(11, some 1), (11, some 2), (11, some 3)] = true) : (f_X3_exchanging M).2 p j = M p j := by
  unfold f_X3_exchanging
  exact (ite2_p (fun _ => (ite2_p (fun _ => ((g_X3_exchanging_30 (x2_sub hp (by decide))).trans rfl)) (fun _ => ((g_X3_exchanging_26 (x2_sub hp (by decide))).trans rfl)))) (fun _ => ((g_X3_exchanging_26 (x2_sub hp (by decide))).trans rfl)))
theorem g_X3_joining_123 {p j : Nat} {x1 : Nat} {x3 : Nat} {x4 : Int32} {M : St} (hp : xno2 p j [(11, some 1), (11, some 2), (11, some 3)] = true) : (f_X3_joining_123 x1 x3 x4 M).2 p j = M p j := by
  unfold f_X3_joining_123
  exact (ite2_p (fun _ => (xb2_pp ((g_X3_pair (x2_sub hp (by decide))).trans rfl) (fun q101 hq101 => hq101))) (fun _ => (ite2_p (fun _ => (xb2_pp ((g_X3_exchanging (x2_sub hp (by decide))).trans rfl) (fun q88 hq88 => hq88))) (fun _ => rfl))))
theorem g_X3_joining {p j : Nat} {a1 : Nat} {a2 : Nat} {a3 : Nat} {M : St} (hp : xno2 p j [(11, some 1), (11, some 2), (11, some 3)] = true) : (f_X3_joining a1 a2 a3 M).2 p j = M p j := by
  unfold f_X3_joining
  exact (ite2_p (fun _ => (xb2_pp ((g_X3_pair (x2_sub hp (by decide))).trans rfl) (fun q79 hq79 => hq79))) (fun _ => (ite2_p (fun _ => (xb2_pp ((g_X3_pair (x2_sub hp (by decide))).trans rfl) (fun q66 hq66 => hq66))) (fun _ => (ite2_p (fun _ => (ite2_p (fun _ => (ite2_p (fun _ => (xb2_pp ((g_X3_pair (x2_sub hp (by decide))).trans rfl) (fun q34 hq34 => hq34))) (fun _ => ((g_X3_joining_123 (x2_sub hp (by decide))).trans rfl)))) (fun _ => ((g_X3_joining_123 (x2_sub hp (by decide))).trans rfl)))) (fun _ => (xb2_pp ((g_X3_pair (x2_sub hp (by decide))).trans rfl) (fun q50 hq50 => hq50))))))))
theorem g_X3_quick_85 {p j : Nat} {x1 : Int32} {s0 : Nat} {M : St} (hp : xno2 p j [(11, some 1), (11, some 2), (11, some 3)] = true) : (f_X3_quick_85 x1 s0 M).2 p j = M p j := by
  unfold f_X3_quick_85
  exact (xb2_pp ((g_X3_single (x2_sub hp (by decide))).trans rfl) (fun q51 hq51 => hq51))
theorem g_X3_quick_67 {p j : Nat} {s0 : Int32} {M : St} (hp : xno2 p j [(11, some 1), (11, some 2), (11, some 3)] = true) : (f_X3_quick_67 s0 M).2 p j = M p j := by
  unfold f_X3_quick_67
  exact (ite2_p (fun _ => ((g_X3_quick_85 (x2_sub hp (by decide))).trans rfl)) (fun _ => ((g_X3_quick_85 (x2_sub hp (by decide))).trans rfl)))
theorem g_X3_quick_66 {p j : Nat} {M : St} (hp : xno2 p j [(11, some 1), (11, some 2), (11, some 3)] = true) : (f_X3_quick_66 M).2 p j = M p j := by
  unfold f_X3_quick_66
  exact ((g_X3_quick_67 (x2_sub hp (by decide))).trans rfl)
theorem g_X3_quick {p j : Nat} {M : St} (hp : xno2 p j [(11, some 1), (11, some 2), (11, some 3)] = true) : (f_X3_quick M).2 p j = M p j := by
  unfold f_X3_quick
  exact (ite2_p (fun _ => (ite2_p (fun _ => rfl) (fun _ => (xb2_pp ((g_X3_single (x2_sub hp (by decide))).trans rfl) (fun q38 hq38 => hq38))))) (fun _ => (ite2_p (fun _ => ((g_X3_quick_66 (x2_sub hp (by decide))).trans rfl)) (fun _ => (ite2_p (fun _ => ((g_X3_quick_66 (x2_sub hp (by decide))).trans rfl)) (fun _ => ((g_X3_quick_67 (x2_sub hp (by decide))).trans rfl)))))))
theorem g_X3_bits_36 {p j : Nat} {x3 : Int32} {s0 : Int32} {s1 : Nat} {M : St} (hp : xno2 p j [(11, some 1), (11, some 2), (11, some 3)] = true) : (f_X3_bits_36 x3 s0 s1 M).2 p j = M p j := by
  unfold f_X3_bits_36
  exact (xb2_pp ((g_X3_single (x2_sub hp (by decide))).trans rfl) (fun q22 hq22 => hq22))
theorem g_X3_bits_18 {p j : Nat} {x1 : Nat} {s0 : Int32} {M : St} (hp : xno2 p j [(11, some 1), (11, some 2), (11, some 3)] = true) : (f_X3_bits_18 x1 s0 M).2 p j = M p j := by
  unfold f_X3_bits_18
  exact (ite2_p (fun _ => ((g_X3_bits_36 (x2_sub hp (by decide))).trans rfl)) (fun _ => ((g_X3_bits_36 (x2_sub hp (by decide))).trans rfl)))
theorem g_X3_bits {p j : Nat} {a1 : Nat} {a2 : Int32} {M : St} (hp : xno2 p j [(11, some 1), (11, some 2), (11, some 3)] = true) : (f_X3_bits a1 a2 M).2 p j = M p j := by
  unfold f_X3_bits
  exact (ite2_p (fun _ => ((g_X3_bits_18 (x2_sub hp (by decide))).trans rfl)) (fun _ => ((g_X3_bits_18 (x2_sub hp (by decide))).trans rfl)))
theorem g_X3_byRegister {p j : Nat} {M : St} (hp : xno2 p j [(11, some 1), (11, some 2), (11, some 3)] = true) : (f_X3_byRegister M).2 p j = M p j := by
  unfold f_X3_byRegister
  exact (ite2_p (fun _ => rfl) (fun _ => (xb2_pp ((g_X3_bits (x2_sub hp (by decide))).trans rfl) (fun q11 hq11 => hq11))))
theorem g_X3_withNumber_100 {p j : Nat} {s0 : Int32} {s1 : Int32} {s2 : Int32} {s3 : Int32} {s4 : Nat} {M : St} (hp : xno2 p j [(11, some 1), (11, some 2), (11, some 3)] = true) : (f_X3_withNumber_100 s0 s1 s2 s3 s4 M).2 p j = M p j := by
  unfold f_X3_withNumber_100
  exact (xb2_pp ((g_X3_pair (x2_sub hp (by decide))).trans rfl) (fun q45 hq45 => hq45))
theorem g_X3_withNumber_99 {p j : Nat} {s0 : Int32} {s1 : Int32} {s2 : Int32} {s3 : Nat} {M : St} (hp : xno2 p j [(11, some 1), (11, some 2), (11, some 3)] = true) : (f_X3_withNumber_99 s0 s1 s2 s3 M).2 p j = M p j := by
  unfold f_X3_withNumber_99
  exact ((g_X3_withNumber_100 (x2_sub hp (by decide))).trans rfl)
theorem g_X3_withNumber_65 {p j : Nat} {x1 : Nat} {M : St} (hp : xno2 p j [(11, some 1), (11, some 2), (11, some 3)] = true) : (f_X3_withNumber_65 x1 M).2 p j = M p j := by
  unfold f_X3_withNumber_65
  exact (ite2_p (fun _ => ((g_X3_withNumber_99 (x2_sub hp (by decide))).trans rfl)) (fun _ => (ite2_p (fun _ => ((g_X3_withNumber_99 (x2_sub hp (by decide))).trans rfl)) (fun _ => ((g_X3_withNumber_100 (x2_sub hp (by decide))).trans rfl)))))
theorem g_X3_withNumber_26 {p j : Nat} {x1 : Nat} {s0 : Int32} {M : St} (hp : xno2 p j [(11, some 1), (11, some 2), (11, some 3)] = true) : (f_X3_withNumber_26 x1 s0 M).2 p j = M p j := by
  unfold f_X3_withNumber_26
  exact (ite2_p (fun _ => ((g_X3_withNumber_65 (x2_sub hp (by decide))).trans rfl)) (fun _ => (ite2_p (fun _ => (ite2_p (fun _ => ((g_X3_withNumber_65 (x2_sub hp (by decide))).trans rfl)) (fun _ => (ite2_p (fun _ => rfl) (fun _ => rfl))))) (fun _ => ((g_X3_withNumber_65 (x2_sub hp (by decide))).trans rfl)))))
theorem g_X3_withNumber_21 {p j : Nat} {x1 : Nat} {M : St} (hp : xno2 p j [(11, some 1), (11, some 2), (11, some 3)] = true) : (f_X3_withNumber_21 x1 M).2 p j = M p j := by
  unfold f_X3_withNumber_21
  exact ((g_X3_withNumber_26 (x2_sub hp (by decide))).trans rfl)
theorem g_X3_withNumber {p j : Nat} {a1 : Nat} {M : St} (hp : xno2 p j [(11, some 1), (11, some 2), (11, some 3)] = true) : (f_X3_withNumber a1 M).2 p j = M p j := by
  unfold f_X3_withNumber
  exact (ite2_p (fun _ => ((g_X3_withNumber_21 (x2_sub hp (by decide))).trans rfl)) (fun _ => (ite2_p (fun _ => ((g_X3_withNumber_21 (x2_sub hp (by decide))).trans rfl)) (fun _ => (ite2_p (fun _ => ((g_X3_withNumber_21 (x2_sub hp (by decide))).trans rfl)) (fun _ => ((g_X3_withNumber_26 (x2_sub hp (by decide))).trans rfl)))))))
theorem g_X3_byNumber_108 {p j : Nat} {s0 : Int32} {s1 : Nat} {M : St} (hp : xno2 p j [(11, some 1), (11, some 2), (11, some 3)] = true) : (f_X3_byNumber_108 s0 s1 M).2 p j = M p j := by
  unfold f_X3_byNumber_108
  exact (xb2_pp ((g_X3_bits (x2_sub hp (by decide))).trans rfl) (fun q43 hq43 => hq43))
theorem g_X3_byNumber_107 {p j : Nat} {s0 : Nat} {M : St} (hp : xno2 p j [(11, some 1), (11, some 2), (11, some 3)] = true) : (f_X3_byNumber_107 s0 M).2 p j = M p j := by
  unfold f_X3_byNumber_107
  exact ((g_X3_byNumber_108 (x2_sub hp (by decide))).trans rfl)
theorem g_X3_byNumber {p j : Nat} {M : St} (hp : xno2 p j [(11, some 1), (11, some 2), (11, some 3)] = true) : (f_X3_byNumber M).2 p j = M p j := by
  unfold f_X3_byNumber
  exact (ite2_p (fun _ => (xb2_pp ((g_X3_withNumber (x2_sub hp (by decide))).trans rfl) (fun q5 hq5 => hq5))) (fun _ => (ite2_p (fun _ => (xb2_pp ((g_X3_withNumber (x2_sub hp (by decide))).trans rfl) (fun q9 hq9 => hq9))) (fun _ => (ite2_p (fun _ => (xb2_pp ((g_X3_withNumber (x2_sub hp (by decide))).trans rfl) (fun q13 hq13 => hq13))) (fun _ => (ite2_p (fun _ => (xb2_pp ((g_X3_withNumber (x2_sub hp (by decide))).trans rfl) (fun q17 hq17 => hq17))) (fun _ => (ite2_p (fun _ => (ite2_p (fun _ => ((g_X3_byNumber_107 (x2_sub hp (by decide))).trans rfl)) (fun _ => (ite2_p (fun _ => ((g_X3_byNumber_107 (x2_sub hp (by decide))).trans rfl)) (fun _ => ((g_X3_byNumber_108 (x2_sub hp (by decide))).trans rfl)))))) (fun _ => (ite2_p (fun _ => (xb2_pp ((g_X3_withNumber (x2_sub hp (by decide))).trans rfl) (fun q36 hq36 => hq36))) (fun _ => (ite2_p (fun _ => (xb2_pp ((g_X3_withNumber (x2_sub hp (by decide))).trans rfl) (fun q40 hq40 => hq40))) (fun _ => rfl))))))))))))))
theorem g_X3_shifting_57 {p j : Nat} {s0 : Int32} {s1 : Int32} {s2 : Nat} {M : St} (hp : xno2 p j [(11, some 1), (11, some 2), (11, some 3)] = true) : (f_X3_shifting_57 s0 s1 s2 M).2 p j = M p j := by
  unfold f_X3_shifting_57
  exact (xb2_pp ((g_X3_single (x2_sub hp (by decide))).trans rfl) (fun q34 hq34 => hq34))
theorem g_X3_shifting_56 {p j : Nat} {s0 : Int32} {s1 : Nat} {M : St} (hp : xno2 p j [(11, some 1), (11, some 2), (11, some 3)] = true) : (f_X3_shifting_56 s0 s1 M).2 p j = M p j := by
  unfold f_X3_shifting_56
  exact ((g_X3_shifting_57 (x2_sub hp (by decide))).trans rfl)
theorem g_X3_shifting {p j : Nat} {M : St} (hp : xno2 p j [(11, some 1), (11, some 2), (11, some 3)] = true) : (f_X3_shifting M).2 p j = M p j := by
  unfold f_X3_shifting
  exact (ite2_p (fun _ => (ite2_p (fun _ => ((g_X3_shifting_56 (x2_sub hp (by decide))).trans rfl)) (fun _ => (ite2_p (fun _ => ((g_X3_shifting_56 (x2_sub hp (by decide))).trans rfl)) (fun _ => ((g_X3_shifting_57 (x2_sub hp (by decide))).trans rfl)))))) (fun _ => (xb2_pp ((g_X3_pair (x2_sub hp (by decide))).trans rfl) (fun q31 hq31 => hq31))))
theorem g_X3_ofGroupFourteen {p j : Nat} {M : St} (hp : xno2 p j [(11, some 1), (11, some 2), (11, some 3)] = true) : (f_X3_ofGroupFourteen M).2 p j = M p j := by
  unfold f_X3_ofGroupFourteen
  exact (ite2_p (fun _ => rfl) (fun _ => (ite2_p (fun _ => (xb2_pp ((g_X3_single (x2_sub hp (by decide))).trans rfl) (fun q16 hq16 => hq16))) (fun _ => (ite2_p (fun _ => (xb2_pp ((g_X3_single (x2_sub hp (by decide))).trans rfl) (fun q26 hq26 => hq26))) (fun _ => rfl))))))
theorem g_X3_decode_88 {p j : Nat} {M : St} (hp : xno2 p j [(11, some 1), (11, some 2), (11, some 3)] = true) : (f_X3_decode_88 M).2 p j = M p j := by
  unfold f_X3_decode_88
  exact (xb2_pp ((g_X3_moving (x2_sub hp (by decide))).trans rfl) (fun q56 hq56 => hq56))
theorem g_X3_decode {p j : Nat} {a1 : Int32} {M : St} (hp : xno2 p j [(11, some 0), (11, some 1), (11, some 2), (11, some 3)] = true) : (f_X3_decode a1 M).2 p j = M p j := by
  unfold f_X3_decode
  exact (ite2_p (fun _ => ((g_X3_decode_88 (x2_sub hp (by decide))).trans ((xup_o2 (x2_field 11 0 hp (by decide))).trans rfl))) (fun _ => (ite2_p (fun _ => ((g_X3_decode_88 (x2_sub hp (by decide))).trans ((xup_o2 (x2_field 11 0 hp (by decide))).trans rfl))) (fun _ => (ite2_p (fun _ => ((g_X3_decode_88 (x2_sub hp (by decide))).trans ((xup_o2 (x2_field 11 0 hp (by decide))).trans rfl))) (fun _ => (ite2_p (fun _ => (xb2_pp ((g_X3_ofGroupThree (x2_sub hp (by decide))).trans ((xup_o2 (x2_field 11 0 hp (by decide))).trans rfl)) (fun q6 hq6 => hq6))) (fun _ => (ite2_p (fun _ => (xb2_pp ((g_X3_summing (x2_sub hp (by decide))).trans ((xup_o2 (x2_field 11 0 hp (by decide))).trans rfl)) (fun q10 hq10 => hq10))) (fun _ => (ite2_p (fun _ => (xb2_pp ((g_X3_summing (x2_sub hp (by decide))).trans ((xup_o2 (x2_field 11 0 hp (by decide))).trans rfl)) (fun q14 hq14 => hq14))) (fun _ => (ite2_p (fun _ => (xb2_pp ((g_X3_comparing (x2_sub hp (by decide))).trans ((xup_o2 (x2_field 11 0 hp (by decide))).trans rfl)) (fun q18 hq18 => hq18))) (fun _ => (ite2_p (fun _ => (xb2_pp ((g_X3_joining (x2_sub hp (by decide))).trans ((xup_o2 (x2_field 11 0 hp (by decide))).trans rfl)) (fun q22 hq22 => hq22))) (fun _ => (ite2_p (fun _ => (xb2_pp ((g_X3_joining (x2_sub hp (by decide))).trans ((xup_o2 (x2_field 11 0 hp (by decide))).trans rfl)) (fun q26 hq26 => hq26))) (fun _ => (ite2_p (fun _ => (xb2_pp ((g_X3_quick (x2_sub hp (by decide))).trans ((xup_o2 (x2_field 11 0 hp (by decide))).trans rfl)) (fun q30 hq30 => hq30))) (fun _ => (ite2_p (fun _ => ((xup_o2 (x2_field 11 0 hp (by decide))).trans rfl)) (fun _ => (ite2_p (fun _ => ((xup_o2 (x2_field 11 0 hp (by decide))).trans rfl)) (fun _ => (ite2_p (fun _ => (ite2_p (fun _ => (xb2_pp ((g_X3_byRegister (x2_sub hp (by decide))).trans ((xup_o2 (x2_field 11 0 hp (by decide))).trans rfl)) (fun q45 hq45 => hq45))) (fun _ => (xb2_pp ((g_X3_byNumber (x2_sub hp (by decide))).trans ((xup_o2 (x2_field 11 0 hp (by decide))).trans rfl)) (fun q41 hq41 => hq41))))) (fun _ => (ite2_p (fun _ => (xb2_pp ((g_X3_shifting (x2_sub hp (by decide))).trans ((xup_o2 (x2_field 11 0 hp (by decide))).trans rfl)) (fun q49 hq49 => hq49))) (fun _ => (ite2_p (fun _ => (xb2_pp ((g_X3_ofGroupFourteen (x2_sub hp (by decide))).trans ((xup_o2 (x2_field 11 0 hp (by decide))).trans rfl)) (fun q53 hq53 => hq53))) (fun _ => ((xup_o2 (x2_field 11 0 hp (by decide))).trans rfl)))))))))))))))))))))))))))))))
theorem g_X7_begin {p j : Nat} {M : St} (hp : xno2 p j [(2, some 17), (3, none), (4, some 3), (4, some 4), (4, some 10), (4, some 11), (4, some 12), (8, some 11), (8, some 12), (11, some 0), (11, some 1), (11, some 2), (11, some 3)] = true) : (f_X7_begin M).2 p j = M p j := by
  unfold f_X7_begin
  exact (xb2_sp ((g_X8_keep (x2_sub hp (by decide))).trans rfl) (fun q1 hq1 => (xb2_pp ((g_X6_fetch (x2_sub hp (by decide))).trans ((xup_o2 (x2_field 8 12 hp (by decide))).trans hq1)) (fun q8 hq8 => (ite2_p (fun _ => (xb2_pp ((g_X3_decode (x2_sub hp (by decide))).trans ((xup_o2 (x2_field 8 11 hp (by decide))).trans hq8)) (fun q14 hq14 => (ite2_p (fun _ => hq14) (fun _ => (ite2_p (fun _ => hq14) (fun _ => hq14))))))) (fun _ => ((xup_o2 (x2_field 8 11 hp (by decide))).trans hq8)))))))
theorem g_X6_find_297 {p j : Nat} {x4 : Int32} {M : St} (hp : xno2 p j [(10, some 3)] = true) : (f_X6_find_297 x4 M) p j = M p j := by
  unfold f_X6_find_297
  exact ((xup_o2 (x2_field 10 3 hp (by decide))).trans rfl)
theorem g_X6_find {p j : Nat} {a1 : Int32} {a2 : Int32} {M : St} (hp : xno2 p j [(2, none), (4, some 3), (4, some 4), (4, some 10), (4, some 11), (4, some 12), (10, some 2), (10, some 3)] = true) : (f_X6_find a1 a2 M) p j = M p j := by
  unfold f_X6_find
  exact (ite2_s (fun _ => ((xup_o2 (x2_field 10 3 hp (by decide))).trans ((xup_o2 (x2_field 10 2 hp (by decide))).trans rfl))) (fun _ => (ite2_s (fun _ => ((xup_o2 (x2_field 10 3 hp (by decide))).trans ((xup_o2 (x2_field 10 2 hp (by decide))).trans rfl))) (fun _ => (ite2_s (fun _ => ((g_X6_find_297 (x2_sub hp (by decide))).trans ((xup_o2 (x2_field 10 2 hp (by decide))).trans rfl))) (fun _ => (ite2_s (fun _ => ((xup_o2 (Or.inl (x2_place 2 hp (by decide)))).trans ((xup_o2 (x2_field 10 3 hp (by decide))).trans ((xup_o2 (x2_field 10 2 hp (by decide))).trans rfl)))) (fun _ => (ite2_s (fun _ => ((xup_o2 (x2_field 10 3 hp (by decide))).trans ((xup_o2 (Or.inl (x2_place 2 hp (by decide)))).trans ((xup_o2 (x2_field 10 2 hp (by decide))).trans rfl)))) (fun _ => (ite2_s (fun _ => (xb2_ps ((g_X6_fetch (x2_sub hp (by decide))).trans ((xup_o2 (x2_field 10 2 hp (by decide))).trans rfl)) (fun q22 hq22 => ((xup_o2 (x2_field 10 3 hp (by decide))).trans hq22)))) (fun _ => (ite2_s (fun _ => (xb2_ps ((g_X6_fetch (x2_sub hp (by decide))).trans ((xup_o2 (x2_field 10 2 hp (by decide))).trans rfl)) (fun q30 hq30 => ((xup_o2 (x2_field 10 3 hp (by decide))).trans hq30)))) (fun _ => (ite2_s (fun _ => (xb2_ps ((g_X6_fetch (x2_sub hp (by decide))).trans ((xup_o2 (x2_field 10 2 hp (by decide))).trans rfl)) (fun q38 hq38 => ((xup_o2 (x2_field 10 3 hp (by decide))).trans hq38)))) (fun _ => (ite2_s (fun _ => (xb2_ps ((g_X6_fetch (x2_sub hp (by decide))).trans ((xup_o2 (x2_field 10 2 hp (by decide))).trans rfl)) (fun q46 hq46 => ((xup_o2 (x2_field 10 3 hp (by decide))).trans hq46)))) (fun _ => (ite2_s (fun _ => (xb2_ps ((g_X6_fetch (x2_sub hp (by decide))).trans ((xup_o2 (x2_field 10 2 hp (by decide))).trans rfl)) (fun q51 hq51 => ((xup_o2 (x2_field 10 3 hp (by decide))).trans hq51)))) (fun _ => (ite2_s (fun _ => (xb2_ps ((g_X6_fetch (x2_sub hp (by decide))).trans ((xup_o2 (x2_field 10 2 hp (by decide))).trans rfl)) (fun q59 hq59 => ((xup_o2 (x2_field 10 3 hp (by decide))).trans hq59)))) (fun _ => (ite2_s (fun _ => (xb2_ps ((g_X6_fetch (x2_sub hp (by decide))).trans ((xup_o2 (x2_field 10 2 hp (by decide))).trans rfl)) (fun q67 hq67 => ((xup_o2 (x2_field 10 3 hp (by decide))).trans hq67)))) (fun _ => ((g_X6_find_297 (x2_sub hp (by decide))).trans ((xup_o2 (x2_field 10 2 hp (by decide))).trans rfl))))))))))))))))))))))))))
theorem g_X6_read {p j : Nat} {a1 : Int32} {M : St} (hp : xno2 p j [(4, some 3), (4, some 4), (4, some 10), (4, some 11), (4, some 12)] = true) : (f_X6_read a1 M).2 p j = M p j := by
  unfold f_X6_read
  exact (ite2_p (fun _ => rfl) (fun _ => (ite2_p (fun _ => (xb2_pp ((g_X2_read (x2_sub hp (by decide))).trans rfl) (fun q7 hq7 => hq7))) (fun _ => rfl))))
theorem g_X4_readSource {p j : Nat} {M : St} (hp : xno2 p j [(2, none), (4, some 3), (4, some 4), (4, some 10), (4, some 11), (4, some 12), (10, some 2), (10, some 3)] = true) : (f_X4_readSource M).2 p j = M p j := by
  unfold f_X4_readSource
  exact (xb2_sp ((g_X6_find (x2_sub hp (by decide))).trans rfl) (fun q1 hq1 => (xb2_pp ((g_X6_read (x2_sub hp (by decide))).trans hq1) (fun q4 hq4 => hq4))))
theorem g_X8_changeFlags {p j : Nat} {a1 : Int32} {a2 : Int32} {M : St} (hp : xno2 p j [(2, some 18)] = true) : (f_X8_changeFlags a1 a2 M) p j = M p j := by
  unfold f_X8_changeFlags
  exact ((xup_o2 (x2_field 2 18 hp (by decide))).trans rfl)
theorem g_X1_tested {p j : Nat} {a1 : Int32} {a2 : Int32} {M : St} (hp : xno2 p j [(2, some 18)] = true) : (f_X1_tested a1 a2 M).2 p j = M p j := by
  unfold f_X1_tested
  exact (xb2_sp ((g_X8_changeFlags (x2_sub hp (by decide))).trans rfl) (fun q4 hq4 => hq4))
theorem g_X6_write {p j : Nat} {a1 : Int32} {a2 : Int32} {M : St} (hp : xno2 p j [(2, none), (4, some 5), (4, some 7), (4, some 8), (4, some 9), (4, some 10), (4, some 11), (4, some 12), (5, none), (7, none)] = true) : (f_X6_write a1 a2 M) p j = M p j := by
  unfold f_X6_write
  exact (ite2_s (fun _ => (xb2_ss ((g_X2_write (x2_sub hp (by decide))).trans rfl) (fun q6 hq6 => hq6))) (fun _ => ((xup_o2 (Or.inl (x2_place 2 hp (by decide)))).trans rfl)))
theorem g_X4_overwrite {p j : Nat} {a1 : Int32} {M : St} (hp : xno2 p j [(2, none), (4, some 3), (4, some 4), (4, some 5), (4, some 7), (4, some 8), (4, some 9), (4, some 10), (4, some 11), (4, some 12), (5, none), (7, none), (10, some 2), (10, some 3)] = true) : (f_X4_overwrite a1 M) p j = M p j := by
  unfold f_X4_overwrite
  exact (xb2_ss ((g_X6_find (x2_sub hp (by decide))).trans rfl) (fun q1 hq1 => (xb2_ss ((g_X6_write (x2_sub hp (by decide))).trans hq1) (fun q4 hq4 => hq4))))
theorem g_X1_total_170 {p j : Nat} {x12 : Int32} {s0 : Int32} {s1 : Int32} {s2 : Int32} {M : St} (hp : xno2 p j [(2, some 18)] = true) : (f_X1_total_170 x12 s0 s1 s2 M).2 p j = M p j := by
  unfold f_X1_total_170
  exact (xb2_sp ((g_X8_changeFlags (x2_sub hp (by decide))).trans rfl) (fun q44 hq44 => hq44))
theorem g_X1_total_159 {p j : Nat} {x12 : Int32} {x14 : Int32} {s0 : Int32} {s1 : Int32} {s2 : Int32} {M : St} (hp : xno2 p j [(2, some 18)] = true) : (f_X1_total_159 x12 x14 s0 s1 s2 M).2 p j = M p j := by
  unfold f_X1_total_159
  exact (ite2_p (fun _ => ((g_X1_total_170 (x2_sub hp (by decide))).trans rfl)) (fun _ => ((g_X1_total_170 (x2_sub hp (by decide))).trans rfl)))
theorem g_X1_total_128 {p j : Nat} {x5 : Int32} {x6 : Int32} {x12 : Int32} {x13 : Int32} {x14 : Int32} {s0 : Int32} {M : St} (hp : xno2 p j [(2, some 18)] = true) : (f_X1_total_128 x5 x6 x12 x13 x14 s0 M).2 p j = M p j := by
  unfold f_X1_total_128
  exact (ite2_p (fun _ => ((g_X1_total_159 (x2_sub hp (by decide))).trans rfl)) (fun _ => ((g_X1_total_159 (x2_sub hp (by decide))).trans rfl)))
theorem g_X1_total_127 {p j : Nat} {x5 : Int32} {x6 : Int32} {x12 : Int32} {x13 : Int32} {x14 : Int32} {M : St} (hp : xno2 p j [(2, some 18)] = true) : (f_X1_total_127 x5 x6 x12 x13 x14 M).2 p j = M p j := by
  unfold f_X1_total_127
  exact ((g_X1_total_128 (x2_sub hp (by decide))).trans rfl)
theorem g_X1_total_112 {p j : Nat} {x1 : Int32} {x5 : Int32} {x6 : Int32} {x12 : Int32} {x13 : Int32} {s0 : Int32} {M : St} (hp : xno2 p j [(2, some 18)] = true) : (f_X1_total_112 x1 x5 x6 x12 x13 s0 M).2 p j = M p j := by
  unfold f_X1_total_112
  exact (ite2_p (fun _ => ((g_X1_total_127 (x2_sub hp (by decide))).trans rfl)) (fun _ => (ite2_p (fun _ => ((g_X1_total_128 (x2_sub hp (by decide))).trans rfl)) (fun _ => ((g_X1_total_127 (x2_sub hp (by decide))).trans rfl)))))
theorem g_X1_total_91 {p j : Nat} {x1 : Int32} {x5 : Int32} {x6 : Int32} {x10 : Int64} {x12 : Int32} {s0 : Int32} {M : St} (hp : xno2 p j [(2, some 18)] = true) : (f_X1_total_91 x1 x5 x6 x10 x12 s0 M).2 p j = M p j := by
  unfold f_X1_total_91
  exact (ite2_p (fun _ => ((g_X1_total_112 (x2_sub hp (by decide))).trans rfl)) (fun _ => ((g_X1_total_112 (x2_sub hp (by decide))).trans rfl)))
theorem g_X1_total_12 {p j : Nat} {x1 : Int32} {x2 : Int32} {x3 : Int32} {x4 : Int32} {x5 : Int32} {x6 : Int32} {s0 : Int32} {M : St} (hp : xno2 p j [(2, some 18)] = true) : (f_X1_total_12 x1 x2 x3 x4 x5 x6 s0 M).2 p j = M p j := by
  unfold f_X1_total_12
  exact (xb2_vp (fun q21 => (ite2_p (fun _ => ((g_X1_total_91 (x2_sub hp (by decide))).trans rfl)) (fun _ => ((g_X1_total_91 (x2_sub hp (by decide))).trans rfl)))))
theorem g_X1_total {p j : Nat} {a1 : Int32} {a2 : Int32} {a3 : Int32} {a4 : Int32} {a5 : Int32} {a6 : Int32} {M : St} (hp : xno2 p j [(2, some 18)] = true) : (f_X1_total a1 a2 a3 a4 a5 a6 M).2 p j = M p j := by
  unfold f_X1_total
  exact (ite2_p (fun _ => ((g_X1_total_12 (x2_sub hp (by decide))).trans rfl)) (fun _ => ((g_X1_total_12 (x2_sub hp (by decide))).trans rfl)))
theorem g_X1_settledInTens_49 {p j : Nat} {x3 : Int32} {s0 : Int32} {s1 : Int32} {s2 : Int32} {M : St} (hp : xno2 p j [(2, some 18)] = true) : (f_X1_settledInTens_49 x3 s0 s1 s2 M).2 p j = M p j := by
  unfold f_X1_settledInTens_49
  exact (xb2_sp ((g_X8_changeFlags (x2_sub hp (by decide))).trans rfl) (fun q9 hq9 => hq9))
theorem g_X1_settledInTens_39 {p j : Nat} {x2 : Int32} {x3 : Int32} {s0 : Int32} {s1 : Int32} {M : St} (hp : xno2 p j [(2, some 18)] = true) : (f_X1_settledInTens_39 x2 x3 s0 s1 M).2 p j = M p j := by
  unfold f_X1_settledInTens_39
  exact (ite2_p (fun _ => ((g_X1_settledInTens_49 (x2_sub hp (by decide))).trans rfl)) (fun _ => ((g_X1_settledInTens_49 (x2_sub hp (by decide))).trans rfl)))
theorem g_X1_settledInTens_17 {p j : Nat} {x2 : Int32} {x3 : Int32} {s0 : Int32} {M : St} (hp : xno2 p j [(2, some 18)] = true) : (f_X1_settledInTens_17 x2 x3 s0 M).2 p j = M p j := by
  unfold f_X1_settledInTens_17
  exact (ite2_p (fun _ => ((g_X1_settledInTens_39 (x2_sub hp (by decide))).trans rfl)) (fun _ => ((g_X1_settledInTens_39 (x2_sub hp (by decide))).trans rfl)))
theorem g_X1_settledInTens {p j : Nat} {a1 : Int32} {a2 : Int32} {M : St} (hp : xno2 p j [(2, some 18)] = true) : (f_X1_settledInTens a1 a2 M).2 p j = M p j := by
  unfold f_X1_settledInTens
  exact (ite2_p (fun _ => ((g_X1_settledInTens_17 (x2_sub hp (by decide))).trans rfl)) (fun _ => ((g_X1_settledInTens_17 (x2_sub hp (by decide))).trans rfl)))
theorem g_X1_addedInTens_72 {p j : Nat} {x4 : Int32} {s0 : Int32} {M : St} (hp : xno2 p j [(2, some 18)] = true) : (f_X1_addedInTens_72 x4 s0 M).2 p j = M p j := by
  unfold f_X1_addedInTens_72
  exact (xb2_pp ((g_X1_settledInTens (x2_sub hp (by decide))).trans rfl) (fun q13 hq13 => hq13))
theorem g_X1_addedInTens_56 {p j : Nat} {x3 : Int32} {s0 : Int32} {M : St} (hp : xno2 p j [(2, some 18)] = true) : (f_X1_addedInTens_56 x3 s0 M).2 p j = M p j := by
  unfold f_X1_addedInTens_56
  exact (ite2_p (fun _ => ((g_X1_addedInTens_72 (x2_sub hp (by decide))).trans rfl)) (fun _ => ((g_X1_addedInTens_72 (x2_sub hp (by decide))).trans rfl)))
theorem g_X1_addedInTens_28 {p j : Nat} {x1 : Int32} {x2 : Int32} {s0 : Int32} {s1 : Int32} {M : St} (hp : xno2 p j [(2, some 18)] = true) : (f_X1_addedInTens_28 x1 x2 s0 s1 M).2 p j = M p j := by
  unfold f_X1_addedInTens_28
  exact (ite2_p (fun _ => ((g_X1_addedInTens_56 (x2_sub hp (by decide))).trans rfl)) (fun _ => ((g_X1_addedInTens_56 (x2_sub hp (by decide))).trans rfl)))
theorem g_X1_addedInTens {p j : Nat} {a1 : Int32} {a2 : Int32} {M : St} (hp : xno2 p j [(2, some 18)] = true) : (f_X1_addedInTens a1 a2 M).2 p j = M p j := by
  unfold f_X1_addedInTens
  exact (ite2_p (fun _ => ((g_X1_addedInTens_28 (x2_sub hp (by decide))).trans rfl)) (fun _ => ((g_X1_addedInTens_28 (x2_sub hp (by decide))).trans rfl)))
theorem g_X1_subtractedInTens_67 {p j : Nat} {x4 : Int32} {s0 : Int32} {M : St} (hp : xno2 p j [(2, some 18)] = true) : (f_X1_subtractedInTens_67 x4 s0 M).2 p j = M p j := by
  unfold f_X1_subtractedInTens_67
  exact (xb2_pp ((g_X1_settledInTens (x2_sub hp (by decide))).trans rfl) (fun q13 hq13 => hq13))
theorem g_X1_subtractedInTens_51 {p j : Nat} {x3 : Int32} {s0 : Int32} {M : St} (hp : xno2 p j [(2, some 18)] = true) : (f_X1_subtractedInTens_51 x3 s0 M).2 p j = M p j := by
  unfold f_X1_subtractedInTens_51
  exact (ite2_p (fun _ => ((g_X1_subtractedInTens_67 (x2_sub hp (by decide))).trans rfl)) (fun _ => ((g_X1_subtractedInTens_67 (x2_sub hp (by decide))).trans rfl)))
theorem g_X1_subtractedInTens_26 {p j : Nat} {x1 : Int32} {x2 : Int32} {s0 : Int32} {s1 : Int32} {M : St} (hp : xno2 p j [(2, some 18)] = true) : (f_X1_subtractedInTens_26 x1 x2 s0 s1 M).2 p j = M p j := by
  unfold f_X1_subtractedInTens_26
  exact (ite2_p (fun _ => ((g_X1_subtractedInTens_51 (x2_sub hp (by decide))).trans rfl)) (fun _ => ((g_X1_subtractedInTens_51 (x2_sub hp (by decide))).trans rfl)))
theorem g_X1_subtractedInTens {p j : Nat} {a1 : Int32} {a2 : Int32} {M : St} (hp : xno2 p j [(2, some 18)] = true) : (f_X1_subtractedInTens a1 a2 M).2 p j = M p j := by
  unfold f_X1_subtractedInTens
  exact (ite2_p (fun _ => ((g_X1_subtractedInTens_26 (x2_sub hp (by decide))).trans rfl)) (fun _ => ((g_X1_subtractedInTens_26 (x2_sub hp (by decide))).trans rfl)))
theorem g_X1_combined {p j : Nat} {a1 : Nat} {a2 : Int32} {a3 : Int32} {a4 : Int32} {M : St} (hp : xno2 p j [(2, some 18)] = true) : (f_X1_combined a1 a2 a3 a4 M).2 p j = M p j := by
  unfold f_X1_combined
  exact (ite2_p (fun _ => (xb2_pp ((g_X1_total (x2_sub hp (by decide))).trans rfl) (fun q2 hq2 => hq2))) (fun _ => (ite2_p (fun _ => (xb2_pp ((g_X1_total (x2_sub hp (by decide))).trans rfl) (fun q6 hq6 => hq6))) (fun _ => (ite2_p (fun _ => (xb2_pp ((g_X1_addedInTens (x2_sub hp (by decide))).trans rfl) (fun q10 hq10 => hq10))) (fun _ => (ite2_p (fun _ => (xb2_pp ((g_X1_total (x2_sub hp (by decide))).trans rfl) (fun q14 hq14 => hq14))) (fun _ => (ite2_p (fun _ => (xb2_pp ((g_X1_total (x2_sub hp (by decide))).trans rfl) (fun q18 hq18 => hq18))) (fun _ => (ite2_p (fun _ => (xb2_pp ((g_X1_subtractedInTens (x2_sub hp (by decide))).trans rfl) (fun q22 hq22 => hq22))) (fun _ => (ite2_p (fun _ => (xb2_pp ((g_X1_total (x2_sub hp (by decide))).trans rfl) (fun q26 hq26 => hq26))) (fun _ => (ite2_p (fun _ => (xb2_pp ((g_X1_tested (x2_sub hp (by decide))).trans rfl) (fun q30 hq30 => hq30))) (fun _ => (ite2_p (fun _ => (xb2_pp ((g_X1_tested (x2_sub hp (by decide))).trans rfl) (fun q34 hq34 => hq34))) (fun _ => (ite2_p (fun _ => (xb2_pp ((g_X1_tested (x2_sub hp (by decide))).trans rfl) (fun q38 hq38 => hq38))) (fun _ => (xb2_pp ((g_X1_tested (x2_sub hp (by decide))).trans rfl) (fun q41 hq41 => hq41))))))))))))))))))))))
theorem g_X4_change {p j : Nat} {a1 : Nat} {a2 : Int32} {M : St} (hp : xno2 p j [(2, none), (4, some 3), (4, some 4), (4, some 5), (4, some 7), (4, some 8), (4, some 9), (4, some 10), (4, some 11), (4, some 12), (5, none), (7, none), (10, some 2), (10, some 3)] = true) : (f_X4_change a1 a2 M) p j = M p j := by
  unfold f_X4_change
  exact (xb2_ss ((g_X6_find (x2_sub hp (by decide))).trans rfl) (fun q1 hq1 => (xb2_ps ((g_X6_read (x2_sub hp (by decide))).trans hq1) (fun q4 hq4 => (xb2_ps ((g_X1_combined (x2_sub hp (by decide))).trans hq4) (fun q7 hq7 => (xb2_ss ((g_X6_write (x2_sub hp (by decide))).trans hq7) (fun q10 hq10 => hq10))))))))
theorem g_X4_compare {p j : Nat} {a1 : Int32} {M : St} (hp : xno2 p j [(2, none), (4, some 3), (4, some 4), (4, some 10), (4, some 11), (4, some 12), (10, some 2), (10, some 3)] = true) : (f_X4_compare a1 M) p j = M p j := by
  unfold f_X4_compare
  exact (xb2_ss ((g_X6_find (x2_sub hp (by decide))).trans rfl) (fun q1 hq1 => (xb2_ps ((g_X6_read (x2_sub hp (by decide))).trans hq1) (fun q4 hq4 => (xb2_ps ((g_X1_combined (x2_sub hp (by decide))).trans hq4) (fun q7 hq7 => hq7))))))
theorem g_X4_changeAddress_71 {p j : Nat} {s0 : Int32} {s1 : Int32} {M : St} (hp : xno2 p j [(2, none)] = true) : (f_X4_changeAddress_71 s0 s1 M) p j = M p j := by
  unfold f_X4_changeAddress_71
  exact ((xup_o2 (Or.inl (x2_place 2 hp (by decide)))).trans rfl)
theorem g_X4_changeAddress {p j : Nat} {a1 : Nat} {a2 : Int32} {M : St} (hp : xno2 p j [(2, none)] = true) : (f_X4_changeAddress a1 a2 M) p j = M p j := by
  unfold f_X4_changeAddress
  exact (ite2_s (fun _ => ((g_X4_changeAddress_71 (x2_sub hp (by decide))).trans rfl)) (fun _ => (ite2_s (fun _ => ((g_X4_changeAddress_71 (x2_sub hp (by decide))).trans rfl)) (fun _ => ((g_X4_changeAddress_71 (x2_sub hp (by decide))).trans rfl)))))
theorem g_X4_compareAddress {p j : Nat} {a1 : Int32} {M : St} (hp : xno2 p j [(2, some 18)] = true) : (f_X4_compareAddress a1 M) p j = M p j := by
  unfold f_X4_compareAddress
  exact (xb2_ps ((g_X1_combined (x2_sub hp (by decide))).trans rfl) (fun q4 hq4 => hq4))
theorem g_X4_multiply_46 {p j : Nat} {x2 : Int32} {s0 : Int32} {M : St} (hp : xno2 p j [(2, none)] = true) : (f_X4_multiply_46 x2 s0 M) p j = M p j := by
  unfold f_X4_multiply_46
  exact (xb2_ps ((g_X1_tested (x2_sub hp (by decide))).trans rfl) (fun q16 hq16 => ((xup_o2 (Or.inl (x2_place 2 hp (by decide)))).trans hq16)))
theorem g_X4_multiply {p j : Nat} {a1 : Int32} {M : St} (hp : xno2 p j [(2, none)] = true) : (f_X4_multiply a1 M) p j = M p j := by
  unfold f_X4_multiply
  exact (ite2_s (fun _ => ((g_X4_multiply_46 (x2_sub hp (by decide))).trans rfl)) (fun _ => (xb2_vs (fun q9 => ((g_X4_multiply_46 (x2_sub hp (by decide))).trans rfl)))))
theorem g_X4_divide {p j : Nat} {a1 : Int32} {M : St} (hp : xno2 p j [(2, none), (12, some 6)] = true) : (f_X4_divide a1 M) p j = M p j := by
  unfold f_X4_divide
  exact (ite2_s (fun _ => ((xup_o2 (x2_field 12 6 hp (by decide))).trans rfl)) (fun _ => (ite2_s (fun _ => (xb2_vs (fun q39 => (ite2_s (fun _ => (xb2_ps ((g_X1_tested (x2_sub hp (by decide))).trans ((xup_o2 (Or.inl (x2_place 2 hp (by decide)))).trans rfl)) (fun q45 hq45 => hq45))) (fun _ => (xb2_ss ((g_X8_changeFlags (x2_sub hp (by decide))).trans rfl) (fun q48 hq48 => hq48))))))) (fun _ => (xb2_vs (fun q17 => (ite2_s (fun _ => (xb2_ps ((g_X1_tested (x2_sub hp (by decide))).trans ((xup_o2 (Or.inl (x2_place 2 hp (by decide)))).trans rfl)) (fun q23 hq23 => hq23))) (fun _ => (xb2_ss ((g_X8_changeFlags (x2_sub hp (by decide))).trans rfl) (fun q26 hq26 => hq26))))))))))
theorem g_X4_checkBounds_42 {p j : Nat} {s0 : Int32} {s1 : Int32} {M : St} (hp : xno2 p j [(2, some 18), (12, some 6)] = true) : (f_X4_checkBounds_42 s0 s1 M) p j = M p j := by
  unfold f_X4_checkBounds_42
  exact (xb2_ss ((g_X8_changeFlags (x2_sub hp (by decide))).trans rfl) (fun q16 hq16 => ((xup_o2 (x2_field 12 6 hp (by decide))).trans hq16)))
theorem g_X4_checkBounds_26 {p j : Nat} {x2 : Int32} {M : St} (hp : xno2 p j [(2, some 18), (12, some 6)] = true) : (f_X4_checkBounds_26 x2 M) p j = M p j := by
  unfold f_X4_checkBounds_26
  exact (ite2_s (fun _ => ((g_X4_checkBounds_42 (x2_sub hp (by decide))).trans rfl)) (fun _ => ((g_X4_checkBounds_42 (x2_sub hp (by decide))).trans rfl)))
theorem g_X4_checkBounds {p j : Nat} {a1 : Int32} {M : St} (hp : xno2 p j [(2, some 18), (12, some 6)] = true) : (f_X4_checkBounds a1 M) p j = M p j := by
  unfold f_X4_checkBounds
  exact (ite2_s (fun _ => ((g_X4_checkBounds_26 (x2_sub hp (by decide))).trans rfl)) (fun _ => (ite2_s (fun _ => rfl) (fun _ => ((g_X4_checkBounds_26 (x2_sub hp (by decide))).trans rfl)))))
theorem g_X4_changeQuick_66 {p j : Nat} {s0 : Int32} {s1 : Int32} {s2 : Int32} {M : St} (hp : xno2 p j [(2, none)] = true) : (f_X4_changeQuick_66 s0 s1 s2 M) p j = M p j := by
  unfold f_X4_changeQuick_66
  exact ((xup_o2 (Or.inl (x2_place 2 hp (by decide)))).trans rfl)
theorem g_X4_changeQuick {p j : Nat} {a1 : Nat} {a2 : Int32} {M : St} (hp : xno2 p j [(2, none), (4, some 3), (4, some 4), (4, some 5), (4, some 7), (4, some 8), (4, some 9), (4, some 10), (4, some 11), (4, some 12), (5, none), (7, none), (10, some 2), (10, some 3)] = true) : (f_X4_changeQuick a1 a2 M) p j = M p j := by
  unfold f_X4_changeQuick
  exact (xb2_ss ((g_X6_find (x2_sub hp (by decide))).trans rfl) (fun q1 hq1 => (ite2_s (fun _ => (ite2_s (fun _ => ((g_X4_changeQuick_66 (x2_sub hp (by decide))).trans hq1)) (fun _ => ((g_X4_changeQuick_66 (x2_sub hp (by decide))).trans hq1)))) (fun _ => (xb2_ps ((g_X6_read (x2_sub hp (by decide))).trans hq1) (fun q8 hq8 => (xb2_ps ((g_X1_combined (x2_sub hp (by decide))).trans hq8) (fun q11 hq11 => (xb2_ss ((g_X6_write (x2_sub hp (by decide))).trans hq11) (fun q14 hq14 => hq14))))))))))
theorem g_X4_changeBit_61 {p j : Nat} {x2 : Int32} {x3 : Int32} {x4 : Int32} {s0 : Int32} {s1 : Int32} {M : St} (hp : xno2 p j [(2, none), (4, some 5), (4, some 7), (4, some 8), (4, some 9), (4, some 10), (4, some 11), (4, some 12), (5, none), (7, none)] = true) : (f_X4_changeBit_61 x2 x3 x4 s0 s1 M) p j = M p j := by
  unfold f_X4_changeBit_61
  exact (xb2_ss ((g_X8_changeFlags (x2_sub hp (by decide))).trans rfl) (fun q12 hq12 => (ite2_s (fun _ => (xb2_ss ((g_X6_write (x2_sub hp (by decide))).trans hq12) (fun q19 hq19 => hq19))) (fun _ => (ite2_s (fun _ => (xb2_ss ((g_X6_write (x2_sub hp (by decide))).trans hq12) (fun q23 hq23 => hq23))) (fun _ => (ite2_s (fun _ => (xb2_ss ((g_X6_write (x2_sub hp (by decide))).trans hq12) (fun q27 hq27 => hq27))) (fun _ => hq12))))))))
theorem g_X4_changeBit {p j : Nat} {a1 : Int32} {M : St} (hp : xno2 p j [(2, none), (4, some 3), (4, some 4), (4, some 5), (4, some 7), (4, some 8), (4, some 9), (4, some 10), (4, some 11), (4, some 12), (5, none), (7, none), (10, some 2), (10, some 3)] = true) : (f_X4_changeBit a1 M) p j = M p j := by
  unfold f_X4_changeBit
  exact (xb2_ss ((g_X6_find (x2_sub hp (by decide))).trans rfl) (fun q4 hq4 => (xb2_ps ((g_X6_read (x2_sub hp (by decide))).trans hq4) (fun q7 hq7 => (ite2_s (fun _ => ((g_X4_changeBit_61 (x2_sub hp (by decide))).trans hq7)) (fun _ => ((g_X4_changeBit_61 (x2_sub hp (by decide))).trans hq7)))))))
theorem g_X1_shifted_234 {p j : Nat} {x9 : Int32} {s0 : Int32} {s1 : Int32} {s2 : Int32} {M : St} (hp : xno2 p j [(2, some 18)] = true) : (f_X1_shifted_234 x9 s0 s1 s2 M).2 p j = M p j := by
  unfold f_X1_shifted_234
  exact (xb2_sp ((g_X8_changeFlags (x2_sub hp (by decide))).trans rfl) (fun q38 hq38 => hq38))
theorem g_X1_shifted_199 {p j : Nat} {x2 : Int32} {x7 : Int32} {x8 : Int32} {x9 : Int32} {s0 : Int32} {M : St} (hp : xno2 p j [(2, some 18)] = true) : (f_X1_shifted_199 x2 x7 x8 x9 s0 M).2 p j = M p j := by
  unfold f_X1_shifted_199
  exact (ite2_p (fun _ => ((g_X1_shifted_234 (x2_sub hp (by decide))).trans rfl)) (fun _ => ((g_X1_shifted_234 (x2_sub hp (by decide))).trans rfl)))
theorem g_X1_shifted_198 {p j : Nat} {x2 : Int32} {x7 : Int32} {x8 : Int32} {x9 : Int32} {M : St} (hp : xno2 p j [(2, some 18)] = true) : (f_X1_shifted_198 x2 x7 x8 x9 M).2 p j = M p j := by
  unfold f_X1_shifted_198
  exact ((g_X1_shifted_199 (x2_sub hp (by decide))).trans rfl)
theorem g_X1_shifted_167 {p j : Nat} {rec : Int32 → Int32 → Int32 → Int32 → Int32 → Int32 → Int32 → Int32 → Int32 → Int32 → St → Int32 × St} {x2 : Int32} {x3 : Int32} {x4 : Int32} {x5 : Int32} {x6 : Int32} {x8 : Int32} {x9 : Int32} {x10 : Int32} {x11 : Int32} {s0 : Int32} {M : St} (hp : xno2 p j [] = true) (hrec : ∀ (y0 : Int32) (y1 : Int32) (y2 : Int32) (y3 : Int32) (y4 : Int32) (y5 : Int32) (y6 : Int32) (y7 : Int32) (y8 : Int32) (y9 : Int32) (N : St), (rec y0 y1 y2 y3 y4 y5 y6 y7 y8 y9 N).2 p j = N p j) : (f_X1_shifted_167 rec x2 x3 x4 x5 x6 x8 x9 x10 x11 s0 M).2 p j = M p j := by
  unfold f_X1_shifted_167
  exact ((hrec _ _ _ _ _ _ _ _ _ _ _).trans rfl)
theorem g_X1_shifted_135 {p j : Nat} {rec : Int32 → Int32 → Int32 → Int32 → Int32 → Int32 → Int32 → Int32 → Int32 → Int32 → St → Int32 × St} {x2 : Int32} {x3 : Int32} {x4 : Int32} {x5 : Int32} {x6 : Int32} {x7 : Int32} {x9 : Int32} {x10 : Int32} {x11 : Int32} {x13 : Int32} {s0 : Int32} {M : St} (hp : xno2 p j [] = true) (hrec : ∀ (y0 : Int32) (y1 : Int32) (y2 : Int32) (y3 : Int32) (y4 : Int32) (y5 : Int32) (y6 : Int32) (y7 : Int32) (y8 : Int32) (y9 : Int32) (N : St), (rec y0 y1 y2 y3 y4 y5 y6 y7 y8 y9 N).2 p j = N p j) : (f_X1_shifted_135 rec x2 x3 x4 x5 x6 x7 x9 x10 x11 x13 s0 M).2 p j = M p j := by
  unfold f_X1_shifted_135
  exact (ite2_p (fun _ => ((g_X1_shifted_167 (x2_sub hp (by decide)) hrec).trans rfl)) (fun _ => ((g_X1_shifted_167 (x2_sub hp (by decide)) hrec).trans rfl)))
theorem g_X1_shifted_103 {p j : Nat} {rec : Int32 → Int32 → Int32 → Int32 → Int32 → Int32 → Int32 → Int32 → Int32 → Int32 → St → Int32 × St} {x2 : Int32} {x3 : Int32} {x4 : Int32} {x5 : Int32} {x6 : Int32} {x7 : Int32} {x9 : Int32} {x10 : Int32} {x11 : Int32} {x13 : Int32} {s0 : Int32} {M : St} (hp : xno2 p j [] = true) (hrec : ∀ (y0 : Int32) (y1 : Int32) (y2 : Int32) (y3 : Int32) (y4 : Int32) (y5 : Int32) (y6 : Int32) (y7 : Int32) (y8 : Int32) (y9 : Int32) (N : St), (rec y0 y1 y2 y3 y4 y5 y6 y7 y8 y9 N).2 p j = N p j) : (f_X1_shifted_103 rec x2 x3 x4 x5 x6 x7 x9 x10 x11 x13 s0 M).2 p j = M p j := by
  unfold f_X1_shifted_103
  exact (ite2_p (fun _ => ((g_X1_shifted_135 (x2_sub hp (by decide)) hrec).trans rfl)) (fun _ => ((g_X1_shifted_135 (x2_sub hp (by decide)) hrec).trans rfl)))
theorem g_X1_shifted_102 {p j : Nat} {rec : Int32 → Int32 → Int32 → Int32 → Int32 → Int32 → Int32 → Int32 → Int32 → Int32 → St → Int32 × St} {x2 : Int32} {x3 : Int32} {x4 : Int32} {x5 : Int32} {x6 : Int32} {x7 : Int32} {x9 : Int32} {x10 : Int32} {x11 : Int32} {x13 : Int32} {M : St} (hp : xno2 p j [] = true) (hrec : ∀ (y0 : Int32) (y1 : Int32) (y2 : Int32) (y3 : Int32) (y4 : Int32) (y5 : Int32) (y6 : Int32) (y7 : Int32) (y8 : Int32) (y9 : Int32) (N : St), (rec y0 y1 y2 y3 y4 y5 y6 y7 y8 y9 N).2 p j = N p j) : (f_X1_shifted_102 rec x2 x3 x4 x5 x6 x7 x9 x10 x11 x13 M).2 p j = M p j := by
  unfold f_X1_shifted_102
  exact ((g_X1_shifted_103 (x2_sub hp (by decide)) hrec).trans rfl)
theorem g_X1_shifted_66 {p j : Nat} {rec : Int32 → Int32 → Int32 → Int32 → Int32 → Int32 → Int32 → Int32 → Int32 → Int32 → St → Int32 × St} {x2 : Int32} {x3 : Int32} {x4 : Int32} {x5 : Int32} {x6 : Int32} {x7 : Int32} {x9 : Int32} {x10 : Int32} {x11 : Int32} {x12 : Int32} {s0 : Int32} {M : St} (hp : xno2 p j [] = true) (hrec : ∀ (y0 : Int32) (y1 : Int32) (y2 : Int32) (y3 : Int32) (y4 : Int32) (y5 : Int32) (y6 : Int32) (y7 : Int32) (y8 : Int32) (y9 : Int32) (N : St), (rec y0 y1 y2 y3 y4 y5 y6 y7 y8 y9 N).2 p j = N p j) : (f_X1_shifted_66 rec x2 x3 x4 x5 x6 x7 x9 x10 x11 x12 s0 M).2 p j = M p j := by
  unfold f_X1_shifted_66
  exact (ite2_p (fun _ => ((g_X1_shifted_103 (x2_sub hp (by decide)) hrec).trans rfl)) (fun _ => (ite2_p (fun _ => ((g_X1_shifted_103 (x2_sub hp (by decide)) hrec).trans rfl)) (fun _ => (ite2_p (fun _ => (ite2_p (fun _ => ((g_X1_shifted_103 (x2_sub hp (by decide)) hrec).trans rfl)) (fun _ => ((g_X1_shifted_102 (x2_sub hp (by decide)) hrec).trans rfl)))) (fun _ => ((g_X1_shifted_102 (x2_sub hp (by decide)) hrec).trans rfl)))))))
theorem g_X1_shifted_36 {p j : Nat} (hp : xno2 p j [(2, some 18)] = true) : ∀ (n : Nat) (x2 : Int32) (x3 : Int32) (x4 : Int32) (x5 : Int32) (x6 : Int32) (x7 : Int32) (x8 : Int32) (x9 : Int32) (x10 : Int32) (x11 : Int32) (M : St), (f_X1_shifted_36 n x2 x3 x4 x5 x6 x7 x8 x9 x10 x11 M).2 p j = M p j := by
  intro n
  induction n with
  | zero => intros; rfl
  | succ n ih =>
    intro x2 x3 x4 x5 x6 x7 x8 x9 x10 x11 M
    unfold f_X1_shifted_36
    exact (ite2_p (fun _ => (ite2_p (fun _ => (ite2_p (fun _ => ((g_X1_shifted_198 (x2_sub hp (by decide))).trans rfl)) (fun _ => (ite2_p (fun _ => ((g_X1_shifted_198 (x2_sub hp (by decide))).trans rfl)) (fun _ => ((g_X1_shifted_199 (x2_sub hp (by decide))).trans rfl)))))) (fun _ => ((g_X1_shifted_198 (x2_sub hp (by decide))).trans rfl)))) (fun _ => (ite2_p (fun _ => ((g_X1_shifted_66 (x2_sub hp (by decide)) ih).trans rfl)) (fun _ => ((g_X1_shifted_66 (x2_sub hp (by decide)) ih).trans rfl)))))
theorem g_X1_shifted_25 {p j : Nat} {x1 : Int32} {x2 : Int32} {x3 : Int32} {x4 : Int32} {x5 : Int32} {x6 : Int32} {x7 : Int32} {s0 : Int32} {M : St} (hp : xno2 p j [(2, some 18)] = true) : (f_X1_shifted_25 x1 x2 x3 x4 x5 x6 x7 s0 M).2 p j = M p j := by
  unfold f_X1_shifted_25
  exact ((g_X1_shifted_36 (x2_sub hp (by decide)) _ _ _ _ _ _ _ _ _ _ _ _).trans rfl)
theorem g_X1_shifted {p j : Nat} {a1 : Int32} {a2 : Int32} {a3 : Int32} {a4 : Int32} {a5 : Int32} {M : St} (hp : xno2 p j [(2, some 18)] = true) : (f_X1_shifted a1 a2 a3 a4 a5 M).2 p j = M p j := by
  unfold f_X1_shifted
  exact (ite2_p (fun _ => ((g_X1_shifted_25 (x2_sub hp (by decide))).trans rfl)) (fun _ => ((g_X1_shifted_25 (x2_sub hp (by decide))).trans rfl)))
theorem g_X4_shiftRegister_118 {p j : Nat} {x3 : Int32} {s0 : Int32} {s1 : Int32} {s2 : Int32} {s3 : Int32} {s5 : Int32} {M : St} (hp : xno2 p j [(2, none), (4, some 5), (4, some 7), (4, some 8), (4, some 9), (4, some 10), (4, some 11), (4, some 12), (5, none), (7, none)] = true) : (f_X4_shiftRegister_118 x3 s0 s1 s2 s3 s5 M) p j = M p j := by
  unfold f_X4_shiftRegister_118
  exact (xb2_ps ((g_X1_shifted (x2_sub hp (by decide))).trans rfl) (fun q25 hq25 => (xb2_ss ((g_X6_write (x2_sub hp (by decide))).trans hq25) (fun q28 hq28 => hq28))))
theorem g_X4_shiftRegister_53 {p j : Nat} {x1 : Int32} {s0 : Int32} {M : St} (hp : xno2 p j [(2, none), (4, some 3), (4, some 4), (4, some 5), (4, some 7), (4, some 8), (4, some 9), (4, some 10), (4, some 11), (4, some 12), (5, none), (7, none), (10, some 2), (10, some 3)] = true) : (f_X4_shiftRegister_53 x1 s0 M) p j = M p j := by
  unfold f_X4_shiftRegister_53
  exact (xb2_ss ((g_X6_find (x2_sub hp (by decide))).trans rfl) (fun q13 hq13 => (xb2_ps ((g_X6_read (x2_sub hp (by decide))).trans hq13) (fun q16 hq16 => (ite2_s (fun _ => ((g_X4_shiftRegister_118 (x2_sub hp (by decide))).trans hq16)) (fun _ => ((g_X4_shiftRegister_118 (x2_sub hp (by decide))).trans hq16)))))))
theorem g_X4_shiftRegister_26 {p j : Nat} {x1 : Int32} {s0 : Int32} {M : St} (hp : xno2 p j [(2, none), (4, some 3), (4, some 4), (4, some 5), (4, some 7), (4, some 8), (4, some 9), (4, some 10), (4, some 11), (4, some 12), (5, none), (7, none), (10, some 2), (10, some 3)] = true) : (f_X4_shiftRegister_26 x1 s0 M) p j = M p j := by
  unfold f_X4_shiftRegister_26
  exact (ite2_s (fun _ => ((g_X4_shiftRegister_53 (x2_sub hp (by decide))).trans rfl)) (fun _ => ((g_X4_shiftRegister_53 (x2_sub hp (by decide))).trans rfl)))
theorem g_X4_shiftRegister {p j : Nat} {M : St} (hp : xno2 p j [(2, none), (4, some 3), (4, some 4), (4, some 5), (4, some 7), (4, some 8), (4, some 9), (4, some 10), (4, some 11), (4, some 12), (5, none), (7, none), (10, some 2), (10, some 3)] = true) : (f_X4_shiftRegister M) p j = M p j := by
  unfold f_X4_shiftRegister
  exact (ite2_s (fun _ => ((g_X4_shiftRegister_26 (x2_sub hp (by decide))).trans rfl)) (fun _ => ((g_X4_shiftRegister_26 (x2_sub hp (by decide))).trans rfl)))
theorem g_X4_shiftMemory_58 {p j : Nat} {s0 : Int32} {s1 : Int32} {s2 : Int32} {s3 : Int32} {s5 : Int32} {M : St} (hp : xno2 p j [(2, none), (4, some 5), (4, some 7), (4, some 8), (4, some 9), (4, some 10), (4, some 11), (4, some 12), (5, none), (7, none)] = true) : (f_X4_shiftMemory_58 s0 s1 s2 s3 s5 M) p j = M p j := by
  unfold f_X4_shiftMemory_58
  exact (xb2_ps ((g_X1_shifted (x2_sub hp (by decide))).trans rfl) (fun q16 hq16 => (xb2_ss ((g_X6_write (x2_sub hp (by decide))).trans hq16) (fun q19 hq19 => hq19))))
theorem g_X4_shiftMemory {p j : Nat} {M : St} (hp : xno2 p j [(2, none), (4, some 3), (4, some 4), (4, some 5), (4, some 7), (4, some 8), (4, some 9), (4, some 10), (4, some 11), (4, some 12), (5, none), (7, none), (10, some 2), (10, some 3)] = true) : (f_X4_shiftMemory M) p j = M p j := by
  unfold f_X4_shiftMemory
  exact (xb2_ss ((g_X6_find (x2_sub hp (by decide))).trans rfl) (fun q1 hq1 => (xb2_ps ((g_X6_read (x2_sub hp (by decide))).trans hq1) (fun q4 hq4 => (ite2_s (fun _ => ((g_X4_shiftMemory_58 (x2_sub hp (by decide))).trans hq4)) (fun _ => ((g_X4_shiftMemory_58 (x2_sub hp (by decide))).trans hq4)))))))
theorem g_X4_negate {p j : Nat} {a1 : Nat} {M : St} (hp : xno2 p j [(2, none), (4, some 3), (4, some 4), (4, some 5), (4, some 7), (4, some 8), (4, some 9), (4, some 10), (4, some 11), (4, some 12), (5, none), (7, none), (10, some 2), (10, some 3)] = true) : (f_X4_negate a1 M) p j = M p j := by
  unfold f_X4_negate
  exact (xb2_ss ((g_X6_find (x2_sub hp (by decide))).trans rfl) (fun q1 hq1 => (xb2_ps ((g_X6_read (x2_sub hp (by decide))).trans hq1) (fun q4 hq4 => (xb2_ps ((g_X1_combined (x2_sub hp (by decide))).trans hq4) (fun q7 hq7 => (xb2_ss ((g_X6_write (x2_sub hp (by decide))).trans hq7) (fun q10 hq10 => hq10))))))))
theorem g_X4_turn {p j : Nat} {M : St} (hp : xno2 p j [(2, none), (4, some 3), (4, some 4), (4, some 5), (4, some 7), (4, some 8), (4, some 9), (4, some 10), (4, some 11), (4, some 12), (5, none), (7, none), (10, some 2), (10, some 3)] = true) : (f_X4_turn M) p j = M p j := by
  unfold f_X4_turn
  exact (xb2_ss ((g_X6_find (x2_sub hp (by decide))).trans rfl) (fun q1 hq1 => (xb2_ps ((g_X6_read (x2_sub hp (by decide))).trans hq1) (fun q4 hq4 => (xb2_ps ((g_X1_tested (x2_sub hp (by decide))).trans hq4) (fun q7 hq7 => (xb2_ss ((g_X6_write (x2_sub hp (by decide))).trans hq7) (fun q10 hq10 => hq10))))))))
theorem g_X4_extend {p j : Nat} {M : St} (hp : xno2 p j [(2, none), (4, some 3), (4, some 4), (4, some 5), (4, some 7), (4, some 8), (4, some 9), (4, some 10), (4, some 11), (4, some 12), (5, none), (7, none), (10, some 2), (10, some 3)] = true) : (f_X4_extend M) p j = M p j := by
  unfold f_X4_extend
  exact (xb2_ss ((g_X6_find (x2_sub hp (by decide))).trans rfl) (fun q1 hq1 => (xb2_ps ((g_X6_read (x2_sub hp (by decide))).trans hq1) (fun q4 hq4 => (xb2_ps ((g_X1_tested (x2_sub hp (by decide))).trans hq4) (fun q10 hq10 => (xb2_ss ((g_X6_write (x2_sub hp (by decide))).trans hq10) (fun q13 hq13 => hq13))))))))
theorem g_X4_testAndSet {p j : Nat} {M : St} (hp : xno2 p j [(2, none), (4, some 3), (4, some 4), (4, some 5), (4, some 7), (4, some 8), (4, some 9), (4, some 10), (4, some 11), (4, some 12), (5, none), (7, none), (10, some 2), (10, some 3)] = true) : (f_X4_testAndSet M) p j = M p j := by
  unfold f_X4_testAndSet
  exact (xb2_ss ((g_X6_find (x2_sub hp (by decide))).trans rfl) (fun q1 hq1 => (xb2_ps ((g_X6_read (x2_sub hp (by decide))).trans hq1) (fun q4 hq4 => (xb2_ps ((g_X1_tested (x2_sub hp (by decide))).trans hq4) (fun q7 hq7 => (xb2_ss ((g_X6_write (x2_sub hp (by decide))).trans hq7) (fun q10 hq10 => hq10))))))))
theorem g_X4_storeManyBefore_78 {p j : Nat} {rec : Int32 → Int32 → Int32 → Int32 → St → St} {x1 : Int32} {x2 : Int32} {x3 : Int32} {x4 : Int32} {M : St} (hp : xno2 p j [] = true) (hrec : ∀ (y0 : Int32) (y1 : Int32) (y2 : Int32) (y3 : Int32) (N : St), (rec y0 y1 y2 y3 N) p j = N p j) : (f_X4_storeManyBefore_78 rec x1 x2 x3 x4 M) p j = M p j := by
  unfold f_X4_storeManyBefore_78
  exact ((hrec _ _ _ _ _).trans rfl)
theorem g_X4_storeManyBefore_24 {p j : Nat} (hp : xno2 p j [(2, none), (4, some 5), (4, some 7), (4, some 8), (4, some 9), (4, some 10), (4, some 11), (4, some 12), (5, none), (7, none)] = true) : ∀ (n : Nat) (x1 : Int32) (x2 : Int32) (x3 : Int32) (x4 : Int32) (M : St), (f_X4_storeManyBefore_24 n x1 x2 x3 x4 M) p j = M p j := by
  intro n
  induction n with
  | zero => intros; rfl
  | succ n ih =>
    intro x1 x2 x3 x4 M
    unfold f_X4_storeManyBefore_24
    exact (ite2_s (fun _ => ((xup_o2 (Or.inl (x2_place 2 hp (by decide)))).trans rfl)) (fun _ => (ite2_s (fun _ => ((g_X4_storeManyBefore_78 (x2_sub hp (by decide)) ih).trans rfl)) (fun _ => (xb2_ss ((g_X2_write (x2_sub hp (by decide))).trans rfl) (fun q12 hq12 => ((g_X4_storeManyBefore_78 (x2_sub hp (by decide)) ih).trans hq12)))))))
theorem g_X4_storeManyBefore {p j : Nat} {a1 : Int32} {M : St} (hp : xno2 p j [(2, none), (4, some 5), (4, some 7), (4, some 8), (4, some 9), (4, some 10), (4, some 11), (4, some 12), (5, none), (7, none)] = true) : (f_X4_storeManyBefore a1 M) p j = M p j := by
  unfold f_X4_storeManyBefore
  exact ((g_X4_storeManyBefore_24 (x2_sub hp (by decide)) _ _ _ _ _ _).trans rfl)
theorem g_X4_storeMany_108 {p j : Nat} {rec : Int32 → Int32 → Int32 → St → St} {x1 : Int32} {x2 : Int32} {x3 : Int32} {M : St} (hp : xno2 p j [] = true) (hrec : ∀ (y0 : Int32) (y1 : Int32) (y2 : Int32) (N : St), (rec y0 y1 y2 N) p j = N p j) : (f_X4_storeMany_108 rec x1 x2 x3 M) p j = M p j := by
  unfold f_X4_storeMany_108
  exact ((hrec _ _ _ _).trans rfl)
theorem g_X4_storeMany_60 {p j : Nat} (hp : xno2 p j [(4, some 5), (4, some 7), (4, some 8), (4, some 9), (4, some 10), (4, some 11), (4, some 12), (5, none), (7, none)] = true) : ∀ (n : Nat) (x1 : Int32) (x2 : Int32) (x3 : Int32) (M : St), (f_X4_storeMany_60 n x1 x2 x3 M) p j = M p j := by
  intro n
  induction n with
  | zero => intros; rfl
  | succ n ih =>
    intro x1 x2 x3 M
    unfold f_X4_storeMany_60
    exact (ite2_s (fun _ => rfl) (fun _ => (ite2_s (fun _ => ((g_X4_storeMany_108 (x2_sub hp (by decide)) ih).trans rfl)) (fun _ => (xb2_ss ((g_X2_write (x2_sub hp (by decide))).trans rfl) (fun q22 hq22 => ((g_X4_storeMany_108 (x2_sub hp (by decide)) ih).trans hq22)))))))
theorem g_X4_storeMany {p j : Nat} {M : St} (hp : xno2 p j [(2, none), (4, some 3), (4, some 4), (4, some 5), (4, some 7), (4, some 8), (4, some 9), (4, some 10), (4, some 11), (4, some 12), (5, none), (7, none), (10, some 2), (10, some 3)] = true) : (f_X4_storeMany M) p j = M p j := by
  unfold f_X4_storeMany
  exact (xb2_ps ((g_X6_fetch (x2_sub hp (by decide))).trans rfl) (fun q1 hq1 => (ite2_s (fun _ => (xb2_ss ((g_X4_storeManyBefore (x2_sub hp (by decide))).trans hq1) (fun q12 hq12 => hq12))) (fun _ => (xb2_ss ((g_X6_find (x2_sub hp (by decide))).trans hq1) (fun q8 hq8 => ((g_X4_storeMany_60 (x2_sub hp (by decide)) _ _ _ _ _).trans hq8)))))))
theorem g_X4_loadMany_99 {p j : Nat} {rec : Int32 → Int32 → Int32 → St → St} {x1 : Int32} {x2 : Int32} {x3 : Int32} {M : St} (hp : xno2 p j [] = true) (hrec : ∀ (y0 : Int32) (y1 : Int32) (y2 : Int32) (N : St), (rec y0 y1 y2 N) p j = N p j) : (f_X4_loadMany_99 rec x1 x2 x3 M) p j = M p j := by
  unfold f_X4_loadMany_99
  exact ((hrec _ _ _ _).trans rfl)
theorem g_X4_loadMany_40 {p j : Nat} (hp : xno2 p j [(2, none), (4, some 3), (4, some 4), (4, some 10), (4, some 11), (4, some 12)] = true) : ∀ (n : Nat) (x1 : Int32) (x2 : Int32) (x3 : Int32) (M : St), (f_X4_loadMany_40 n x1 x2 x3 M) p j = M p j := by
  intro n
  induction n with
  | zero => intros; rfl
  | succ n ih =>
    intro x1 x2 x3 M
    unfold f_X4_loadMany_40
    exact (ite2_s (fun _ => (ite2_s (fun _ => ((xup_o2 (Or.inl (x2_place 2 hp (by decide)))).trans rfl)) (fun _ => rfl))) (fun _ => (ite2_s (fun _ => ((g_X4_loadMany_99 (x2_sub hp (by decide)) ih).trans rfl)) (fun _ => (xb2_ps ((g_X2_read (x2_sub hp (by decide))).trans rfl) (fun q20 hq20 => ((g_X4_loadMany_99 (x2_sub hp (by decide)) ih).trans ((xup_o2 (Or.inl (x2_place 2 hp (by decide)))).trans hq20))))))))
theorem g_X4_loadMany {p j : Nat} {M : St} (hp : xno2 p j [(2, none), (4, some 3), (4, some 4), (4, some 10), (4, some 11), (4, some 12), (10, some 2), (10, some 3)] = true) : (f_X4_loadMany M) p j = M p j := by
  unfold f_X4_loadMany
  exact (xb2_ps ((g_X6_fetch (x2_sub hp (by decide))).trans rfl) (fun q1 hq1 => (xb2_ss ((g_X6_find (x2_sub hp (by decide))).trans hq1) (fun q4 hq4 => ((g_X4_loadMany_40 (x2_sub hp (by decide)) _ _ _ _ _).trans hq4)))))
theorem g_X4_address {p j : Nat} {M : St} (hp : xno2 p j [(2, none), (4, some 3), (4, some 4), (4, some 10), (4, some 11), (4, some 12), (10, some 2), (10, some 3)] = true) : (f_X4_address M).2 p j = M p j := by
  unfold f_X4_address
  exact (xb2_sp ((g_X6_find (x2_sub hp (by decide))).trans rfl) (fun q1 hq1 => hq1))
theorem g_X4_call {p j : Nat} {a1 : Int32} {M : St} (hp : xno2 p j [(2, some 15), (2, some 17), (4, some 5), (4, some 7), (4, some 8), (4, some 9), (4, some 10), (4, some 11), (4, some 12), (5, none), (7, none)] = true) : (f_X4_call a1 M) p j = M p j := by
  unfold f_X4_call
  exact (xb2_ss ((g_X6_push (x2_sub hp (by decide))).trans rfl) (fun q1 hq1 => ((xup_o2 (x2_field 2 17 hp (by decide))).trans hq1)))
theorem g_X4_branch_37 {p j : Nat} {x1 : Int32} {x2 : Int32} {M : St} (hp : xno2 p j [(2, some 15), (2, some 17), (4, some 5), (4, some 7), (4, some 8), (4, some 9), (4, some 10), (4, some 11), (4, some 12), (5, none), (7, none)] = true) : (f_X4_branch_37 x1 x2 M) p j = M p j := by
  unfold f_X4_branch_37
  exact (ite2_s (fun _ => (xb2_ss ((g_X4_call (x2_sub hp (by decide))).trans rfl) (fun q27 hq27 => hq27))) (fun _ => (ite2_s (fun _ => rfl) (fun _ => ((xup_o2 (x2_field 2 17 hp (by decide))).trans rfl)))))
theorem g_X4_branch {p j : Nat} {M : St} (hp : xno2 p j [(2, some 15), (2, some 17), (4, some 3), (4, some 4), (4, some 5), (4, some 7), (4, some 8), (4, some 9), (4, some 10), (4, some 11), (4, some 12), (5, none), (7, none)] = true) : (f_X4_branch M) p j = M p j := by
  unfold f_X4_branch
  exact (ite2_s (fun _ => (xb2_ps ((g_X6_fetch (x2_sub hp (by decide))).trans rfl) (fun q6 hq6 => ((g_X4_branch_37 (x2_sub hp (by decide))).trans hq6)))) (fun _ => ((g_X4_branch_37 (x2_sub hp (by decide))).trans rfl)))
theorem g_X4_countDown {p j : Nat} {M : St} (hp : xno2 p j [(2, none), (4, some 3), (4, some 4), (4, some 10), (4, some 11), (4, some 12)] = true) : (f_X4_countDown M) p j = M p j := by
  unfold f_X4_countDown
  exact (xb2_ps ((g_X6_fetch (x2_sub hp (by decide))).trans rfl) (fun q1 hq1 => (ite2_s (fun _ => (ite2_s (fun _ => ((xup_o2 (Or.inl (x2_place 2 hp (by decide)))).trans hq1)) (fun _ => ((xup_o2 (Or.inl (x2_place 2 hp (by decide)))).trans ((xup_o2 (Or.inl (x2_place 2 hp (by decide)))).trans hq1))))) (fun _ => hq1))))
theorem g_X4_loadBytes_5 {p j : Nat} (hp : xno2 p j [(2, none), (4, some 3), (4, some 4), (4, some 10), (4, some 11), (4, some 12)] = true) : ∀ (n : Nat) (x1 : Int32) (x2 : Int32) (x3 : Int32) (x4 : Int32) (M : St), (f_X4_loadBytes_5 n x1 x2 x3 x4 M) p j = M p j := by
  intro n
  induction n with
  | zero => intros; rfl
  | succ n ih =>
    intro x1 x2 x3 x4 M
    unfold f_X4_loadBytes_5
    exact (ite2_s (fun _ => ((xup_o2 (Or.inl (x2_place 2 hp (by decide)))).trans rfl)) (fun _ => (xb2_ps ((g_X2_read (x2_sub hp (by decide))).trans rfl) (fun q15 hq15 => ((ih _ _ _ _ _).trans hq15)))))
theorem g_X4_loadBytes {p j : Nat} {a1 : Int32} {a2 : Int32} {M : St} (hp : xno2 p j [(2, none), (4, some 3), (4, some 4), (4, some 10), (4, some 11), (4, some 12)] = true) : (f_X4_loadBytes a1 a2 M) p j = M p j := by
  unfold f_X4_loadBytes
  exact ((g_X4_loadBytes_5 (x2_sub hp (by decide)) _ _ _ _ _ _).trans rfl)
theorem g_X4_storeBytes_24 {p j : Nat} (hp : xno2 p j [(4, some 5), (4, some 7), (4, some 8), (4, some 9), (4, some 10), (4, some 11), (4, some 12), (5, none), (7, none)] = true) : ∀ (n : Nat) (x1 : Int32) (x3 : Int32) (x4 : Int32) (x5 : Int32) (M : St), (f_X4_storeBytes_24 n x1 x3 x4 x5 M) p j = M p j := by
  intro n
  induction n with
  | zero => intros; rfl
  | succ n ih =>
    intro x1 x3 x4 x5 M
    unfold f_X4_storeBytes_24
    exact (ite2_s (fun _ => rfl) (fun _ => (xb2_ss ((g_X2_write (x2_sub hp (by decide))).trans rfl) (fun q11 hq11 => ((ih _ _ _ _ _).trans hq11)))))
theorem g_X4_storeBytes {p j : Nat} {a1 : Int32} {a2 : Int32} {M : St} (hp : xno2 p j [(4, some 5), (4, some 7), (4, some 8), (4, some 9), (4, some 10), (4, some 11), (4, some 12), (5, none), (7, none)] = true) : (f_X4_storeBytes a1 a2 M) p j = M p j := by
  unfold f_X4_storeBytes
  exact ((g_X4_storeBytes_24 (x2_sub hp (by decide)) _ _ _ _ _ _).trans rfl)
theorem g_X4_moveBytes_46 {p j : Nat} {x1 : Int32} {s0 : Int32} {M : St} (hp : xno2 p j [(2, none), (4, some 3), (4, some 4), (4, some 5), (4, some 7), (4, some 8), (4, some 9), (4, some 10), (4, some 11), (4, some 12), (5, none), (7, none)] = true) : (f_X4_moveBytes_46 x1 s0 M) p j = M p j := by
  unfold f_X4_moveBytes_46
  exact (ite2_s (fun _ => (xb2_ss ((g_X4_storeBytes (x2_sub hp (by decide))).trans rfl) (fun q21 hq21 => hq21))) (fun _ => (xb2_ss ((g_X4_loadBytes (x2_sub hp (by decide))).trans rfl) (fun q25 hq25 => hq25))))
theorem g_X4_moveBytes {p j : Nat} {M : St} (hp : xno2 p j [(2, none), (4, some 3), (4, some 4), (4, some 5), (4, some 7), (4, some 8), (4, some 9), (4, some 10), (4, some 11), (4, some 12), (5, none), (7, none)] = true) : (f_X4_moveBytes M) p j = M p j := by
  unfold f_X4_moveBytes
  exact (xb2_ps ((g_X6_fetch (x2_sub hp (by decide))).trans rfl) (fun q4 hq4 => (ite2_s (fun _ => ((g_X4_moveBytes_46 (x2_sub hp (by decide))).trans hq4)) (fun _ => ((g_X4_moveBytes_46 (x2_sub hp (by decide))).trans hq4)))))
theorem g_X4_exchange {p j : Nat} {M : St} (hp : xno2 p j [(2, none)] = true) : (f_X4_exchange M) p j = M p j := by
  unfold f_X4_exchange
  exact ((xup_o2 (Or.inl (x2_place 2 hp (by decide)))).trans ((xup_o2 (Or.inl (x2_place 2 hp (by decide)))).trans rfl))
theorem g_X4_moveQuick {p j : Nat} {M : St} (hp : xno2 p j [(2, none)] = true) : (f_X4_moveQuick M) p j = M p j := by
  unfold f_X4_moveQuick
  exact (xb2_ps ((g_X1_tested (x2_sub hp (by decide))).trans rfl) (fun q7 hq7 => ((xup_o2 (Or.inl (x2_place 2 hp (by decide)))).trans hq7)))
theorem g_X4_statusJoined {p j : Nat} {M : St} (hp : xno2 p j [(2, some 17), (4, some 3), (4, some 4), (4, some 10), (4, some 11), (4, some 12)] = true) : (f_X4_statusJoined M).2 p j = M p j := by
  unfold f_X4_statusJoined
  exact (xb2_pp ((g_X6_fetch (x2_sub hp (by decide))).trans rfl) (fun q1 hq1 => (ite2_p (fun _ => hq1) (fun _ => (ite2_p (fun _ => hq1) (fun _ => hq1))))))
theorem g_X4_swap {p j : Nat} {M : St} (hp : xno2 p j [(2, none)] = true) : (f_X4_swap M) p j = M p j := by
  unfold f_X4_swap
  exact (xb2_ps ((g_X1_tested (x2_sub hp (by decide))).trans rfl) (fun q4 hq4 => ((xup_o2 (Or.inl (x2_place 2 hp (by decide)))).trans hq4)))
theorem g_X6_pull {p j : Nat} {a1 : Int32} {M : St} (hp : xno2 p j [(2, some 15), (4, some 3), (4, some 4), (4, some 10), (4, some 11), (4, some 12)] = true) : (f_X6_pull a1 M).2 p j = M p j := by
  unfold f_X6_pull
  exact (xb2_pp ((g_X2_read (x2_sub hp (by decide))).trans rfl) (fun q1 hq1 => ((xup_o2 (x2_field 2 15 hp (by decide))).trans hq1)))
theorem g_X4_returnWithFlags {p j : Nat} {M : St} (hp : xno2 p j [(2, some 15), (2, some 17), (2, some 18), (4, some 3), (4, some 4), (4, some 10), (4, some 11), (4, some 12)] = true) : (f_X4_returnWithFlags M) p j = M p j := by
  unfold f_X4_returnWithFlags
  exact (xb2_ps ((g_X6_pull (x2_sub hp (by decide))).trans rfl) (fun q1 hq1 => (xb2_ps ((g_X6_pull (x2_sub hp (by decide))).trans hq1) (fun q4 hq4 => (xb2_ss ((g_X8_changeFlags (x2_sub hp (by decide))).trans ((xup_o2 (x2_field 2 17 hp (by decide))).trans hq4)) (fun q8 hq8 => hq8))))))
theorem g_X4_returnFromException {p j : Nat} {M : St} (hp : xno2 p j [(2, some 15), (2, some 16), (2, some 17), (2, some 18), (4, some 3), (4, some 4), (4, some 10), (4, some 11), (4, some 12)] = true) : (f_X4_returnFromException M) p j = M p j := by
  unfold f_X4_returnFromException
  exact (xb2_ps ((g_X6_pull (x2_sub hp (by decide))).trans rfl) (fun q1 hq1 => (xb2_ps ((g_X6_pull (x2_sub hp (by decide))).trans hq1) (fun q4 hq4 => (xb2_ss ((g_X8_changeStatus (x2_sub hp (by decide))).trans hq4) (fun q7 hq7 => ((xup_o2 (x2_field 2 17 hp (by decide))).trans hq7)))))))
theorem g_X4_link {p j : Nat} {M : St} (hp : xno2 p j [(2, none), (4, some 3), (4, some 4), (4, some 5), (4, some 7), (4, some 8), (4, some 9), (4, some 10), (4, some 11), (4, some 12), (5, none), (7, none)] = true) : (f_X4_link M) p j = M p j := by
  unfold f_X4_link
  exact (xb2_ps ((g_X6_fetch (x2_sub hp (by decide))).trans rfl) (fun q1 hq1 => (xb2_ss ((g_X6_push (x2_sub hp (by decide))).trans hq1) (fun q10 hq10 => ((xup_o2 (Or.inl (x2_place 2 hp (by decide)))).trans ((xup_o2 (Or.inl (x2_place 2 hp (by decide)))).trans hq10))))))
theorem g_X4_unlink {p j : Nat} {M : St} (hp : xno2 p j [(2, none), (4, some 3), (4, some 4), (4, some 10), (4, some 11), (4, some 12)] = true) : (f_X4_unlink M) p j = M p j := by
  unfold f_X4_unlink
  exact (xb2_ps ((g_X6_pull (x2_sub hp (by decide))).trans ((xup_o2 (Or.inl (x2_place 2 hp (by decide)))).trans rfl)) (fun q5 hq5 => ((xup_o2 (Or.inl (x2_place 2 hp (by decide)))).trans hq5)))
theorem g_X4_stop {p j : Nat} {M : St} (hp : xno2 p j [(2, some 15), (2, some 16), (2, some 17), (2, some 18), (4, some 3), (4, some 4), (4, some 10), (4, some 11), (4, some 12), (12, some 7)] = true) : (f_X4_stop M) p j = M p j := by
  unfold f_X4_stop
  exact (xb2_ps ((g_X6_fetch (x2_sub hp (by decide))).trans rfl) (fun q1 hq1 => (xb2_ss ((g_X8_changeStatus (x2_sub hp (by decide))).trans hq1) (fun q4 hq4 => ((xup_o2 (x2_field 12 7 hp (by decide))).trans hq4)))))
theorem g_X4_performRest_225 {p j : Nat} {s0 : Int32} {M : St} (hp : xno2 p j [(12, some 6)] = true) : (f_X4_performRest_225 s0 M) p j = M p j := by
  unfold f_X4_performRest_225
  exact ((xup_o2 (x2_field 12 6 hp (by decide))).trans rfl)
theorem g_X4_performRest {p j : Nat} {a1 : Nat} {M : St} (hp : xno2 p j [(2, none), (4, some 3), (4, some 4), (4, some 5), (4, some 7), (4, some 8), (4, some 9), (4, some 10), (4, some 11), (4, some 12), (5, none), (7, none), (12, some 6), (12, some 7)] = true) : (f_X4_performRest a1 M) p j = M p j := by
  unfold f_X4_performRest
  exact (ite2_s (fun _ => (xb2_ss ((g_X4_exchange (x2_sub hp (by decide))).trans rfl) (fun q2 hq2 => hq2))) (fun _ => (ite2_s (fun _ => (xb2_ss ((g_X4_moveQuick (x2_sub hp (by decide))).trans rfl) (fun q6 hq6 => hq6))) (fun _ => (ite2_s (fun _ => (xb2_ps ((g_X4_statusJoined (x2_sub hp (by decide))).trans rfl) (fun q10 hq10 => (xb2_ss ((g_X8_changeFlags (x2_sub hp (by decide))).trans hq10) (fun q13 hq13 => hq13))))) (fun _ => (ite2_s (fun _ => (xb2_ps ((g_X4_statusJoined (x2_sub hp (by decide))).trans rfl) (fun q17 hq17 => (xb2_ss ((g_X8_changeStatus (x2_sub hp (by decide))).trans hq17) (fun q20 hq20 => hq20))))) (fun _ => (ite2_s (fun _ => (xb2_ss ((g_X4_swap (x2_sub hp (by decide))).trans rfl) (fun q24 hq24 => hq24))) (fun _ => (ite2_s (fun _ => (xb2_ps ((g_X6_pull (x2_sub hp (by decide))).trans rfl) (fun q28 hq28 => ((xup_o2 (Or.inl (x2_place 2 hp (by decide)))).trans hq28)))) (fun _ => (ite2_s (fun _ => (xb2_ss ((g_X4_returnWithFlags (x2_sub hp (by decide))).trans rfl) (fun q33 hq33 => hq33))) (fun _ => (ite2_s (fun _ => (xb2_ss ((g_X4_returnFromException (x2_sub hp (by decide))).trans rfl) (fun q37 hq37 => hq37))) (fun _ => (ite2_s (fun _ => ((xup_o2 (x2_field 12 6 hp (by decide))).trans rfl)) (fun _ => (ite2_s (fun _ => (ite2_s (fun _ => ((g_X4_performRest_225 (x2_sub hp (by decide))).trans rfl)) (fun _ => ((g_X4_performRest_225 (x2_sub hp (by decide))).trans rfl)))) (fun _ => (ite2_s (fun _ => (xb2_ss ((g_X4_link (x2_sub hp (by decide))).trans rfl) (fun q50 hq50 => hq50))) (fun _ => (ite2_s (fun _ => (xb2_ss ((g_X4_unlink (x2_sub hp (by decide))).trans rfl) (fun q54 hq54 => hq54))) (fun _ => (ite2_s (fun _ => ((xup_o2 (Or.inl (x2_place 2 hp (by decide)))).trans rfl)) (fun _ => (ite2_s (fun _ => ((xup_o2 (Or.inl (x2_place 2 hp (by decide)))).trans rfl)) (fun _ => (ite2_s (fun _ => (xb2_ss ((g_X2_quietTimer (x2_sub hp (by decide))).trans rfl) (fun q68 hq68 => hq68))) (fun _ => (ite2_s (fun _ => (xb2_ss ((g_X4_stop (x2_sub hp (by decide))).trans rfl) (fun q72 hq72 => hq72))) (fun _ => (ite2_s (fun _ => ((xup_o2 (x2_field 12 6 hp (by decide))).trans rfl)) (fun _ => (ite2_s (fun _ => ((xup_o2 (x2_field 12 6 hp (by decide))).trans rfl)) (fun _ => (ite2_s (fun _ => ((xup_o2 (x2_field 12 6 hp (by decide))).trans rfl)) (fun _ => (ite2_s (fun _ => ((xup_o2 (x2_field 12 6 hp (by decide))).trans rfl)) (fun _ => rfl))))))))))))))))))))))))))))))))))))))))
theorem g_X4_perform_237 {p j : Nat} {x1 : Nat} {M : St} (hp : xno2 p j [(2, none), (4, some 3), (4, some 4), (4, some 5), (4, some 7), (4, some 8), (4, some 9), (4, some 10), (4, some 11), (4, some 12), (5, none), (7, none), (10, some 2), (10, some 3)] = true) : (f_X4_perform_237 x1 M) p j = M p j := by
  unfold f_X4_perform_237
  exact (xb2_ps ((g_X4_readSource (x2_sub hp (by decide))).trans rfl) (fun q214 hq214 => (xb2_ss ((g_X4_change (x2_sub hp (by decide))).trans hq214) (fun q217 hq217 => hq217))))
theorem g_X4_perform_260 {p j : Nat} {x1 : Nat} {M : St} (hp : xno2 p j [(2, none), (4, some 3), (4, some 4), (4, some 10), (4, some 11), (4, some 12), (10, some 2), (10, some 3)] = true) : (f_X4_perform_260 x1 M) p j = M p j := by
  unfold f_X4_perform_260
  exact (xb2_ps ((g_X4_readSource (x2_sub hp (by decide))).trans rfl) (fun q220 hq220 => (xb2_ss ((g_X4_changeAddress (x2_sub hp (by decide))).trans hq220) (fun q223 hq223 => hq223))))
theorem g_X4_perform_516 {p j : Nat} {s0 : Int32} {M : St} (hp : xno2 p j [(2, none), (4, some 3), (4, some 4), (4, some 5), (4, some 7), (4, some 8), (4, some 9), (4, some 10), (4, some 11), (4, some 12), (5, none), (7, none), (10, some 2), (10, some 3)] = true) : (f_X4_perform_516 s0 M) p j = M p j := by
  unfold f_X4_perform_516
  exact (xb2_ss ((g_X4_overwrite (x2_sub hp (by decide))).trans rfl) (fun q226 hq226 => hq226))
theorem g_X4_perform {p j : Nat} {a1 : Nat} {M : St} (hp : xno2 p j [(2, none), (4, some 3), (4, some 4), (4, some 5), (4, some 7), (4, some 8), (4, some 9), (4, some 10), (4, some 11), (4, some 12), (5, none), (7, none), (10, some 2), (10, some 3), (12, some 6), (12, some 7)] = true) : (f_X4_perform a1 M) p j = M p j := by
  unfold f_X4_perform
  exact (ite2_s (fun _ => ((g_X4_perform_237 (x2_sub hp (by decide))).trans ((xup_o2 (x2_field 12 7 hp (by decide))).trans ((xup_o2 (x2_field 12 6 hp (by decide))).trans rfl)))) (fun _ => (ite2_s (fun _ => ((g_X4_perform_237 (x2_sub hp (by decide))).trans ((xup_o2 (x2_field 12 7 hp (by decide))).trans ((xup_o2 (x2_field 12 6 hp (by decide))).trans rfl)))) (fun _ => (ite2_s (fun _ => ((g_X4_perform_237 (x2_sub hp (by decide))).trans ((xup_o2 (x2_field 12 7 hp (by decide))).trans ((xup_o2 (x2_field 12 6 hp (by decide))).trans rfl)))) (fun _ => (ite2_s (fun _ => ((g_X4_perform_237 (x2_sub hp (by decide))).trans ((xup_o2 (x2_field 12 7 hp (by decide))).trans ((xup_o2 (x2_field 12 6 hp (by decide))).trans rfl)))) (fun _ => (ite2_s (fun _ => ((g_X4_perform_237 (x2_sub hp (by decide))).trans ((xup_o2 (x2_field 12 7 hp (by decide))).trans ((xup_o2 (x2_field 12 6 hp (by decide))).trans rfl)))) (fun _ => (ite2_s (fun _ => ((g_X4_perform_237 (x2_sub hp (by decide))).trans ((xup_o2 (x2_field 12 7 hp (by decide))).trans ((xup_o2 (x2_field 12 6 hp (by decide))).trans rfl)))) (fun _ => (ite2_s (fun _ => (xb2_ps ((g_X4_readSource (x2_sub hp (by decide))).trans ((xup_o2 (x2_field 12 7 hp (by decide))).trans ((xup_o2 (x2_field 12 6 hp (by decide))).trans rfl))) (fun q9 hq9 => (xb2_ss ((g_X4_compare (x2_sub hp (by decide))).trans hq9) (fun q12 hq12 => hq12))))) (fun _ => (ite2_s (fun _ => ((g_X4_perform_237 (x2_sub hp (by decide))).trans ((xup_o2 (x2_field 12 7 hp (by decide))).trans ((xup_o2 (x2_field 12 6 hp (by decide))).trans rfl)))) (fun _ => (ite2_s (fun _ => ((g_X4_perform_237 (x2_sub hp (by decide))).trans ((xup_o2 (x2_field 12 7 hp (by decide))).trans ((xup_o2 (x2_field 12 6 hp (by decide))).trans rfl)))) (fun _ => (ite2_s (fun _ => ((g_X4_perform_237 (x2_sub hp (by decide))).trans ((xup_o2 (x2_field 12 7 hp (by decide))).trans ((xup_o2 (x2_field 12 6 hp (by decide))).trans rfl)))) (fun _ => (ite2_s (fun _ => (xb2_ps ((g_X4_readSource (x2_sub hp (by decide))).trans ((xup_o2 (x2_field 12 7 hp (by decide))).trans ((xup_o2 (x2_field 12 6 hp (by decide))).trans rfl))) (fun q19 hq19 => (xb2_ps ((g_X1_tested (x2_sub hp (by decide))).trans hq19) (fun q22 hq22 => (xb2_ss ((g_X4_overwrite (x2_sub hp (by decide))).trans hq22) (fun q25 hq25 => hq25))))))) (fun _ => (ite2_s (fun _ => ((g_X4_perform_260 (x2_sub hp (by decide))).trans ((xup_o2 (x2_field 12 7 hp (by decide))).trans ((xup_o2 (x2_field 12 6 hp (by decide))).trans rfl)))) (fun _ => (ite2_s (fun _ => ((g_X4_perform_260 (x2_sub hp (by decide))).trans ((xup_o2 (x2_field 12 7 hp (by decide))).trans ((xup_o2 (x2_field 12 6 hp (by decide))).trans rfl)))) (fun _ => (ite2_s (fun _ => ((g_X4_perform_260 (x2_sub hp (by decide))).trans ((xup_o2 (x2_field 12 7 hp (by decide))).trans ((xup_o2 (x2_field 12 6 hp (by decide))).trans rfl)))) (fun _ => (ite2_s (fun _ => (xb2_ps ((g_X4_readSource (x2_sub hp (by decide))).trans ((xup_o2 (x2_field 12 7 hp (by decide))).trans ((xup_o2 (x2_field 12 6 hp (by decide))).trans rfl))) (fun q32 hq32 => (xb2_ss ((g_X4_compareAddress (x2_sub hp (by decide))).trans hq32) (fun q35 hq35 => hq35))))) (fun _ => (ite2_s (fun _ => (xb2_ps ((g_X4_readSource (x2_sub hp (by decide))).trans ((xup_o2 (x2_field 12 7 hp (by decide))).trans ((xup_o2 (x2_field 12 6 hp (by decide))).trans rfl))) (fun q39 hq39 => (xb2_ss ((g_X4_multiply (x2_sub hp (by decide))).trans hq39) (fun q42 hq42 => hq42))))) (fun _ => (ite2_s (fun _ => (xb2_ps ((g_X4_readSource (x2_sub hp (by decide))).trans ((xup_o2 (x2_field 12 7 hp (by decide))).trans ((xup_o2 (x2_field 12 6 hp (by decide))).trans rfl))) (fun q46 hq46 => (xb2_ss ((g_X4_divide (x2_sub hp (by decide))).trans hq46) (fun q49 hq49 => hq49))))) (fun _ => (ite2_s (fun _ => (xb2_ps ((g_X4_readSource (x2_sub hp (by decide))).trans ((xup_o2 (x2_field 12 7 hp (by decide))).trans ((xup_o2 (x2_field 12 6 hp (by decide))).trans rfl))) (fun q53 hq53 => (xb2_ss ((g_X4_checkBounds (x2_sub hp (by decide))).trans hq53) (fun q59 hq59 => hq59))))) (fun _ => (ite2_s (fun _ => (xb2_ss ((g_X4_changeQuick (x2_sub hp (by decide))).trans ((xup_o2 (x2_field 12 7 hp (by decide))).trans ((xup_o2 (x2_field 12 6 hp (by decide))).trans rfl))) (fun q66 hq66 => hq66))) (fun _ => (ite2_s (fun _ => (xb2_ss ((g_X4_changeQuick (x2_sub hp (by decide))).trans ((xup_o2 (x2_field 12 7 hp (by decide))).trans ((xup_o2 (x2_field 12 6 hp (by decide))).trans rfl))) (fun q73 hq73 => hq73))) (fun _ => (ite2_s (fun _ => (xb2_ss ((g_X4_changeBit (x2_sub hp (by decide))).trans ((xup_o2 (x2_field 12 7 hp (by decide))).trans ((xup_o2 (x2_field 12 6 hp (by decide))).trans rfl))) (fun q80 hq80 => hq80))) (fun _ => (ite2_s (fun _ => (xb2_ps ((g_X6_fetch (x2_sub hp (by decide))).trans ((xup_o2 (x2_field 12 7 hp (by decide))).trans ((xup_o2 (x2_field 12 6 hp (by decide))).trans rfl))) (fun q84 hq84 => (xb2_ss ((g_X4_changeBit (x2_sub hp (by decide))).trans hq84) (fun q87 hq87 => hq87))))) (fun _ => (ite2_s (fun _ => (xb2_ss ((g_X4_shiftRegister (x2_sub hp (by decide))).trans ((xup_o2 (x2_field 12 7 hp (by decide))).trans ((xup_o2 (x2_field 12 6 hp (by decide))).trans rfl))) (fun q91 hq91 => hq91))) (fun _ => (ite2_s (fun _ => (xb2_ss ((g_X4_shiftMemory (x2_sub hp (by decide))).trans ((xup_o2 (x2_field 12 7 hp (by decide))).trans ((xup_o2 (x2_field 12 6 hp (by decide))).trans rfl))) (fun q95 hq95 => hq95))) (fun _ => (ite2_s (fun _ => (xb2_ss ((g_X4_negate (x2_sub hp (by decide))).trans ((xup_o2 (x2_field 12 7 hp (by decide))).trans ((xup_o2 (x2_field 12 6 hp (by decide))).trans rfl))) (fun q99 hq99 => hq99))) (fun _ => (ite2_s (fun _ => (xb2_ss ((g_X4_negate (x2_sub hp (by decide))).trans ((xup_o2 (x2_field 12 7 hp (by decide))).trans ((xup_o2 (x2_field 12 6 hp (by decide))).trans rfl))) (fun q103 hq103 => hq103))) (fun _ => (ite2_s (fun _ => (xb2_ss ((g_X4_negate (x2_sub hp (by decide))).trans ((xup_o2 (x2_field 12 7 hp (by decide))).trans ((xup_o2 (x2_field 12 6 hp (by decide))).trans rfl))) (fun q107 hq107 => hq107))) (fun _ => (ite2_s (fun _ => (xb2_ps ((g_X1_tested (x2_sub hp (by decide))).trans ((xup_o2 (x2_field 12 7 hp (by decide))).trans ((xup_o2 (x2_field 12 6 hp (by decide))).trans rfl))) (fun q111 hq111 => (xb2_ss ((g_X4_overwrite (x2_sub hp (by decide))).trans hq111) (fun q114 hq114 => hq114))))) (fun _ => (ite2_s (fun _ => (xb2_ss ((g_X4_turn (x2_sub hp (by decide))).trans ((xup_o2 (x2_field 12 7 hp (by decide))).trans ((xup_o2 (x2_field 12 6 hp (by decide))).trans rfl))) (fun q118 hq118 => hq118))) (fun _ => (ite2_s (fun _ => (xb2_ss ((g_X4_extend (x2_sub hp (by decide))).trans ((xup_o2 (x2_field 12 7 hp (by decide))).trans ((xup_o2 (x2_field 12 6 hp (by decide))).trans rfl))) (fun q122 hq122 => hq122))) (fun _ => (ite2_s (fun _ => (xb2_ps ((g_X4_readSource (x2_sub hp (by decide))).trans ((xup_o2 (x2_field 12 7 hp (by decide))).trans ((xup_o2 (x2_field 12 6 hp (by decide))).trans rfl))) (fun q126 hq126 => (xb2_ps ((g_X1_tested (x2_sub hp (by decide))).trans hq126) (fun q129 hq129 => hq129))))) (fun _ => (ite2_s (fun _ => (xb2_ss ((g_X4_testAndSet (x2_sub hp (by decide))).trans ((xup_o2 (x2_field 12 7 hp (by decide))).trans ((xup_o2 (x2_field 12 6 hp (by decide))).trans rfl))) (fun q133 hq133 => hq133))) (fun _ => (ite2_s (fun _ => (xb2_vs (fun q140 => (ite2_s (fun _ => ((g_X4_perform_516 (x2_sub hp (by decide))).trans ((xup_o2 (x2_field 12 7 hp (by decide))).trans ((xup_o2 (x2_field 12 6 hp (by decide))).trans rfl)))) (fun _ => ((g_X4_perform_516 (x2_sub hp (by decide))).trans ((xup_o2 (x2_field 12 7 hp (by decide))).trans ((xup_o2 (x2_field 12 6 hp (by decide))).trans rfl)))))))) (fun _ => (ite2_s (fun _ => (xb2_ss ((g_X4_overwrite (x2_sub hp (by decide))).trans ((xup_o2 (x2_field 12 7 hp (by decide))).trans ((xup_o2 (x2_field 12 6 hp (by decide))).trans rfl))) (fun q147 hq147 => hq147))) (fun _ => (ite2_s (fun _ => (xb2_ps ((g_X4_readSource (x2_sub hp (by decide))).trans ((xup_o2 (x2_field 12 7 hp (by decide))).trans ((xup_o2 (x2_field 12 6 hp (by decide))).trans rfl))) (fun q151 hq151 => (xb2_ss ((g_X8_changeFlags (x2_sub hp (by decide))).trans hq151) (fun q154 hq154 => hq154))))) (fun _ => (ite2_s (fun _ => (xb2_ps ((g_X4_readSource (x2_sub hp (by decide))).trans ((xup_o2 (x2_field 12 7 hp (by decide))).trans ((xup_o2 (x2_field 12 6 hp (by decide))).trans rfl))) (fun q158 hq158 => (xb2_ss ((g_X8_changeStatus (x2_sub hp (by decide))).trans hq158) (fun q161 hq161 => hq161))))) (fun _ => (ite2_s (fun _ => (xb2_ss ((g_X4_storeMany (x2_sub hp (by decide))).trans ((xup_o2 (x2_field 12 7 hp (by decide))).trans ((xup_o2 (x2_field 12 6 hp (by decide))).trans rfl))) (fun q165 hq165 => hq165))) (fun _ => (ite2_s (fun _ => (xb2_ss ((g_X4_loadMany (x2_sub hp (by decide))).trans ((xup_o2 (x2_field 12 7 hp (by decide))).trans ((xup_o2 (x2_field 12 6 hp (by decide))).trans rfl))) (fun q169 hq169 => hq169))) (fun _ => (ite2_s (fun _ => (xb2_ps ((g_X4_address (x2_sub hp (by decide))).trans ((xup_o2 (x2_field 12 7 hp (by decide))).trans ((xup_o2 (x2_field 12 6 hp (by decide))).trans rfl))) (fun q176 hq176 => ((xup_o2 (Or.inl (x2_place 2 hp (by decide)))).trans hq176)))) (fun _ => (ite2_s (fun _ => (xb2_ps ((g_X4_address (x2_sub hp (by decide))).trans ((xup_o2 (x2_field 12 7 hp (by decide))).trans ((xup_o2 (x2_field 12 6 hp (by decide))).trans rfl))) (fun q181 hq181 => (xb2_ss ((g_X6_push (x2_sub hp (by decide))).trans hq181) (fun q184 hq184 => hq184))))) (fun _ => (ite2_s (fun _ => (xb2_ps ((g_X4_address (x2_sub hp (by decide))).trans ((xup_o2 (x2_field 12 7 hp (by decide))).trans ((xup_o2 (x2_field 12 6 hp (by decide))).trans rfl))) (fun q188 hq188 => (xb2_ss ((g_X4_call (x2_sub hp (by decide))).trans hq188) (fun q191 hq191 => hq191))))) (fun _ => (ite2_s (fun _ => (xb2_ps ((g_X4_address (x2_sub hp (by decide))).trans ((xup_o2 (x2_field 12 7 hp (by decide))).trans ((xup_o2 (x2_field 12 6 hp (by decide))).trans rfl))) (fun q195 hq195 => ((xup_o2 (Or.inl (x2_place 2 hp (by decide)))).trans hq195)))) (fun _ => (ite2_s (fun _ => (xb2_ss ((g_X4_branch (x2_sub hp (by decide))).trans ((xup_o2 (x2_field 12 7 hp (by decide))).trans ((xup_o2 (x2_field 12 6 hp (by decide))).trans rfl))) (fun q200 hq200 => hq200))) (fun _ => (ite2_s (fun _ => (xb2_ss ((g_X4_countDown (x2_sub hp (by decide))).trans ((xup_o2 (x2_field 12 7 hp (by decide))).trans ((xup_o2 (x2_field 12 6 hp (by decide))).trans rfl))) (fun q204 hq204 => hq204))) (fun _ => (ite2_s (fun _ => (xb2_ss ((g_X4_moveBytes (x2_sub hp (by decide))).trans ((xup_o2 (x2_field 12 7 hp (by decide))).trans ((xup_o2 (x2_field 12 6 hp (by decide))).trans rfl))) (fun q208 hq208 => hq208))) (fun _ => (xb2_ss ((g_X4_performRest (x2_sub hp (by decide))).trans ((xup_o2 (x2_field 12 7 hp (by decide))).trans ((xup_o2 (x2_field 12 6 hp (by decide))).trans rfl))) (fun q211 hq211 => hq211))))))))))))))))))))))))))))))))))))))))))))))))))))))))))))))))))))))))))))))))))))))))))))
theorem g_X7_end_81 {p j : Nat} {x1 : Int32} {s0 : Int32} {M : St} (hp : xno2 p j [(2, none), (3, none), (4, some 3), (4, some 4), (4, some 5), (4, some 7), (4, some 8), (4, some 9), (4, some 10), (4, some 11), (4, some 12), (5, none), (7, none), (8, some 7), (8, some 8), (9, none)] = true) : (f_X7_end_81 x1 s0 M).2 p j = M p j := by
  unfold f_X7_end_81
  exact (ite2_p (fun _ => ((xup_o2 (x2_field 8 8 hp (by decide))).trans rfl)) (fun _ => (ite2_p (fun _ => (xb2_sp ((g_X7_workOff (x2_sub hp (by decide))).trans ((xup_o2 (x2_field 8 8 hp (by decide))).trans rfl)) (fun q31 hq31 => (ite2_p (fun _ => hq31) (fun _ => hq31))))) (fun _ => ((xup_o2 (x2_field 8 8 hp (by decide))).trans rfl)))))
theorem g_X7_end_80 {p j : Nat} {x1 : Int32} {M : St} (hp : xno2 p j [(2, none), (3, none), (4, some 3), (4, some 4), (4, some 5), (4, some 7), (4, some 8), (4, some 9), (4, some 10), (4, some 11), (4, some 12), (5, none), (7, none), (8, some 7), (8, some 8), (9, none)] = true) : (f_X7_end_80 x1 M).2 p j = M p j := by
  unfold f_X7_end_80
  exact ((g_X7_end_81 (x2_sub hp (by decide))).trans rfl)
theorem g_X7_end_58 {p j : Nat} {x1 : Int32} {M : St} (hp : xno2 p j [(2, none), (3, none), (4, some 3), (4, some 4), (4, some 5), (4, some 7), (4, some 8), (4, some 9), (4, some 10), (4, some 11), (4, some 12), (5, none), (7, none), (8, some 7), (8, some 8), (9, none)] = true) : (f_X7_end_58 x1 M).2 p j = M p j := by
  unfold f_X7_end_58
  exact (ite2_p (fun _ => ((g_X7_end_80 (x2_sub hp (by decide))).trans rfl)) (fun _ => (ite2_p (fun _ => ((g_X7_end_81 (x2_sub hp (by decide))).trans rfl)) (fun _ => ((g_X7_end_80 (x2_sub hp (by decide))).trans rfl)))))
theorem g_X7_end_27 {p j : Nat} {s0 : Int32} {M : St} (hp : xno2 p j [(2, none), (3, none), (4, some 3), (4, some 4), (4, some 5), (4, some 7), (4, some 8), (4, some 9), (4, some 10), (4, some 11), (4, some 12), (5, none), (7, none), (8, some 7), (8, some 8), (9, none)] = true) : (f_X7_end_27 s0 M).2 p j = M p j := by
  unfold f_X7_end_27
  exact (ite2_p (fun _ => (ite2_p (fun _ => ((g_X7_end_58 (x2_sub hp (by decide))).trans rfl)) (fun _ => (xb2_sp ((g_X7_workOff (x2_sub hp (by decide))).trans rfl) (fun q12 hq12 => ((g_X7_end_58 (x2_sub hp (by decide))).trans hq12)))))) (fun _ => (xb2_sp ((g_X8_takeBack (x2_sub hp (by decide))).trans rfl) (fun q16 hq16 => (xb2_sp ((g_X7_workOff (x2_sub hp (by decide))).trans hq16) (fun q19 hq19 => hq19))))))
theorem g_X7_end {p j : Nat} {M : St} (hp : xno2 p j [(2, none), (3, none), (4, some 3), (4, some 4), (4, some 5), (4, some 7), (4, some 8), (4, some 9), (4, some 10), (4, some 11), (4, some 12), (5, none), (7, none), (8, some 7), (8, some 8), (9, none)] = true) : (f_X7_end M).2 p j = M p j := by
  unfold f_X7_end
  exact (ite2_p (fun _ => ((g_X7_end_27 (x2_sub hp (by decide))).trans rfl)) (fun _ => ((g_X7_end_27 (x2_sub hp (by decide))).trans rfl)))
theorem g_X2_tick_37 {p j : Nat} {s0 : Int32} {M : St} (hp : xno2 p j [(4, some 9)] = true) : (f_X2_tick_37 s0 M) p j = M p j := by
  unfold f_X2_tick_37
  exact ((xup_o2 (x2_field 4 9 hp (by decide))).trans rfl)
theorem g_X2_tick_32 {p j : Nat} {M : St} (hp : xno2 p j [(4, some 9)] = true) : (f_X2_tick_32 M) p j = M p j := by
  unfold f_X2_tick_32
  exact ((g_X2_tick_37 (x2_sub hp (by decide))).trans rfl)
theorem g_X2_tick {p j : Nat} {M : St} (hp : xno2 p j [(4, some 7), (4, some 9)] = true) : (f_X2_tick M) p j = M p j := by
  unfold f_X2_tick
  exact (ite2_s (fun _ => rfl) (fun _ => (ite2_s (fun _ => (ite2_s (fun _ => ((g_X2_tick_32 (x2_sub hp (by decide))).trans ((xup_o2 (x2_field 4 7 hp (by decide))).trans rfl))) (fun _ => ((g_X2_tick_37 (x2_sub hp (by decide))).trans ((xup_o2 (x2_field 4 7 hp (by decide))).trans rfl))))) (fun _ => ((g_X2_tick_32 (x2_sub hp (by decide))).trans ((xup_o2 (x2_field 4 7 hp (by decide))).trans rfl))))))
theorem g_X7_advance_101 {p j : Nat} {x3 : Int32} {M : St} (hp : xno2 p j [(4, some 7), (4, some 9)] = true) : (f_X7_advance_101 x3 M).2 p j = M p j := by
  unfold f_X7_advance_101
  exact (xb2_sp ((g_X2_tick (x2_sub hp (by decide))).trans rfl) (fun q32 hq32 => hq32))
theorem g_X7_advance_57 {p j : Nat} {x1 : Int32} {s0 : Int32} {M : St} (hp : xno2 p j [(2, none), (3, none), (4, some 3), (4, some 4), (4, some 5), (4, some 7), (4, some 8), (4, some 9), (4, some 10), (4, some 11), (4, some 12), (5, none), (7, none), (8, some 7), (8, some 8), (8, some 10), (8, some 11), (8, some 12), (9, none), (10, some 2), (10, some 3), (11, some 0), (11, some 1), (11, some 2), (11, some 3), (12, some 6), (12, some 7)] = true) : (f_X7_advance_57 x1 s0 M).2 p j = M p j := by
  unfold f_X7_advance_57
  exact (ite2_p (fun _ => (ite2_p (fun _ => (xb2_pp ((g_X7_begin (x2_sub hp (by decide))).trans ((xup_o2 (x2_field 8 10 hp (by decide))).trans rfl)) (fun q19 hq19 => (xb2_sp ((g_X4_perform (x2_sub hp (by decide))).trans hq19) (fun q22 hq22 => (xb2_pp ((g_X7_end (x2_sub hp (by decide))).trans hq22) (fun q25 hq25 => ((g_X7_advance_101 (x2_sub hp (by decide))).trans hq25)))))))) (fun _ => ((g_X7_advance_101 (x2_sub hp (by decide))).trans ((xup_o2 (x2_field 8 10 hp (by decide))).trans rfl))))) (fun _ => (xb2_pp ((g_X7_interrupt (x2_sub hp (by decide))).trans ((xup_o2 (x2_field 8 10 hp (by decide))).trans rfl)) (fun q29 hq29 => ((g_X7_advance_101 (x2_sub hp (by decide))).trans hq29)))))
theorem g_X7_advance_52 {p j : Nat} {x1 : Int32} {M : St} (hp : xno2 p j [(2, none), (3, none), (4, some 3), (4, some 4), (4, some 5), (4, some 7), (4, some 8), (4, some 9), (4, some 10), (4, some 11), (4, some 12), (5, none), (7, none), (8, some 7), (8, some 8), (8, some 10), (8, some 11), (8, some 12), (9, none), (10, some 2), (10, some 3), (11, some 0), (11, some 1), (11, some 2), (11, some 3), (12, some 6), (12, some 7)] = true) : (f_X7_advance_52 x1 M).2 p j = M p j := by
  unfold f_X7_advance_52
  exact ((g_X7_advance_57 (x2_sub hp (by decide))).trans rfl)
theorem g_X7_advance_56 {p j : Nat} {x1 : Int32} {M : St} (hp : xno2 p j [(2, none), (3, none), (4, some 3), (4, some 4), (4, some 5), (4, some 7), (4, some 8), (4, some 9), (4, some 10), (4, some 11), (4, some 12), (5, none), (7, none), (8, some 7), (8, some 8), (8, some 10), (8, some 11), (8, some 12), (9, none), (10, some 2), (10, some 3), (11, some 0), (11, some 1), (11, some 2), (11, some 3), (12, some 6), (12, some 7)] = true) : (f_X7_advance_56 x1 M).2 p j = M p j := by
  unfold f_X7_advance_56
  exact ((g_X7_advance_57 (x2_sub hp (by decide))).trans rfl)
theorem g_X7_advance_25 {p j : Nat} {s0 : Int32} {s1 : Int32} {M : St} (hp : xno2 p j [(2, none), (3, none), (4, some 3), (4, some 4), (4, some 5), (4, some 7), (4, some 8), (4, some 9), (4, some 10), (4, some 11), (4, some 12), (5, none), (7, none), (8, some 7), (8, some 8), (8, some 10), (8, some 11), (8, some 12), (9, none), (10, some 2), (10, some 3), (11, some 0), (11, some 1), (11, some 2), (11, some 3), (12, some 6), (12, some 7)] = true) : (f_X7_advance_25 s0 s1 M).2 p j = M p j := by
  unfold f_X7_advance_25
  exact (ite2_p (fun _ => ((g_X7_advance_52 (x2_sub hp (by decide))).trans rfl)) (fun _ => (ite2_p (fun _ => (ite2_p (fun _ => ((g_X7_advance_56 (x2_sub hp (by decide))).trans rfl)) (fun _ => ((g_X7_advance_52 (x2_sub hp (by decide))).trans rfl)))) (fun _ => ((g_X7_advance_56 (x2_sub hp (by decide))).trans rfl)))))
theorem g_X7_advance {p j : Nat} {M : St} (hp : xno2 p j [(2, none), (3, none), (4, some 3), (4, some 4), (4, some 5), (4, some 7), (4, some 8), (4, some 9), (4, some 10), (4, some 11), (4, some 12), (5, none), (7, none), (8, some 7), (8, some 8), (8, some 10), (8, some 11), (8, some 12), (9, none), (10, some 2), (10, some 3), (11, some 0), (11, some 1), (11, some 2), (11, some 3), (12, some 6), (12, some 7)] = true) : (f_X7_advance M).2 p j = M p j := by
  unfold f_X7_advance
  exact (ite2_p (fun _ => ((g_X7_advance_25 (x2_sub hp (by decide))).trans rfl)) (fun _ => ((g_X7_advance_25 (x2_sub hp (by decide))).trans rfl)))
