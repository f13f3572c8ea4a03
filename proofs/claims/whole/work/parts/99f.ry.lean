/-! the relation without an instruction's own numbers -/
theorem wr_core {A B : St} {a s v v' : Int32} (h : RB A B) (hS : supC A = supB B) (h0 : A 4 10 = 0) (hs : s = 0 ∨ s = 1 ∨ s = 2) (hv : v &&& f_X10_maskOf s = v' &&& f_X10_maskOf s) : RB (f_X2_write a s v A) (f_X11_write a s v' B) := by
  obtain ⟨N, hN, n1, n2, n3, n4⟩ := sz_n hs
  unfold f_X2_write f_X11_write
  simp only [xb_l]
  rcases chk (a := a) (way := 0) (w := true) h hS h0 hs (by simp) (Or.inl rfl) with ⟨c1, c2, c3, c4⟩ | ⟨c1, c2, c3, c4⟩
  · rw [show b2i true = 1 from rfl] at c2 c3
    rw [c1]
    dsimp only
    rw [if_neg (show ¬ (1 : Int32) = 0 by decide), if_pos c2, n1, n2]
    rw [n1] at c4
    have e : ((nI N).toInt - (0 : Int32).toInt).toNat + 1 = N + 1 := by
      rw [nI_toInt (by omega), show (0 : Int32).toInt = 0 by decide]; omega
    rw [e]
    exact wr_loop hN (ok_bytes hN c4) (mask_nat hs n1 hN hv) (N + 1) 0 _ _ c3 (by omega) (by omega)
  · rw [show b2i true = 1 from rfl] at c2 c3
    rw [c1, if_pos rfl, if_neg c2]
    exact c3
def GY (A B : St) : Prop := (∀ j, j < 18 → A 2 j = B 15 j) ∧ A 2 18 = B 14 2 ∧ (A 2 18) &&& 42783 = A 2 18
def RY (A B : St) : Prop := RB A B ∧ (A 4 10 = 0 → GY A B)
theorem GY.sup {A B : St} (h : GY A B) : supC A = supB B := by unfold supC supB; rw [h.2.1]
theorem GY.cg {A B A' B' : St} (h : GY A B) (h2 : A' 2 = A 2) (h15 : ∀ j, B' 15 j = B 15 j) (h14 : B' 14 2 = B 14 2) : GY A' B' := by
  unfold GY
  rw [h2, h14]
  exact ⟨fun j hj => by rw [h15]; exact h.1 j hj, h.2⟩
theorem RY.wr {A B : St} {a a' s v v' : Int32} (h : RY A B) (ha : A 4 10 = 0 → a = a' ∧ v &&& f_X10_maskOf s = v' &&& f_X10_maskOf s) (hs : s = 0 ∨ s = 1 ∨ s = 2) : RY (f_X2_write a s v A) (f_X11_write a' s v' B) := by
  by_cases h0 : A 4 10 = 0
  · obtain ⟨e1, hv⟩ := ha h0
    subst e1
    exact ⟨wr_core h.1 (h.2 h0).sup h0 hs hv, fun _ => (h.2 h0).cg (fr_X2_write rfl) (fun j => g_X11_write rfl) (g_X11_write rfl)⟩
  · rw [wr_err h0, wrM_err (fun e => h0 (h.1.err.1.trans e))]
    exact h
theorem RY.rd {A B : St} {a a' s way : Int32} (h : RY A B) (ha : A 4 10 = 0 → a = a') (hs : s = 0 ∨ s = 1 ∨ s = 2) (hw : way = 1 ∨ way = 3) : RY (f_X2_read a s way A).2 (f_X11_read a' s way B).2 ∧ ((f_X2_read a s way A).2 4 10 = 0 → A 4 10 = 0 ∧ (f_X2_read a s way A).1 = (f_X11_read a' s way B).1 ∧ rgS s (f_X2_read a s way A).1) := by
  by_cases h0 : A 4 10 = 0
  · have := ha h0; subst this
    have key := rd_core (a := a) (way := way) h.1 (h.2 h0).sup h0 hs hw
    exact ⟨⟨key.1, fun _ => (h.2 h0).cg (fr_X2_read rfl) (fun j => g_X11_read rfl) (g_X11_read rfl)⟩, fun e => ⟨h0, key.2 e⟩⟩
  · rw [rdC_err h0, rdM_err (fun e => h0 (h.1.err.1.trans e))]
    exact ⟨h, fun e => absurd e h0⟩
theorem RY.setr {A B : St} {j : Nat} {v v' : Int32} (h : RY A B) (hj : j < 18) (hv : A 4 10 = 0 → v = v') : RY (xup A 2 j v) (xup B 15 j v') := by
  refine ⟨h.1.cg (fun p hp => xup_other (xnot_at hp rfl)) (fun p k hp => xup_o2 (Or.inl (x2_place 15 hp rfl))), fun e => ?_⟩
  rw [xup_o2 (Or.inl (by decide))] at e
  obtain ⟨g1, g2, g3⟩ := h.2 e
  have := hv e; subst this
  refine ⟨fun i hi => ?_, ?_, ?_⟩
  · rw [xup_ite, xup_ite]
    by_cases c : i = j
    · subst c; simp
    · simp [c]; exact g1 i hi
  · rw [xup_o2 (Or.inr (by omega)), xo4 rfl]; exact g2
  · rw [xup_o2 (Or.inr (by omega))]; exact g3
theorem RY.push {A B : St} {s v v' : Int32} (h : RY A B) (hs : s = 0 ∨ s = 1 ∨ s = 2) (hv : A 4 10 = 0 → v &&& f_X10_maskOf s = v' &&& f_X10_maskOf s) : RY (f_X6_push s v A) (f_X11_push s v' B) := by
  unfold f_X6_push f_X11_push
  simp only [xb_l]
  have s1 := h.setr (j := 15) (v := A 2 15 - f_X10_bytesOf s) (v' := B 15 15 - ((1 : Int32) <<< (s &&& 31))) (by decide) (fun e => by rw [(h.2 e).1 15 (by decide)]; rfl)
  exact s1.wr (fun e => by
    rw [xo4 rfl] at e
    exact ⟨by rw [(h.2 e).1 15 (by decide)]; rfl, hv e⟩) hs
theorem RY.sets {A B : St} {v v' : Int32} (h : RY A B) (hv : A 4 10 = 0 → v = v' ∧ v &&& 42783 = v) : RY (xup A 2 18 v) (xup B 14 2 v') := by
  refine ⟨h.1.cg (fun p hp => xup_other (xnot_at hp rfl)) (fun p k hp => xup_o2 (x2_field 14 2 hp rfl)), fun e => ?_⟩
  rw [xup_o2 (Or.inl (by decide))] at e
  obtain ⟨g1, g2, g3⟩ := h.2 e
  obtain ⟨e1, e2⟩ := hv e
  exact ⟨fun i hi => by rw [xup_o2 (Or.inr (by omega)), xo4 rfl]; exact g1 i hi, by rw [xs4, xs4]; exact e1, by rw [xs4]; exact e2⟩
theorem RY.chst {A B : St} {w w' : Int32} (h : RY A B) (hw : A 4 10 = 0 → w &&& 42783 = w' &&& 42783) : RY (f_X8_changeStatus w A) (f_X11_setStatus w' B) := by
  by_cases e : A 4 10 = 0
  · have g := h.2 e
    unfold f_X8_changeStatus f_X8_changeStatus_51 f_X11_setStatus f_X11_setStatus_48
    rw [hw e, g.2.1, Int32.xor_comm (w' &&& 42783)]
    by_cases c : (B 14 2 ^^^ (w' &&& 42783)) &&& 8192 = 0
    · rw [if_pos c, if_pos c]
      exact h.sets (fun _ => ⟨rfl, mm2⟩)
    · rw [if_neg c, if_neg c]
      have r1 := h.setr (j := 15) (v := A 2 16) (v' := B 15 16) (by decide) (fun e => (h.2 e).1 16 (by decide))
      have r2 := r1.setr (j := 16) (v := A 2 15) (v' := B 15 15) (by decide) (fun _ => g.1 15 (by decide))
      exact r2.sets (fun _ => ⟨rfl, mm2⟩)
  · refine ⟨h.1.cg (fun p hp => fr_X8_changeStatus (xnot_sub hp rfl)) (fun p k hp => g_X11_setStatus (x2_sub hp rfl)), fun x => ?_⟩
    rw [fr_X8_changeStatus rfl] at x
    exact absurd x e
/-! keeping and taking back -/
theorem kp16 : ∀ (n k : Nat) (M : St), k ≤ 18 → 18 - k < n → ∀ i, (f_X11_keep__16_2 n (nI k) M) 16 i = if i = 18 then M 14 2 else if k ≤ i ∧ i < 18 then M 15 i else M 16 i
  | 0, _, _, _, hn => absurd hn (Nat.not_lt_zero _)
  | n + 1, k, M, hk, hn => by
    intro i
    show (if 18 ≤ nI k then (xup M 16 18 (M 14 2)) else f_X11_keep__16_2 n (nI k + 1) (xup M 16 (nI k).toNatClampNeg (M 15 (nI k).toNatClampNeg))) 16 i = _
    have hle : ((18 : Int32) ≤ nI k) ↔ 18 ≤ k := nI_leI (a := 18) (b := k) (by decide) (by omega)
    by_cases c : 18 ≤ k
    · rw [if_pos (hle.mpr c), xup_ite]
      by_cases c2 : i = 18
      · rw [if_pos ⟨rfl, c2⟩, if_pos c2]
      · rw [if_neg (fun x => c2 x.2), if_neg c2, if_neg (by omega)]
    · rw [if_neg (fun x => c (hle.mp x)), nI_1, nI_clamp (show k < 2 ^ 31 by omega), kp16 n (k + 1) _ (by omega) (by omega) i, xo4 rfl, xo4 rfl, xup_ite]
      by_cases c2 : i = 18
      · rw [if_pos c2, if_pos c2]
      · rw [if_neg c2, if_neg c2]
        by_cases c3 : i = k
        · rw [if_neg (by omega), if_pos ⟨rfl, c3⟩, if_pos (by omega), c3]
        · by_cases c4 : k + 1 ≤ i ∧ i < 18
          · rw [if_pos c4, if_pos (by omega)]
          · rw [if_neg c4, if_neg (fun x => c3 x.2), if_neg (by omega)]
theorem kept16 {M : St} : (∀ i, i < 18 → (f_X11_keep__16 M) 16 i = M 15 i) ∧ (f_X11_keep__16 M) 16 18 = M 14 2 := by
  have h := kp16 19 0 M (by decide) (by decide)
  refine ⟨fun i hi => ?_, ?_⟩
  · have := h i
    rw [if_neg (by omega), if_pos (by omega)] at this
    exact this
  · have := h 18
    rw [if_pos rfl] at this
    exact this
theorem bk16 : ∀ (n k : Nat) (M : St), k ≤ 18 → 18 - k < n → (∀ i, (f_X11_back__16_2 n (nI k) M) 15 i = if k ≤ i ∧ i < 18 then M 16 i else M 15 i) ∧ (f_X11_back__16_2 n (nI k) M) 14 2 = M 16 18
  | 0, _, _, _, hn => absurd hn (Nat.not_lt_zero _)
  | n + 1, k, M, hk, hn => by
    show (∀ i, (if 18 ≤ nI k then (xup M 14 2 (M 16 18)) else f_X11_back__16_2 n (nI k + 1) (xup M 15 (nI k).toNatClampNeg (M 16 (nI k).toNatClampNeg))) 15 i = _) ∧ (if 18 ≤ nI k then (xup M 14 2 (M 16 18)) else f_X11_back__16_2 n (nI k + 1) (xup M 15 (nI k).toNatClampNeg (M 16 (nI k).toNatClampNeg))) 14 2 = _
    have hle : ((18 : Int32) ≤ nI k) ↔ 18 ≤ k := nI_leI (a := 18) (b := k) (by decide) (by omega)
    by_cases c : 18 ≤ k
    · rw [if_pos (hle.mpr c)]
      refine ⟨fun i => ?_, xs4⟩
      rw [xo4 rfl, if_neg (by omega)]
    · rw [if_neg (fun x => c (hle.mp x)), nI_1, nI_clamp (show k < 2 ^ 31 by omega)]
      obtain ⟨h1, h2⟩ := bk16 n (k + 1) (xup M 15 k (M 16 k)) (by omega) (by omega)
      refine ⟨fun i => ?_, by rw [h2, xo4 rfl]⟩
      rw [h1 i, xo4 rfl, xup_ite]
      by_cases c3 : i = k
      · rw [if_neg (by omega), if_pos ⟨rfl, c3⟩, if_pos (by omega), c3]
      · by_cases c4 : k + 1 ≤ i ∧ i < 18
        · rw [if_pos c4, if_pos (by omega)]
        · rw [if_neg c4, if_neg (fun x => c3 x.2), if_neg (by omega)]
theorem back16 {M : St} : (∀ i, i < 18 → (f_X11_back__16 M) 15 i = M 16 i) ∧ (f_X11_back__16 M) 14 2 = M 16 18 := by
  obtain ⟨h1, h2⟩ := bk16 19 0 M (by decide) (by decide)
  refine ⟨fun i hi => ?_, h2⟩
  have := h1 i
  rw [if_pos (by omega)] at this
  exact this
theorem kp17 : ∀ (n k : Nat) (M : St), k ≤ 18 → 18 - k < n → ∀ i, (f_X11_keep__17_2 n (nI k) M) 17 i = if i = 18 then M 14 2 else if k ≤ i ∧ i < 18 then M 15 i else M 17 i
  | 0, _, _, _, hn => absurd hn (Nat.not_lt_zero _)
  | n + 1, k, M, hk, hn => by
    intro i
    show (if 18 ≤ nI k then (xup M 17 18 (M 14 2)) else f_X11_keep__17_2 n (nI k + 1) (xup M 17 (nI k).toNatClampNeg (M 15 (nI k).toNatClampNeg))) 17 i = _
    have hle : ((18 : Int32) ≤ nI k) ↔ 18 ≤ k := nI_leI (a := 18) (b := k) (by decide) (by omega)
    by_cases c : 18 ≤ k
    · rw [if_pos (hle.mpr c), xup_ite]
      by_cases c2 : i = 18
      · rw [if_pos ⟨rfl, c2⟩, if_pos c2]
      · rw [if_neg (fun x => c2 x.2), if_neg c2, if_neg (by omega)]
    · rw [if_neg (fun x => c (hle.mp x)), nI_1, nI_clamp (show k < 2 ^ 31 by omega), kp17 n (k + 1) _ (by omega) (by omega) i, xo4 rfl, xo4 rfl, xup_ite]
      by_cases c2 : i = 18
      · rw [if_pos c2, if_pos c2]
      · rw [if_neg c2, if_neg c2]
        by_cases c3 : i = k
        · rw [if_neg (by omega), if_pos ⟨rfl, c3⟩, if_pos (by omega), c3]
        · by_cases c4 : k + 1 ≤ i ∧ i < 18
          · rw [if_pos c4, if_pos (by omega)]
          · rw [if_neg c4, if_neg (fun x => c3 x.2), if_neg (by omega)]
theorem kept17 {M : St} : (∀ i, i < 18 → (f_X11_keep__17 M) 17 i = M 15 i) ∧ (f_X11_keep__17 M) 17 18 = M 14 2 := by
  have h := kp17 19 0 M (by decide) (by decide)
  refine ⟨fun i hi => ?_, ?_⟩
  · have := h i
    rw [if_neg (by omega), if_pos (by omega)] at this
    exact this
  · have := h 18
    rw [if_pos rfl] at this
    exact this
theorem bk17 : ∀ (n k : Nat) (M : St), k ≤ 18 → 18 - k < n → (∀ i, (f_X11_back__17_2 n (nI k) M) 15 i = if k ≤ i ∧ i < 18 then M 17 i else M 15 i) ∧ (f_X11_back__17_2 n (nI k) M) 14 2 = M 17 18
  | 0, _, _, _, hn => absurd hn (Nat.not_lt_zero _)
  | n + 1, k, M, hk, hn => by
    show (∀ i, (if 18 ≤ nI k then (xup M 14 2 (M 17 18)) else f_X11_back__17_2 n (nI k + 1) (xup M 15 (nI k).toNatClampNeg (M 17 (nI k).toNatClampNeg))) 15 i = _) ∧ (if 18 ≤ nI k then (xup M 14 2 (M 17 18)) else f_X11_back__17_2 n (nI k + 1) (xup M 15 (nI k).toNatClampNeg (M 17 (nI k).toNatClampNeg))) 14 2 = _
    have hle : ((18 : Int32) ≤ nI k) ↔ 18 ≤ k := nI_leI (a := 18) (b := k) (by decide) (by omega)
    by_cases c : 18 ≤ k
    · rw [if_pos (hle.mpr c)]
      refine ⟨fun i => ?_, xs4⟩
      rw [xo4 rfl, if_neg (by omega)]
    · rw [if_neg (fun x => c (hle.mp x)), nI_1, nI_clamp (show k < 2 ^ 31 by omega)]
      obtain ⟨h1, h2⟩ := bk17 n (k + 1) (xup M 15 k (M 17 k)) (by omega) (by omega)
      refine ⟨fun i => ?_, by rw [h2, xo4 rfl]⟩
      rw [h1 i, xo4 rfl, xup_ite]
      by_cases c3 : i = k
      · rw [if_neg (by omega), if_pos ⟨rfl, c3⟩, if_pos (by omega), c3]
      · by_cases c4 : k + 1 ≤ i ∧ i < 18
        · rw [if_pos c4, if_pos (by omega)]
        · rw [if_neg c4, if_neg (fun x => c3 x.2), if_neg (by omega)]
theorem back17 {M : St} : (∀ i, i < 18 → (f_X11_back__17 M) 15 i = M 17 i) ∧ (f_X11_back__17 M) 14 2 = M 17 18 := by
  obtain ⟨h1, h2⟩ := bk17 19 0 M (by decide) (by decide)
  refine ⟨fun i hi => ?_, h2⟩
  have := h1 i
  rw [if_pos (by omega)] at this
  exact this
theorem xcp_at {M : St} {a b j : Nat} (hj : j < 19) : xcp M a b b j = M a j := by
  show va_up M b (va_cpy (M a) (M b) 0 0 19) b j = _
  rw [va_up_self]
  show (if 0 ≤ j ∧ j < 0 + 19 then M a (0 + (j - 0)) else M b j) = _
  rw [if_pos (by omega)]
  congr 1
  omega
