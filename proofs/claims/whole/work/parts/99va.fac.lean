/-! the face's methods that throw, over the class's own functions -/
theorem putR2 {A B : St} {a w : Int32} (h : RM A B) : (f_X10_put a w A).1 = (f_X11_put a w B) 14 0 ∧ RM (f_X10_put a w A).2 (f_X11_put a w B) := by
  unfold f_X10_put
  rcases putR (a := a) (w := w) h with ⟨c, e, r⟩ | ⟨c, e, r⟩
  · rw [if_pos c]
    exact ⟨e.symm, r⟩
  · rw [if_neg c]
    exact ⟨e.symm, r⟩
theorem fenceR2 {A B : St} {a : Int32} (h : RM A B) : (f_X10_fence a A).1 = (f_X11_fence a B) 14 0 ∧ RM (f_X10_fence a A).2 (f_X11_fence a B) := by
  unfold f_X10_fence
  rcases fenceR (a := a) h with ⟨c, e, r⟩ | ⟨c, e, r⟩
  · by_cases c1 : a < 0
    · rw [if_pos c1]
      exact ⟨e.symm, r⟩
    · rw [if_neg c1, if_neg (Int32.not_le.mpr (c.resolve_left c1))]
      exact ⟨e.symm, r⟩
  · rw [if_neg (fun z => c (Or.inl z)), if_pos (Int32.not_lt.mp (fun z => c (Or.inr z)))]
    exact ⟨e.symm, r⟩
theorem levelR2 {A B : St} {a : Int32} (h : RM A B) : (f_X10_level a A).1 = (f_X11_level a B) 14 0 ∧ RM (f_X10_level a A).2 (f_X11_level a B) := by
  unfold f_X10_level
  rcases levelR (a := a) h with ⟨c, e, r⟩ | ⟨c, e, r⟩
  · by_cases c1 : a < 0
    · rw [if_pos c1]
      exact ⟨e.symm, r⟩
    · rw [if_neg c1, if_neg (Int32.not_le.mpr (c.resolve_left c1))]
      exact ⟨e.symm, r⟩
  · rw [if_neg (fun z => c (Or.inl z)), if_pos (Int32.not_lt.mp (fun z => c (Or.inr z)))]
    exact ⟨e.symm, r⟩
theorem setR2 {A B : St} {a v : Int32} (h : RM A B) : (f_X10_set a v A).1 = (f_X11_set a v B) 14 0 ∧ RM (f_X10_set a v A).2 (f_X11_set a v B) := by
  unfold f_X10_set
  rcases setR (a := a) (v := v) h with ⟨c, e, r⟩ | ⟨c, e, r⟩
  · by_cases c1 : a < 0
    · rw [if_pos c1]
      exact ⟨e.symm, r⟩
    · rw [if_neg c1, if_neg (Int32.not_lt.mpr (c.resolve_left c1))]
      exact ⟨e.symm, r⟩
  · rw [if_neg (fun z => c (Or.inl z)), if_pos (Int32.not_le.mp (fun z => c (Or.inr z)))]
    by_cases c2 : a = 18
    · rw [if_pos c2] at r ⊢
      exact ⟨e.symm, r⟩
    · rw [if_neg c2] at r ⊢
      exact ⟨e.symm, r⟩
theorem getR2 {A B : St} {a : Int32} (h : RM A B) : (f_X10_get a A).1 = (f_X11_get a B).2 14 0 ∧ ((f_X10_get a A).1 = 0 → (f_X10_get a A).2.1 = (f_X11_get a B).1) ∧ RM (f_X10_get a A).2.2 (f_X11_get a B).2 := by
  unfold f_X10_get
  rcases getR (a := a) h with ⟨c, e, r⟩ | ⟨c, e, q, r⟩
  · by_cases c1 : a < 0
    · rw [if_pos c1]
      exact ⟨e.symm, fun z => absurd (show (1 : Int32) = 0 from z) (by decide), r⟩
    · rw [if_neg c1, if_neg (Int32.not_lt.mpr (c.resolve_left c1))]
      exact ⟨e.symm, fun z => absurd (show (1 : Int32) = 0 from z) (by decide), r⟩
  · rw [if_neg (fun z => c (Or.inl z)), if_pos (Int32.not_le.mp (fun z => c (Or.inr z)))]
    exact ⟨e.symm, fun _ => q.symm, r⟩
theorem deviceR2 {A B : St} {a : Int32} (h : RM A B) : (f_X10_device a A).1 = (f_X11_device a B).2 14 0 ∧ ((f_X10_device a A).1 = 0 → (f_X10_device a A).2.1 = (f_X11_device a B).1) ∧ RM (f_X10_device a A).2.2 (f_X11_device a B).2 := by
  unfold f_X10_device
  rcases deviceR (a := a) h with ⟨c, e, r⟩ | ⟨c, e, q, r⟩
  · rw [if_neg (fun z => c (Or.inl z)), if_neg (fun z => c (Or.inr (Or.inl z))), if_neg (fun z => c (Or.inr (Or.inr (Or.inl z)))), if_neg (fun z => c (Or.inr (Or.inr (Or.inr (Or.inl z))))), if_neg (fun z => c (Or.inr (Or.inr (Or.inr (Or.inr z)))))]
    exact ⟨e.symm, fun z => absurd (show (1 : Int32) = 0 from z) (by decide), r⟩
  · rw [e, q]
    rcases c with rfl | rfl | rfl | rfl | rfl
    · exact ⟨rfl, fun _ => rfl, r⟩
    · exact ⟨rfl, fun _ => rfl, r⟩
    · show (if A 4 9 = 0 then ((0 : Int32), (0 : Int32), A) else (0, 1, A)).1 = 0 ∧ ((if A 4 9 = 0 then ((0 : Int32), (0 : Int32), A) else (0, 1, A)).1 = 0 → (if A 4 9 = 0 then ((0 : Int32), (0 : Int32), A) else (0, 1, A)).2.1 = (if A 4 9 = 0 then 0 else 1)) ∧ RM (if A 4 9 = 0 then ((0 : Int32), (0 : Int32), A) else (0, 1, A)).2.2 (f_X11_device 2 B).2
      by_cases c9 : A 4 9 = 0
      · rw [if_pos c9, if_pos c9]
        exact ⟨rfl, fun _ => rfl, r⟩
      · rw [if_neg c9, if_neg c9]
        exact ⟨rfl, fun _ => rfl, r⟩
    · exact ⟨rfl, fun _ => rfl, r⟩
    · exact ⟨rfl, fun _ => rfl, r⟩
theorem stepR2 {A B : St} (h : RM A B) : (f_X10_step A).1 = (f_X11_step B).2 14 0 ∧ ((f_X10_step A).1 = 0 → (f_X10_step A).2.1 = (f_X11_step B).1) ∧ RM (f_X10_step A).2.2 (f_X11_step B).2 := by
  unfold f_X10_step
  rcases stepF h with ⟨c, e, r⟩ | ⟨c, e, q, r⟩
  · rw [if_neg c]
    exact ⟨e.symm, fun z => absurd (show (1 : Int32) = 0 from z) (by decide), r⟩
  · rw [if_pos c]
    exact ⟨e.symm, fun _ => q, r⟩
/-! fill: words of two bytes against bytes -/
theorem lus_k : ∀ s, s < 64 → ((((nI s).toInt64.toUInt64 &&& Int64.toUInt64 63).toBitVec) % 64).toNat = s := by decide +kernel
theorem lsr_k : ∀ s, s < 64 → (((nI s).toInt64 &&& 63).toBitVec.smod 64).toNat = s := by decide +kernel
theorem lus_bit (v : Int64) (s i : Nat) (hs : s < 64) : (lus v (nI s)).toBitVec.getLsbD i = v.toBitVec.getLsbD (s + i) := by
  unfold lus
  show (v.toUInt64 >>> ((nI s).toInt64.toUInt64 &&& Int64.toUInt64 63)).toBitVec.getLsbD i = v.toBitVec.getLsbD (s + i)
  rw [UInt64.toBitVec_shiftRight, BitVec.ushiftRight_eq', lus_k s hs, BitVec.getLsbD_ushiftRight]
  rfl
theorem lsr_bit (v : Int64) (s i : Nat) (hs : s < 64) (hi : s + i < 64) : (v >>> ((nI s).toInt64 &&& 63)).toBitVec.getLsbD i = v.toBitVec.getLsbD (s + i) := by
  rw [Int64.toBitVec_shiftRight, BitVec.getLsbD_sshiftRight', lsr_k s hs, if_pos hi]
  have : ¬ 64 ≤ i := by omega
  simp [this]
theorem bt_l2i (v : Int64) (i : Nat) (hi : i < 32) : bt v.toInt32 i = v.toBitVec.getLsbD i := by
  unfold bt
  rw [Int64.toBitVec_toInt32, BitVec.getLsbD_signExtend, if_pos (by omega)]
  simp [hi]
theorem bt_255 : ∀ i, i < 32 → bt 255 i = decide (i < 8) := by decide +kernel
theorem byt_lo (v : Int64) (s : Nat) (hs : s < 56) : (lus v (nI s)).toInt32 &&& 255 = (v >>> ((nI s).toInt64 &&& 63)).toInt32 &&& 255 := bt_ext (fun i hi => by
  rw [bt_and, bt_and, bt_255 i hi]
  by_cases h8 : i < 8
  · rw [bt_l2i _ i hi, bt_l2i _ i hi, lus_bit v s i (by omega), lsr_bit v s i (by omega) (by omega)]
  · simp [h8])
theorem byt_hi (v : Int64) (s : Nat) (hs : s ≤ 48) : ((lus v (nI s)).toInt32 >>> ((8 : Int32) &&& 31)) &&& 255 = (v >>> ((nI (s + 8)).toInt64 &&& 63)).toInt32 &&& 255 := by
  rw [show ((lus v (nI s)).toInt32 >>> ((8 : Int32) &&& 31)) &&& 255 = (ius (lus v (nI s)).toInt32 (nI 8)) &&& 255 from (byt_s _ 8 (by decide)).trans (byt_u _ 8 (by decide)).symm]
  refine bt_ext (fun i hi => ?_)
  rw [bt_and, bt_and, bt_255 i hi]
  by_cases h8 : i < 8
  · rw [bt_ius _ 8 i (by decide), bt_l2i _ (8 + i) (by omega), bt_l2i _ i hi, lus_bit v s (8 + i) (by omega), lsr_bit v (s + 8) i (by omega) (by omega), Nat.add_assoc]
  · simp [h8]
theorem fill_1 : ∀ N, N < 5 → ∀ j, j < N → 16 * ((nI N - 1) - nI j) = nI (16 * (N - 1 - j)) := by decide +kernel
theorem fill_2 : ∀ N, N < 5 → ∀ j, j < N → 8 * (((2 * nI N) - 1) - nI (2 * j)) = nI (16 * (N - 1 - j) + 8) := by decide +kernel
theorem fill_3 : ∀ N, N < 5 → ∀ j, j < N → 8 * (((2 * nI N) - 1) - nI (2 * j + 1)) = nI (16 * (N - 1 - j)) := by decide +kernel
theorem fill_4 : ∀ N, N < 5 → ∀ j, j < N → (¬ nI N ≤ nI j) ∧ (¬ 2 * nI N ≤ nI (2 * j)) ∧ (¬ 2 * nI N ≤ nI (2 * j + 1)) ∧ 2 * nI j = nI (2 * j) := by decide +kernel
theorem fill_5 : ∀ N, N < 5 → nI N ≤ nI N ∧ 2 * nI N ≤ nI (2 * N) := by decide +kernel
theorem fillC_u (n : Nat) (x1 x2 x5 : Int32) (x3 : Int64) (M : St) : f_X10_fill_37 (n + 1) x1 x2 x3 x5 M = (if x2 ≤ x5 then (0, M) else f_X10_fill_37 n x1 x2 x3 (x5 + 1) (f_X2_store (x1 + (2 * x5)) (lus x3 (16 * ((x2 - 1) - x5))).toInt32 M)) := rfl
theorem fillM_u (n : Nat) (x1 x2 x5 : Int32) (x3 : Int64) (M : St) : f_X11_fill_55 (n + 1) x1 x2 x3 x5 M = (if (2 * x2) ≤ x5 then M else f_X11_fill_55 n x1 x2 x3 (x5 + 1) (xup M 18 (x1 + x5).toNatClampNeg ((x3 >>> ((8 * (((2 * x2) - 1) - x5)).toInt64 &&& 63)).toInt32 &&& 255))) := rfl
theorem fillL {k N : Nat} {v : Int64} (hN : N < 5) (hk : k + 2 * N ≤ 2048) : ∀ (n j : Nat) (A B : St), j + n = N → RM A B → B 14 0 = 0 → (f_X10_fill_37 (n + 1) (nI k) (nI N) v (nI j) A).1 = 0 ∧ (f_X11_fill_55 (2 * n + 1) (nI k) (nI N) v (nI (2 * j)) B) 14 0 = 0 ∧ RM (f_X10_fill_37 (n + 1) (nI k) (nI N) v (nI j) A).2 (f_X11_fill_55 (2 * n + 1) (nI k) (nI N) v (nI (2 * j)) B)
  | 0, j, A, B, hj, h, h0 => by
    have hjN : j = N := by omega
    subst hjN
    rw [fillC_u, fillM_u, if_pos (fill_5 j hN).1, if_pos (fill_5 j hN).2]
    exact ⟨rfl, h0, h⟩
  | n + 1, j, A, B, hj, h, h0 => by
    have hjN : j < N := by omega
    obtain ⟨q1, q2, q3, q4⟩ := fill_4 N hN j hjN
    have e2 : ∀ i : Nat, k + i < 2 ^ 31 → (nI k + nI i).toNatClampNeg = k + i := fun i hi => by rw [nI_add]; exact nI_clamp hi
    rw [fillC_u, if_neg q1, q4, nI_add, fill_1 N hN j hjN, nI_1]
    rw [show 2 * (n + 1) + 1 = (2 * n + 1) + 1 + 1 by omega, fillM_u, if_neg q2, fill_2 N hN j hjN, nI_1, fillM_u, if_neg q3, fill_3 N hN j hjN, nI_1, show 2 * j + 1 + 1 = 2 * (j + 1) by omega, e2 (2 * j) (by omega), e2 (2 * j + 1) (by omega)]
    have s := storeR (a := k + 2 * j) (w := (lus v (nI (16 * (N - 1 - j)))).toInt32) h (by omega)
    rw [byt_hi v (16 * (N - 1 - j)) (by omega), byt_lo v (16 * (N - 1 - j)) (by omega)] at s
    exact fillL hN hk n (j + 1) _ _ (by omega) s (by rw [← Nat.add_assoc, xo4 rfl, xo4 rfl]; exact h0)
theorem fillR2 {A B : St} {a n : Int32} {v : Int64} (h : RM A B) : (f_X10_fill a n v A).1 = (f_X11_fill a n v B) 14 0 ∧ RM (f_X10_fill a n v A).2 (f_X11_fill a n v B) := by
  unfold f_X10_fill f_X11_fill
  by_cases c1 : n < 1
  · rw [if_pos c1, if_pos c1]
    exact ⟨(show (1 : Int32) = (xup B 14 0 1) 14 0 from xs4.symm), h.thr 1⟩
  · rw [if_neg c1, if_neg c1]
    by_cases c2 : n ≤ 4
    · rw [if_pos c2, if_pos c2]
      have bad : ((2 : Int32), A).1 = (xup B 14 0 2) 14 0 ∧ RM ((2 : Int32), A).2 (xup B 14 0 2) := ⟨(show (2 : Int32) = (xup B 14 0 2) 14 0 from xs4.symm), h.thr 2⟩
      unfold f_X10_isPlaceOfWords
      by_cases d1 : a < 0
      · rw [if_pos d1, if_pos d1, if_pos rfl]
        exact bad
      · rw [if_neg d1, if_neg d1]
        by_cases d2 : (2048 - (2 * n)) < a
        · rw [if_pos d2, if_pos d2, if_pos rfl]
          exact bad
        · rw [if_neg d2, if_neg d2]
          obtain ⟨k, hk, rfl⟩ := i32_nn d1
          by_cases d3 : nI k &&& 1 = 0
          · rw [if_pos d3, if_pos ((par hk).mpr d3), if_neg (by decide)]
            have hn : n = nI 1 ∨ n = nI 2 ∨ n = nI 3 ∨ n = nI 4 := by
              have h1 : ¬ n.toInt < 1 := fun z => c1 (Int32.lt_iff_toInt_lt.mpr z)
              have h2 : n.toInt ≤ 4 := Int32.le_iff_toInt_le.mp c2
              have h3 : n.toInt = 1 ∨ n.toInt = 2 ∨ n.toInt = 3 ∨ n.toInt = 4 := by omega
              rcases h3 with h3 | h3 | h3 | h3
              · exact Or.inl (Int32.toInt_inj.mp h3)
              · exact Or.inr (Or.inl (Int32.toInt_inj.mp h3))
              · exact Or.inr (Or.inr (Or.inl (Int32.toInt_inj.mp h3)))
              · exact Or.inr (Or.inr (Or.inr (Int32.toInt_inj.mp h3)))
            have go : ∀ N, N < 5 → 1 ≤ N → n = nI N → ¬ (2048 - 2 * N) < k → (((nI N).toInt - (0 : Int32).toInt).toNat + 1 = N + 1) → (((2 * nI N).toInt - (0 : Int32).toInt).toNat + 1 = 2 * N + 1) → (f_X10_fill_37 (((nI N).toInt - (0 : Int32).toInt).toNat + 1) (nI k) (nI N) v 0 A).1 = (f_X11_fill_55 (((2 * nI N).toInt - (0 : Int32).toInt).toNat + 1) (nI k) (nI N) v 0 (xup B 14 0 0)) 14 0 ∧ RM (f_X10_fill_37 (((nI N).toInt - (0 : Int32).toInt).toNat + 1) (nI k) (nI N) v 0 A).2 (f_X11_fill_55 (((2 * nI N).toInt - (0 : Int32).toInt).toNat + 1) (nI k) (nI N) v 0 (xup B 14 0 0)) := by
              intro N hN h1 hn hkN e1 e2
              rw [e1, e2]
              obtain ⟨r1, r2, r3⟩ := fillL (k := k) (N := N) (v := v) hN (by omega) N 0 A (xup B 14 0 0) (by omega) (h.thr 0) xs4
              exact ⟨r1.trans r2.symm, r3⟩
            rcases hn with rfl | rfl | rfl | rfl
            · exact go 1 (by decide) (by decide) rfl (fun z => d2 ((nI_ltI (a := 2046) (b := k) (by decide) hk).mpr z)) (by decide) (by decide)
            · exact go 2 (by decide) (by decide) rfl (fun z => d2 ((nI_ltI (a := 2044) (b := k) (by decide) hk).mpr z)) (by decide) (by decide)
            · exact go 3 (by decide) (by decide) rfl (fun z => d2 ((nI_ltI (a := 2042) (b := k) (by decide) hk).mpr z)) (by decide) (by decide)
            · exact go 4 (by decide) (by decide) rfl (fun z => d2 ((nI_ltI (a := 2040) (b := k) (by decide) hk).mpr z)) (by decide) (by decide)
          · rw [if_neg d3, if_neg (fun x => d3 ((par hk).mp x)), if_pos rfl]
            exact bad
    · rw [if_neg c2, if_neg c2]
      exact ⟨(show (1 : Int32) = (xup B 14 0 1) 14 0 from xs4.symm), h.thr 1⟩
/-! what throws changes nothing -/
theorem z_put {a w : Int32} {M : St} (h : ¬ (f_X10_put a w M).1 = 0) : (f_X10_put a w M).2 = M := by
  unfold f_X10_put at h ⊢
  split at h
  · rename_i c
    rw [if_pos c]
  · exact absurd rfl h
theorem z_fence {a : Int32} {M : St} (h : ¬ (f_X10_fence a M).1 = 0) : (f_X10_fence a M).2 = M := by
  unfold f_X10_fence at h ⊢
  by_cases c1 : a < 0
  · rw [if_pos c1]
  · by_cases c2 : a ≤ 2048
    · rw [if_neg c1, if_pos c2] at h
      exact absurd rfl h
    · rw [if_neg c1, if_neg c2]
theorem z_level {a : Int32} {M : St} (h : ¬ (f_X10_level a M).1 = 0) : (f_X10_level a M).2 = M := by
  unfold f_X10_level at h ⊢
  by_cases c1 : a < 0
  · rw [if_pos c1]
  · by_cases c2 : a ≤ 7
    · rw [if_neg c1, if_pos c2] at h
      exact absurd rfl h
    · rw [if_neg c1, if_neg c2]
theorem z_get {a : Int32} {M : St} : (f_X10_get a M).2.2 = M := by
  unfold f_X10_get
  by_cases c1 : a < 0
  · rw [if_pos c1]
  · by_cases c2 : a < 19
    · rw [if_neg c1, if_pos c2]
    · rw [if_neg c1, if_neg c2]
theorem z_set {a w : Int32} {M : St} (h : ¬ (f_X10_set a w M).1 = 0) : (f_X10_set a w M).2 = M := by
  unfold f_X10_set at h ⊢
  by_cases c1 : a < 0
  · rw [if_pos c1]
  · by_cases c2 : a < 19
    · rw [if_neg c1, if_pos c2] at h
      by_cases c3 : a = 18
      · rw [if_pos c3] at h
        exact absurd rfl h
      · rw [if_neg c3] at h
        exact absurd rfl h
    · rw [if_neg c1, if_neg c2]
theorem z_device {a : Int32} {M : St} : (f_X10_device a M).2.2 = M := by
  unfold f_X10_device
  repeat' split
  all_goals rfl
theorem z_step {M : St} (h : ¬ (f_X10_step M).1 = 0) : (f_X10_step M).2.2 = M := by
  unfold f_X10_step at h ⊢
  by_cases c1 : M 8 7 = 0
  · rw [if_pos c1] at h
    exact absurd rfl h
  · rw [if_neg c1]
theorem z_runL {x1 : Int32} : ∀ (n : Nat) (x2 : Int32) (M : St), (f_X10_run_20 n x1 x2 M).1 = 0
  | 0, x2, M => rfl
  | n + 1, x2, M => by
    rw [runC_u]
    by_cases c : x1 ≤ x2
    · rw [if_pos c]
    · rw [if_neg c]
      by_cases c7 : M 8 7 = 0
      · rw [if_pos c7]
        exact z_runL n _ _
      · rw [if_neg c7]
theorem z_run {a : Int32} {M : St} (h : ¬ (f_X10_run a M).1 = 0) : (f_X10_run a M).2.2 = M := by
  unfold f_X10_run at h ⊢
  by_cases c1 : a < 0
  · rw [if_pos c1]
  · by_cases c2 : a ≤ 50
    · rw [if_neg c1, if_pos c2] at h
      exact absurd (z_runL _ _ _) h
    · rw [if_neg c1, if_neg c2]
theorem z_fillL {x1 x2 : Int32} {x3 : Int64} : ∀ (n : Nat) (x5 : Int32) (M : St), (f_X10_fill_37 n x1 x2 x3 x5 M).1 = 0
  | 0, x5, M => rfl
  | n + 1, x5, M => by
    rw [fillC_u]
    by_cases c : x2 ≤ x5
    · rw [if_pos c]
    · rw [if_neg c]
      exact z_fillL n _ _
theorem z_fill {a n : Int32} {v : Int64} {M : St} (h : ¬ (f_X10_fill a n v M).1 = 0) : (f_X10_fill a n v M).2 = M := by
  unfold f_X10_fill at h ⊢
  by_cases c1 : n < 1
  · rw [if_pos c1]
  · by_cases c2 : n ≤ 4
    · rw [if_neg c1, if_pos c2] at h ⊢
      by_cases c3 : f_X10_isPlaceOfWords a n = 0
      · rw [if_pos c3]
      · rw [if_neg c3] at h
        exact absurd (z_fillL _ _ _) h
    · rw [if_neg c1, if_neg c2]
