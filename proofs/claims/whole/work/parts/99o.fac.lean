/-! the face: what throws nothing -/
theorem i32_nn {a : Int32} (h : ¬ a < 0) : ∃ k : Nat, k < 2 ^ 31 ∧ a = nI k := by
  have h0 : 0 ≤ a.toInt := by
    have := Int32.not_lt.mp h
    rw [Int32.le_iff_toInt_le] at this
    exact this
  have h1 : a.toInt < 2 ^ 31 := Int32.toInt_lt a
  refine ⟨a.toInt.toNat, by omega, ?_⟩
  apply Int32.toInt_inj.mp
  rw [nI_toInt (by omega)]
  omega
theorem and255 (x : Int32) : xrg 0 255 (x &&& 255) := by
  have e2 : (x &&& 255) = nI (x.toBitVec.toNat % 256) := by
    apply Int32.toBitVec_inj.mp
    apply BitVec.eq_of_toNat_eq
    rw [Int32.toBitVec_and, BitVec.toNat_and, pk_tn (by omega)]
    exact Nat.and_two_pow_sub_one_eq_mod _ 8
  rw [e2]
  exact xrg_nI (by omega) (by omega)
theorem saidR {A B : St} {a : Int32} (h : RM A B) : f_X10_said a A = (f_X11_said a B).1 ∧ RM A (f_X11_said a B).2 := by
  have s := h.1.sai
  have sr := h.1.sar
  obtain ⟨s1, s2⟩ := s
  rw [xo4 rfl, xo4 rfl] at s1
  rw [xo4 rfl] at sr
  obtain ⟨c, hc, ec⟩ := xrg_nat (n := 65) sr (by decide) (by decide)
  have s3 : ∀ i, i < c → A 7 i = B 20 i := fun i hi => by
    have := s2 c (by rw [xo4 rfl]; exact ec) (by omega) i hi
    rwa [xo4 rfl, xo4 rfl] at this
  unfold f_X10_said f_X11_said
  rw [← s1, ec]
  by_cases c1 : a < 0
  · rw [if_pos c1, if_pos c1]
    exact ⟨rfl, h.thr 0⟩
  · rw [if_neg c1, if_neg c1]
    obtain ⟨k, hk, rfl⟩ := i32_nn c1
    by_cases c2 : c ≤ k
    · rw [if_pos ((nI_leI (by omega) hk).mpr c2), if_neg (fun e => by have := (nI_ltI (a := k) (b := c) hk (by omega)).mp e; omega)]
      exact ⟨rfl, h.thr 0⟩
    · rw [if_neg (fun e => c2 ((nI_leI (by omega) hk).mp e)), if_pos ((nI_ltI hk (by omega)).mpr (by omega)), nI_clamp hk, s3 k (by omega)]
      exact ⟨rfl, h.thr 0⟩
theorem memoryR {A B : St} {a : Int32} (h : RM A B) : f_X10_memory a A = (f_X11_memory a B).1 ∧ RM A (f_X11_memory a B).2 := by
  have m : ∀ j, j < 2048 → A 5 j = B 18 j := fun j hj => by
    have := h.1.mem j hj
    rwa [xo4 rfl, xo4 rfl] at this
  unfold f_X10_memory f_X11_memory
  by_cases c1 : a < 0
  · rw [if_pos c1, if_pos c1]
    exact ⟨rfl, h.thr 0⟩
  · rw [if_neg c1, if_neg c1]
    obtain ⟨k, hk, rfl⟩ := i32_nn c1
    have l1 : ((2048 : Int32) ≤ nI k) ↔ 2048 ≤ k := nI_leI (a := 2048) (b := k) (by decide) hk
    have l2 : (nI k ≤ 2047) ↔ k ≤ 2047 := nI_leI (a := k) (b := 2047) hk (by decide)
    by_cases c2 : 2048 ≤ k
    · rw [if_pos (l1.mpr c2), if_neg (fun e => by have := l2.mp e; omega)]
      exact ⟨rfl, h.thr 0⟩
    · rw [if_neg (fun e => c2 (l1.mp e)), if_pos (l2.mpr (by omega)), nI_clamp hk, m k (by omega)]
      exact ⟨rfl, h.thr 0⟩
theorem stateR {A B : St} (h : RM A B) : f_X10_state A = (f_X11_state B).1 ∧ RM A (f_X11_state B).2 := by
  have h7 := h.2.2.2.1
  have h8 := h.2.2.2.2.2.1
  unfold f_X10_state f_X11_state
  rw [h7, h8]
  split
  · split
    · exact ⟨rfl, h.thr 0⟩
    · exact ⟨rfl, h.thr 0⟩
  · exact ⟨rfl, h.thr 0⟩
theorem countedR {A B : St} {a : Int32} (h : RM A B) : f_X10_counted a A = (f_X11_counted a B).1 ∧ RM A (f_X11_counted a B).2 := by
  have hc := h.2.2.1
  unfold f_X10_counted f_X11_counted
  by_cases c1 : a < 0
  · rw [if_pos c1, if_pos c1]
    exact ⟨rfl, h.thr 0⟩
  · rw [if_neg c1, if_neg c1]
    obtain ⟨k, hk, rfl⟩ := i32_nn c1
    have l1 : ((48 : Int32) ≤ nI k) ↔ 48 ≤ k := nI_leI (a := 48) (b := k) (by decide) hk
    have l2 : (nI k ≤ 63) ↔ k ≤ 63 := nI_leI (a := k) (b := 63) hk (by decide)
    rw [nI_clamp hk]
    by_cases c2 : 48 ≤ k
    · rw [if_pos (l1.mpr c2)]
      by_cases c3 : k ≤ 63
      · rw [if_pos (l2.mpr c3), hc.2 k c2 (by omega)]
        exact ⟨rfl, h.thr 0⟩
      · rw [if_neg (fun e => c3 (l2.mp e))]
        exact ⟨rfl, h.thr 0⟩
    · rw [if_neg (fun e => c2 (l1.mp e)), if_pos (l2.mpr (by omega)), hc.1 k (by omega)]
      exact ⟨rfl, h.thr 0⟩
theorem typeR {A B : St} {a : Int32} (h : RM A B) : (f_X10_type a A).1 = (f_X11_type a B).1 ∧ RM (f_X10_type a A).2 (f_X11_type a B).2 := by
  obtain ⟨f, c, hf, hc, ef, ec⟩ := h.1.qnat
  have q1 := h.1.que.1
  rw [xo4 rfl, xo4 rfl] at q1
  rw [xo4 rfl] at ef ec
  unfold f_X10_type f_X2_enqueue f_X11_type
  rw [xb_l, ← q1, ec]
  by_cases c16 : c = 16
  · rw [if_neg (fun e => by have := (nI_ltI (a := c) (b := 16) (by omega) (by decide)).mp e; omega), if_pos (show nI c = 16 by rw [c16]; rfl)]
    exact ⟨rfl, h.thr 0⟩
  · rw [if_pos (show nI c < 16 from (nI_ltI (a := c) (b := 16) (by omega) (by decide)).mpr (by omega)), if_neg (nq_16 (n := c) c16 (by omega)), ef, nI_add, show (16 : Int32) = nI 16 from rfl, pk_rem (by omega) (by decide) (by decide), nI_clamp (show (f + c) % 16 < 2 ^ 31 by omega), nI_clamp (show c < 2 ^ 31 by omega)]
    refine ⟨rfl, ?_⟩
    have hh := h.thr 0
    obtain ⟨h1, h2, h3, h4, h5, h6, h7, h8, h9, h10⟩ := hh
    have rb := h1.s_que (f := f) (c := c) (v := a &&& 255) (by rw [xo4 rfl]; exact ef) (by rw [xo4 rfl]; exact ec) hf (by omega) (and255 a)
    rw [xo4 rfl, xo4 rfl, xo4 rfl, ec, ← q1, ec] at rb
    refine ⟨?_, h2.cg ?_ (fun j => ?_) ?_, h3.cg (fun j => ?_) (fun j => ?_), ?_, fun x => ?_, ?_, ?_, ?_, ?_, ?_⟩
    · dsimp only
      rw [xup_comm (show ¬ (4 = 4 ∧ 4 = 10) by decide), xup_comm (show ¬ (6 = 4 ∧ (f + c) % 16 = 10) by omega), xup_comm (show ¬ (14 = 14 ∧ 12 = 20) by decide), xup_comm (show ¬ (19 = 14 ∧ c = 20) by omega)]
      exact rb
    · dsimp only; rw [xup_other (by decide), xup_other (by decide)]
    · dsimp only; rw [xo4 rfl, xup_o2 (Or.inl (by decide))]
    · dsimp only; rw [xo4 rfl, xup_o2 (Or.inl (by decide))]
    · dsimp only; rw [xo4 rfl, xup_o2 (Or.inl (by decide))]
    · dsimp only; rw [xo4 rfl, xup_o2 (Or.inl (by decide))]
    · dsimp only; rw [xo4 rfl, xup_o2 (Or.inl (by decide)), xo4 rfl, xup_o2 (Or.inl (by decide))]; exact h4
    · dsimp only at x ⊢; rw [xo4 rfl, xup_o2 (Or.inl (by decide))] at x ⊢; exact h5 x
    · dsimp only; rw [xo4 rfl, xup_o2 (Or.inl (by decide)), xo4 rfl, xup_o2 (Or.inl (by decide))]; exact h6
    · dsimp only; rw [xo4 rfl, xup_o2 (Or.inl (by decide)), xo4 rfl, xup_o2 (Or.inl (by decide))]; exact h7
    · dsimp only; rw [xo4 rfl, xup_o2 (Or.inl (by decide)), xo4 rfl, xup_o2 (Or.inl (by decide))]; exact h8
    · dsimp only; rw [xo4 rfl, xup_o2 (Or.inl (by decide))]; exact h9
    · dsimp only; rw [xo4 rfl, xup_o2 (Or.inl (by decide)), xo4 rfl, xup_o2 (Or.inl (by decide))]; exact h10
