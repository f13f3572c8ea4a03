/-! the traps that operations leave -/
def TRP (M : St) : Prop := ∃ n : Nat, (n = 0 ∨ n = 5 ∨ n = 6 ∨ n = 7 ∨ (32 ≤ n ∧ n < 48)) ∧ M 12 6 = nI n
theorem TRP.z {M : St} (h : M 12 6 = 0) : TRP M := ⟨0, Or.inl rfl, h⟩
theorem X126 {M : St} : (xup (xup M 12 6 0) 12 7 0) 12 6 = 0 := by rw [xo4 rfl, xs4]
theorem tr_div {a : Int32} {A : St} : (f_X4_divide a A) 12 6 = 5 ∨ (f_X4_divide a A) 12 6 = A 12 6 := by
  unfold f_X4_divide
  simp only [xb_l]
  split
  · exact Or.inl xs4
  · refine Or.inr ?_
    split
    · split
      · rw [fr_X1_tested rfl, xo4 rfl]
      · rw [fr_X8_changeFlags rfl]
    · split
      · rw [fr_X1_tested rfl, xo4 rfl]
      · rw [fr_X8_changeFlags rfl]
theorem tr_chk {a : Int32} {A : St} : (f_X4_checkBounds a A) 12 6 = 6 ∨ (f_X4_checkBounds a A) 12 6 = A 12 6 := by
  unfold f_X4_checkBounds f_X4_checkBounds_26 f_X4_checkBounds_42
  simp only [xb_l]
  split
  · split
    · exact Or.inl xs4
    · exact Or.inl xs4
  · split
    · exact Or.inr rfl
    · split
      · exact Or.inl xs4
      · exact Or.inl xs4
theorem tr_0 (M : St) : TRP (f_X4_perform 0 M) := by
  rw [pf_0]
  simp only [xb_l]
  exact TRP.z (by rw [fr_X4_overwrite rfl, fr_X1_tested rfl, fr_X4_readSource rfl, X126])
theorem tr_1 (M : St) : TRP (f_X4_perform 1 M) := by
  rw [pf_1]
  exact TRP.z (by rw [fr_X4_perform_237 rfl, X126])
theorem tr_2 (M : St) : TRP (f_X4_perform 2 M) := by
  rw [pf_2]
  exact TRP.z (by rw [fr_X4_perform_237 rfl, X126])
theorem tr_3 (M : St) : TRP (f_X4_perform 3 M) := by
  rw [pf_3]
  exact TRP.z (by rw [fr_X4_perform_237 rfl, X126])
theorem tr_4 (M : St) : TRP (f_X4_perform 4 M) := by
  rw [pf_4]
  exact TRP.z (by rw [fr_X4_perform_237 rfl, X126])
theorem tr_5 (M : St) : TRP (f_X4_perform 5 M) := by
  rw [pf_5]
  exact TRP.z (by rw [fr_X4_perform_237 rfl, X126])
theorem tr_6 (M : St) : TRP (f_X4_perform 6 M) := by
  rw [pf_6]
  exact TRP.z (by rw [fr_X4_perform_237 rfl, X126])
theorem tr_7 (M : St) : TRP (f_X4_perform 7 M) := by
  rw [pf_7]
  simp only [xb_l]
  exact TRP.z (by rw [fr_X4_compare rfl, fr_X4_readSource rfl, X126])
theorem tr_8 (M : St) : TRP (f_X4_perform 8 M) := by
  rw [pf_8]
  exact TRP.z (by rw [fr_X4_perform_237 rfl, X126])
theorem tr_9 (M : St) : TRP (f_X4_perform 9 M) := by
  rw [pf_9]
  exact TRP.z (by rw [fr_X4_perform_237 rfl, X126])
theorem tr_10 (M : St) : TRP (f_X4_perform 10 M) := by
  rw [pf_10]
  exact TRP.z (by rw [fr_X4_perform_237 rfl, X126])
theorem tr_11 (M : St) : TRP (f_X4_perform 11 M) := by
  rw [pf_11]
  exact TRP.z (by rw [fr_X4_perform_260 rfl, X126])
theorem tr_12 (M : St) : TRP (f_X4_perform 12 M) := by
  rw [pf_12]
  exact TRP.z (by rw [fr_X4_perform_260 rfl, X126])
theorem tr_13 (M : St) : TRP (f_X4_perform 13 M) := by
  rw [pf_13]
  exact TRP.z (by rw [fr_X4_perform_260 rfl, X126])
theorem tr_14 (M : St) : TRP (f_X4_perform 14 M) := by
  rw [pf_14]
  simp only [xb_l]
  exact TRP.z (by rw [fr_X4_compareAddress rfl, fr_X4_readSource rfl, X126])
theorem tr_15 (M : St) : TRP (f_X4_perform 15 M) := by
  rw [pf_15]
  simp only [xb_l]
  exact TRP.z (by rw [fr_X4_exchange rfl, X126])
theorem tr_16 (M : St) : TRP (f_X4_perform 16 M) := by
  rw [pf_16]
  simp only [xb_l]
  exact TRP.z (by rw [fr_X4_multiply rfl, fr_X4_readSource rfl, X126])
theorem tr_17 (M : St) : TRP (f_X4_perform 17 M) := by
  rw [pf_17]
  simp only [xb_l]
  rcases tr_div with h | h
  · exact ⟨5, by decide, h⟩
  · exact TRP.z (by rw [h, fr_X4_readSource rfl, X126])
theorem tr_18 (M : St) : TRP (f_X4_perform 18 M) := by
  rw [pf_18]
  simp only [xb_l]
  rcases tr_chk with h | h
  · exact ⟨6, by decide, h⟩
  · exact TRP.z (by rw [h, fr_X4_readSource rfl, X126])
theorem tr_19 (M : St) : TRP (f_X4_perform 19 M) := by
  rw [pf_19]
  simp only [xb_l]
  exact TRP.z (by rw [fr_X4_changeQuick rfl, X126])
theorem tr_20 (M : St) : TRP (f_X4_perform 20 M) := by
  rw [pf_20]
  simp only [xb_l]
  exact TRP.z (by rw [fr_X4_changeQuick rfl, X126])
theorem tr_21 (M : St) : TRP (f_X4_perform 21 M) := by
  rw [pf_21]
  simp only [xb_l]
  exact TRP.z (by rw [fr_X4_moveQuick rfl, X126])
theorem tr_22 (M : St) : TRP (f_X4_perform 22 M) := by
  rw [pf_22]
  simp only [xb_l]
  exact TRP.z (by rw [fr_X4_changeBit rfl, X126])
theorem tr_23 (M : St) : TRP (f_X4_perform 23 M) := by
  rw [pf_23]
  simp only [xb_l]
  exact TRP.z (by rw [fr_X4_changeBit rfl, fr_X6_fetch rfl, X126])
theorem tr_24 (M : St) : TRP (f_X4_perform 24 M) := by
  rw [pf_24]
  simp only [xb_l]
  exact TRP.z (by rw [fr_X4_moveBytes rfl, X126])
theorem tr_25 (M : St) : TRP (f_X4_perform 25 M) := by
  rw [pf_25]
  simp only [xb_l]
  exact TRP.z (by rw [fr_X8_changeFlags rfl, fr_X4_statusJoined rfl, X126])
theorem tr_26 (M : St) : TRP (f_X4_perform 26 M) := by
  rw [pf_26]
  simp only [xb_l]
  exact TRP.z (by rw [fr_X8_changeStatus rfl, fr_X4_statusJoined rfl, X126])
theorem tr_27 (M : St) : TRP (f_X4_perform 27 M) := by
  rw [pf_27]
  simp only [xb_l]
  exact TRP.z (by rw [fr_X4_shiftRegister rfl, X126])
theorem tr_28 (M : St) : TRP (f_X4_perform 28 M) := by
  rw [pf_28]
  simp only [xb_l]
  exact TRP.z (by rw [fr_X4_shiftMemory rfl, X126])
theorem tr_29 (M : St) : TRP (f_X4_perform 29 M) := by
  rw [pfx_29]
  exact TRP.z (by rw [fr_X4_negate rfl, X126])
theorem tr_30 (M : St) : TRP (f_X4_perform 30 M) := by
  rw [pfx_30]
  exact TRP.z (by rw [fr_X4_negate rfl, X126])
theorem tr_31 (M : St) : TRP (f_X4_perform 31 M) := by
  rw [pfx_31]
  exact TRP.z (by rw [fr_X4_negate rfl, X126])
theorem tr_32 (M : St) : TRP (f_X4_perform 32 M) := by
  rw [pf_32]
  simp only [xb_l]
  exact TRP.z (by rw [fr_X4_overwrite rfl, fr_X1_tested rfl, X126])
theorem tr_33 (M : St) : TRP (f_X4_perform 33 M) := by
  rw [pf_33]
  simp only [xb_l]
  exact TRP.z (by rw [fr_X4_turn rfl, X126])
theorem tr_34 (M : St) : TRP (f_X4_perform 34 M) := by
  rw [pf_34]
  simp only [xb_l]
  exact TRP.z (by rw [fr_X1_tested rfl, fr_X4_readSource rfl, X126])
theorem tr_35 (M : St) : TRP (f_X4_perform 35 M) := by
  rw [pf_35]
  simp only [xb_l]
  exact TRP.z (by rw [fr_X4_testAndSet rfl, X126])
theorem tr_36 (M : St) : TRP (f_X4_perform 36 M) := by
  rw [pf_36]
  simp only [xb_l]
  split
  · exact TRP.z (by rw [fr_X4_perform_516 rfl, X126])
  · exact TRP.z (by rw [fr_X4_perform_516 rfl, X126])
theorem tr_37 (M : St) : TRP (f_X4_perform 37 M) := by
  rw [pf_37]
  simp only [xb_l]
  exact TRP.z (by rw [fr_X4_overwrite rfl, X126])
theorem tr_38 (M : St) : TRP (f_X4_perform 38 M) := by
  rw [pf_38]
  simp only [xb_l]
  exact TRP.z (by rw [fr_X8_changeFlags rfl, fr_X4_readSource rfl, X126])
theorem tr_39 (M : St) : TRP (f_X4_perform 39 M) := by
  rw [pf_39]
  simp only [xb_l]
  exact TRP.z (by rw [fr_X8_changeStatus rfl, fr_X4_readSource rfl, X126])
theorem tr_40 (M : St) : TRP (f_X4_perform 40 M) := by
  rw [pf_40]
  simp only [xb_l]
  exact TRP.z (by rw [fr_X4_swap rfl, X126])
theorem tr_41 (M : St) : TRP (f_X4_perform 41 M) := by
  rw [pf_41]
  simp only [xb_l]
  exact TRP.z (by rw [fr_X4_extend rfl, X126])
theorem tr_42 (M : St) : TRP (f_X4_perform 42 M) := by
  rw [pf_42]
  simp only [xb_l]
  exact TRP.z (by rw [fr_X4_storeMany rfl, X126])
theorem tr_43 (M : St) : TRP (f_X4_perform 43 M) := by
  rw [pf_43]
  simp only [xb_l]
  exact TRP.z (by rw [fr_X4_loadMany rfl, X126])
theorem tr_44 (M : St) : TRP (f_X4_perform 44 M) := by
  rw [pf_44]
  simp only [xb_l]
  exact TRP.z (by rw [xup_other (show (12 : Nat) ≠ 2 by decide), fr_X4_address rfl, X126])
theorem tr_45 (M : St) : TRP (f_X4_perform 45 M) := by
  rw [pf_45]
  simp only [xb_l]
  exact TRP.z (by rw [fr_X6_push rfl, fr_X4_address rfl, X126])
theorem tr_46 (M : St) : TRP (f_X4_perform 46 M) := by
  rw [pf_46]
  simp only [xb_l]
  exact TRP.z (by rw [fr_X4_call rfl, fr_X4_address rfl, X126])
theorem tr_47 (M : St) : TRP (f_X4_perform 47 M) := by
  rw [pf_47]
  simp only [xb_l]
  exact TRP.z (by rw [xup_other (show (12 : Nat) ≠ 2 by decide), fr_X4_address rfl, X126])
theorem tr_48 (M : St) : TRP (f_X4_perform 48 M) := by
  rw [pf_48]
  simp only [xb_l]
  exact TRP.z (by rw [fr_X4_branch rfl, X126])
theorem tr_49 (M : St) : TRP (f_X4_perform 49 M) := by
  rw [pf_49]
  simp only [xb_l]
  exact TRP.z (by rw [fr_X4_countDown rfl, X126])
theorem tr_50 (M : St) : TRP (f_X4_perform 50 M) := by
  rw [pf_50]
  simp only [xb_l]
  exact TRP.z (by rw [xup_other (show (12 : Nat) ≠ 2 by decide), fr_X6_pull rfl, X126])
theorem tr_51 (M : St) : TRP (f_X4_perform 51 M) := by
  rw [pf_51]
  simp only [xb_l]
  exact TRP.z (by rw [fr_X4_returnWithFlags rfl, X126])
theorem tr_52 (M : St) : TRP (f_X4_perform 52 M) := by
  rw [pf_52]
  simp only [xb_l]
  exact TRP.z (by rw [fr_X4_returnFromException rfl, X126])
theorem tr_53 (M : St) : TRP (f_X4_perform 53 M) := by
  rw [pf_53]
  have e : ∀ x : Int32, ∃ n : Nat, n < 16 ∧ x &&& 15 = nI n := fun x => ⟨x.toBitVec.toNat % 16, by omega, by
    apply Int32.toBitVec_inj.mp
    apply BitVec.eq_of_toNat_eq
    rw [Int32.toBitVec_and, BitVec.toNat_and, pk_tn (by omega)]
    exact Nat.and_two_pow_sub_one_eq_mod _ 4⟩
  obtain ⟨n, hn, e⟩ := e ((xup (xup M 12 6 0) 12 7 0) 11 0)
  exact ⟨32 + n, by omega, by rw [xs4, e]; exact nI_add 32 n⟩
theorem tr_54 (M : St) : TRP (f_X4_perform 54 M) := by
  rw [pf_54]
  unfold f_X4_performRest_225
  split
  · exact TRP.z xs4
  · exact ⟨7, by decide, xs4⟩
theorem tr_55 (M : St) : TRP (f_X4_perform 55 M) := by
  rw [pf_55]
  simp only [xb_l]
  exact TRP.z (by rw [fr_X4_link rfl, X126])
theorem tr_56 (M : St) : TRP (f_X4_perform 56 M) := by
  rw [pf_56]
  simp only [xb_l]
  exact TRP.z (by rw [fr_X4_unlink rfl, X126])
theorem tr_57 (M : St) : TRP (f_X4_perform 57 M) := by
  rw [pf_57]
  exact TRP.z (by rw [xup_other (show (12 : Nat) ≠ 2 by decide), X126])
theorem tr_58 (M : St) : TRP (f_X4_perform 58 M) := by
  rw [pf_58]
  exact TRP.z (by rw [xup_other (show (12 : Nat) ≠ 2 by decide), X126])
theorem tr_59 (M : St) : TRP (f_X4_perform 59 M) := by
  rw [pf_59]
  simp only [xb_l]
  exact TRP.z (by rw [fr_X2_quietTimer rfl, X126])
theorem tr_60 (M : St) : TRP (f_X4_perform 60 M) := by
  rw [pf_60]
  exact TRP.z (by rw [X126])
theorem tr_61 (M : St) : TRP (f_X4_perform 61 M) := by
  rw [pf_61]
  unfold f_X4_stop
  simp only [xb_l]
  exact TRP.z (by rw [xo4 rfl, fr_X8_changeStatus rfl, fr_X6_fetch rfl, X126])
theorem tr_all (M : St) : ∀ k : Nat, k < 62 → TRP (f_X4_perform k M)
  | 0, _ => tr_0 M
  | 1, _ => tr_1 M
  | 2, _ => tr_2 M
  | 3, _ => tr_3 M
  | 4, _ => tr_4 M
  | 5, _ => tr_5 M
  | 6, _ => tr_6 M
  | 7, _ => tr_7 M
  | 8, _ => tr_8 M
  | 9, _ => tr_9 M
  | 10, _ => tr_10 M
  | 11, _ => tr_11 M
  | 12, _ => tr_12 M
  | 13, _ => tr_13 M
  | 14, _ => tr_14 M
  | 15, _ => tr_15 M
  | 16, _ => tr_16 M
  | 17, _ => tr_17 M
  | 18, _ => tr_18 M
  | 19, _ => tr_19 M
  | 20, _ => tr_20 M
  | 21, _ => tr_21 M
  | 22, _ => tr_22 M
  | 23, _ => tr_23 M
  | 24, _ => tr_24 M
  | 25, _ => tr_25 M
  | 26, _ => tr_26 M
  | 27, _ => tr_27 M
  | 28, _ => tr_28 M
  | 29, _ => tr_29 M
  | 30, _ => tr_30 M
  | 31, _ => tr_31 M
  | 32, _ => tr_32 M
  | 33, _ => tr_33 M
  | 34, _ => tr_34 M
  | 35, _ => tr_35 M
  | 36, _ => tr_36 M
  | 37, _ => tr_37 M
  | 38, _ => tr_38 M
  | 39, _ => tr_39 M
  | 40, _ => tr_40 M
  | 41, _ => tr_41 M
  | 42, _ => tr_42 M
  | 43, _ => tr_43 M
  | 44, _ => tr_44 M
  | 45, _ => tr_45 M
  | 46, _ => tr_46 M
  | 47, _ => tr_47 M
  | 48, _ => tr_48 M
  | 49, _ => tr_49 M
  | 50, _ => tr_50 M
  | 51, _ => tr_51 M
  | 52, _ => tr_52 M
  | 53, _ => tr_53 M
  | 54, _ => tr_54 M
  | 55, _ => tr_55 M
  | 56, _ => tr_56 M
  | 57, _ => tr_57 M
  | 58, _ => tr_58 M
  | 59, _ => tr_59 M
  | 60, _ => tr_60 M
  | 61, _ => tr_61 M
  | k + 62, h => absurd h (by omega)
