/-! group 3: the choices -/
theorem pfx_29 (M : St) : f_X4_perform 29 M = f_X4_negate 4 (xup (xup M 12 6 0) 12 7 0) := by rw [pf_29, xb_l]
theorem pfx_30 (M : St) : f_X4_perform 30 M = f_X4_negate 5 (xup (xup M 12 6 0) 12 7 0) := by rw [pf_30, xb_l]
theorem pfx_31 (M : St) : f_X4_perform 31 M = f_X4_negate 6 (xup (xup M 12 6 0) 12 7 0) := by rw [pf_31, xb_l]
theorem pfx_33 (M : St) : f_X4_perform 33 M = f_X4_turn  (xup (xup M 12 6 0) 12 7 0) := by rw [pf_33, xb_l]
theorem pfx_35 (M : St) : f_X4_perform 35 M = f_X4_testAndSet  (xup (xup M 12 6 0) 12 7 0) := by rw [pf_35, xb_l]
theorem pfx_37 (M : St) : f_X4_perform 37 M = f_X4_overwrite (M 2 18) (xup (xup M 12 6 0) 12 7 0) := by rw [pf_37, xb_l]
theorem pfx_40 (M : St) : f_X4_perform 40 M = f_X4_swap  (xup (xup M 12 6 0) 12 7 0) := by rw [pf_40, xb_l]
theorem pfx_41 (M : St) : f_X4_perform 41 M = f_X4_extend  (xup (xup M 12 6 0) 12 7 0) := by rw [pf_41, xb_l]
theorem pfx_42 (M : St) : f_X4_perform 42 M = f_X4_storeMany  (xup (xup M 12 6 0) 12 7 0) := by rw [pf_42, xb_l]
theorem pfx_43 (M : St) : f_X4_perform 43 M = f_X4_loadMany  (xup (xup M 12 6 0) 12 7 0) := by rw [pf_43, xb_l]
theorem pfx_51 (M : St) : f_X4_perform 51 M = f_X4_returnWithFlags  (xup (xup M 12 6 0) 12 7 0) := by rw [pf_51, xb_l]
theorem pfx_52 (M : St) : f_X4_perform 52 M = f_X4_returnFromException  (xup (xup M 12 6 0) 12 7 0) := by rw [pf_52, xb_l]
theorem pfx_55 (M : St) : f_X4_perform 55 M = f_X4_link  (xup (xup M 12 6 0) 12 7 0) := by rw [pf_55, xb_l]
theorem pfx_56 (M : St) : f_X4_perform 56 M = f_X4_unlink  (xup (xup M 12 6 0) 12 7 0) := by rw [pf_56, xb_l]
theorem pfx_59 (M : St) : f_X4_perform 59 M = f_X2_quietTimer  (xup (xup M 12 6 0) 12 7 0) := by rw [pf_59, xb_l]
theorem pfx_61 (M : St) : f_X4_perform 61 M = f_X4_stop  (xup (xup M 12 6 0) 12 7 0) := by rw [pf_61, xb_l]
theorem ll_20 {e : Int32} : f_X11_isLegalThree (nI 20) e = (if (e >>> ((3 : Int32) &&& 31)) = 0 then 1 else (if (f_X11_fits e 2 4) = 0 then 0 else 1)) := by
  unfold f_X11_isLegalThree f_X11_isLegalThree_27
  rw [if_pos (show (19 : Int32) ≤ nI 20 by decide), if_neg (show ¬ nI 20 = 3 by decide), if_neg (show ¬ nI 20 = 4 by decide), if_neg (show ¬ nI 20 = 5 by decide), if_neg (show ¬ nI 20 = 6 by decide), if_neg (show ¬ nI 20 = 7 by decide), if_neg (show ¬ nI 20 = 8 by decide), if_neg (show ¬ nI 20 = 9 by decide), if_neg (show ¬ nI 20 = 10 by decide), if_neg (show ¬ nI 20 = 11 by decide), if_neg (show ¬ nI 20 = 12 by decide), if_neg (show ¬ nI 20 = 13 by decide), if_neg (show ¬ nI 20 = 14 by decide), if_neg (show ¬ nI 20 = 15 by decide), if_neg (show ¬ nI 20 = 16 by decide), if_neg (show ¬ nI 20 = 17 by decide), if_neg (show ¬ nI 20 = 18 by decide), if_neg (show ¬ nI 20 = 19 by decide), if_pos (show nI 20 = 20 from rfl)]
theorem ll_21 {e : Int32} : f_X11_isLegalThree (nI 21) e = (if (e >>> ((3 : Int32) &&& 31)) = 0 then 1 else (if (e >>> ((3 : Int32) &&& 31)) = 4 then 1 else (if (f_X11_fits e 1 12) = 0 then 0 else 1))) := by
  unfold f_X11_isLegalThree f_X11_isLegalThree_27
  rw [if_pos (show (19 : Int32) ≤ nI 21 by decide), if_neg (show ¬ nI 21 = 3 by decide), if_neg (show ¬ nI 21 = 4 by decide), if_neg (show ¬ nI 21 = 5 by decide), if_neg (show ¬ nI 21 = 6 by decide), if_neg (show ¬ nI 21 = 7 by decide), if_neg (show ¬ nI 21 = 8 by decide), if_neg (show ¬ nI 21 = 9 by decide), if_neg (show ¬ nI 21 = 10 by decide), if_neg (show ¬ nI 21 = 11 by decide), if_neg (show ¬ nI 21 = 12 by decide), if_neg (show ¬ nI 21 = 13 by decide), if_neg (show ¬ nI 21 = 14 by decide), if_neg (show ¬ nI 21 = 15 by decide), if_neg (show ¬ nI 21 = 16 by decide), if_neg (show ¬ nI 21 = 17 by decide), if_neg (show ¬ nI 21 = 18 by decide), if_neg (show ¬ nI 21 = 19 by decide), if_neg (show ¬ nI 21 = 20 by decide), if_pos (show nI 21 = 21 from rfl)]
  rfl
theorem ll_22 {e : Int32} : f_X11_isLegalThree (nI 22) e = (if (e >>> ((3 : Int32) &&& 31)) = 0 then 1 else (if (e >>> ((3 : Int32) &&& 31)) = 4 then 1 else (if (f_X11_fits e 1 12) = 0 then 0 else 1))) := by
  unfold f_X11_isLegalThree f_X11_isLegalThree_27
  rw [if_pos (show (19 : Int32) ≤ nI 22 by decide), if_neg (show ¬ nI 22 = 3 by decide), if_neg (show ¬ nI 22 = 4 by decide), if_neg (show ¬ nI 22 = 5 by decide), if_neg (show ¬ nI 22 = 6 by decide), if_neg (show ¬ nI 22 = 7 by decide), if_neg (show ¬ nI 22 = 8 by decide), if_neg (show ¬ nI 22 = 9 by decide), if_neg (show ¬ nI 22 = 10 by decide), if_neg (show ¬ nI 22 = 11 by decide), if_neg (show ¬ nI 22 = 12 by decide), if_neg (show ¬ nI 22 = 13 by decide), if_neg (show ¬ nI 22 = 14 by decide), if_neg (show ¬ nI 22 = 15 by decide), if_neg (show ¬ nI 22 = 16 by decide), if_neg (show ¬ nI 22 = 17 by decide), if_neg (show ¬ nI 22 = 18 by decide), if_neg (show ¬ nI 22 = 19 by decide), if_neg (show ¬ nI 22 = 20 by decide), if_neg (show ¬ nI 22 = 21 by decide), if_pos (show nI 22 = 22 from rfl)]
  rfl
theorem ll_24 {e : Int32} : f_X11_isLegalThree (nI 24) e = (if (e >>> ((3 : Int32) &&& 31)) = 3 then 1 else (if (f_X11_fits e 1 4) = 0 then 0 else 1)) := by
  unfold f_X11_isLegalThree f_X11_isLegalThree_27
  rw [if_pos (show (19 : Int32) ≤ nI 24 by decide), if_neg (show ¬ nI 24 = 3 by decide), if_neg (show ¬ nI 24 = 4 by decide), if_neg (show ¬ nI 24 = 5 by decide), if_neg (show ¬ nI 24 = 6 by decide), if_neg (show ¬ nI 24 = 7 by decide), if_neg (show ¬ nI 24 = 8 by decide), if_neg (show ¬ nI 24 = 9 by decide), if_neg (show ¬ nI 24 = 10 by decide), if_neg (show ¬ nI 24 = 11 by decide), if_neg (show ¬ nI 24 = 12 by decide), if_neg (show ¬ nI 24 = 13 by decide), if_neg (show ¬ nI 24 = 14 by decide), if_neg (show ¬ nI 24 = 15 by decide), if_neg (show ¬ nI 24 = 16 by decide), if_neg (show ¬ nI 24 = 17 by decide), if_neg (show ¬ nI 24 = 18 by decide), if_neg (show ¬ nI 24 = 19 by decide), if_neg (show ¬ nI 24 = 20 by decide), if_neg (show ¬ nI 24 = 21 by decide), if_neg (show ¬ nI 24 = 22 by decide), if_neg (show ¬ nI 24 = 23 by decide), if_pos (show nI 24 = 24 from rfl)]
  rfl
theorem ll_25 {e : Int32} : f_X11_isLegalThree (nI 25) e = (if (e >>> ((3 : Int32) &&& 31)) = 3 then 1 else (if (f_X11_fits e 1 4) = 0 then 0 else 1)) := by
  unfold f_X11_isLegalThree f_X11_isLegalThree_27
  rw [if_pos (show (19 : Int32) ≤ nI 25 by decide), if_neg (show ¬ nI 25 = 3 by decide), if_neg (show ¬ nI 25 = 4 by decide), if_neg (show ¬ nI 25 = 5 by decide), if_neg (show ¬ nI 25 = 6 by decide), if_neg (show ¬ nI 25 = 7 by decide), if_neg (show ¬ nI 25 = 8 by decide), if_neg (show ¬ nI 25 = 9 by decide), if_neg (show ¬ nI 25 = 10 by decide), if_neg (show ¬ nI 25 = 11 by decide), if_neg (show ¬ nI 25 = 12 by decide), if_neg (show ¬ nI 25 = 13 by decide), if_neg (show ¬ nI 25 = 14 by decide), if_neg (show ¬ nI 25 = 15 by decide), if_neg (show ¬ nI 25 = 16 by decide), if_neg (show ¬ nI 25 = 17 by decide), if_neg (show ¬ nI 25 = 18 by decide), if_neg (show ¬ nI 25 = 19 by decide), if_neg (show ¬ nI 25 = 20 by decide), if_neg (show ¬ nI 25 = 21 by decide), if_neg (show ¬ nI 25 = 22 by decide), if_neg (show ¬ nI 25 = 23 by decide), if_neg (show ¬ nI 25 = 24 by decide), if_pos (show nI 25 = 25 from rfl)]
  rfl
theorem dd_0 {N : St} (hcc : (ius (N 11 0) 6) &&& 63 = nI 0) : f_X3_ofGroupThree N = f_X3_pair 30 (f_X3_operand N) (f_X3_operand N) 0 (f_X9_isOpenData (f_X3_operand N)) N := by
  unfold f_X3_ofGroupThree
  rw [hcc, if_pos (show nI 0 = 0 from rfl)]
  simp only [f_X3_ofGroupThree_152, f_X3_single, xb_eta]
  rfl
theorem ll_0 {e : Int32} : f_X11_isLegalThree (nI 0) e = f_X11_fits e 0 9 := by
  unfold f_X11_isLegalThree
  rw [if_neg (show ¬ (19 : Int32) ≤ nI 0 by decide), if_neg (show ¬ (3 : Int32) ≤ nI 0 &&& 3 by decide), show nI 0 &&& 3 = 0 by decide]
theorem tt_0 {e : Int32} {B : St} : f_X11_three (nI 0) e B = f_X11_one 0 0 e B := by
  unfold f_X11_three
  rw [if_neg (show ¬ (19 : Int32) ≤ nI 0 by decide), if_neg (show ¬ (3 : Int32) ≤ nI 0 &&& 3 by decide), show nI 0 &&& 3 = 0 by decide, show (nI 0) >>> ((2 : Int32) &&& 31) = 0 by decide, xb_l]
theorem dd_1 {N : St} (hcc : (ius (N 11 0) 6) &&& 63 = nI 1) : f_X3_ofGroupThree N = f_X3_pair 30 (f_X3_operand N) (f_X3_operand N) 1 (f_X9_isOpenData (f_X3_operand N)) N := by
  unfold f_X3_ofGroupThree
  rw [hcc, if_neg (show ¬ nI 1 = 0 by decide), if_pos (show nI 1 = 1 from rfl)]
  simp only [f_X3_ofGroupThree_152, f_X3_single, xb_eta]
  rw [show nI 1 = 1 from rfl]
theorem ll_1 {e : Int32} : f_X11_isLegalThree (nI 1) e = f_X11_fits e 1 9 := by
  unfold f_X11_isLegalThree
  rw [if_neg (show ¬ (19 : Int32) ≤ nI 1 by decide), if_neg (show ¬ (3 : Int32) ≤ nI 1 &&& 3 by decide), show nI 1 &&& 3 = 1 by decide]
theorem tt_1 {e : Int32} {B : St} : f_X11_three (nI 1) e B = f_X11_one 0 1 e B := by
  unfold f_X11_three
  rw [if_neg (show ¬ (19 : Int32) ≤ nI 1 by decide), if_neg (show ¬ (3 : Int32) ≤ nI 1 &&& 3 by decide), show nI 1 &&& 3 = 1 by decide, show (nI 1) >>> ((2 : Int32) &&& 31) = 0 by decide, xb_l]
theorem dd_2 {N : St} (hcc : (ius (N 11 0) 6) &&& 63 = nI 2) : f_X3_ofGroupThree N = f_X3_pair 30 (f_X3_operand N) (f_X3_operand N) 2 (f_X9_isOpenData (f_X3_operand N)) N := by
  unfold f_X3_ofGroupThree
  rw [hcc, if_neg (show ¬ nI 2 = 0 by decide), if_neg (show ¬ nI 2 = 1 by decide), if_pos (show nI 2 = 2 from rfl)]
  simp only [f_X3_ofGroupThree_152, f_X3_single, xb_eta]
  rw [show nI 2 = 2 from rfl]
theorem ll_2 {e : Int32} : f_X11_isLegalThree (nI 2) e = f_X11_fits e 2 9 := by
  unfold f_X11_isLegalThree
  rw [if_neg (show ¬ (19 : Int32) ≤ nI 2 by decide), if_neg (show ¬ (3 : Int32) ≤ nI 2 &&& 3 by decide), show nI 2 &&& 3 = 2 by decide]
theorem tt_2 {e : Int32} {B : St} : f_X11_three (nI 2) e B = f_X11_one 0 2 e B := by
  unfold f_X11_three
  rw [if_neg (show ¬ (19 : Int32) ≤ nI 2 by decide), if_neg (show ¬ (3 : Int32) ≤ nI 2 &&& 3 by decide), show nI 2 &&& 3 = 2 by decide, show (nI 2) >>> ((2 : Int32) &&& 31) = 0 by decide, xb_l]
theorem dd_4 {N : St} (hcc : (ius (N 11 0) 6) &&& 63 = nI 4) : f_X3_ofGroupThree N = f_X3_pair 32 (f_X3_operand N) (f_X3_operand N) 0 (f_X9_isOpenData (f_X3_operand N)) N := by
  unfold f_X3_ofGroupThree
  rw [hcc, if_neg (show ¬ nI 4 = 0 by decide), if_neg (show ¬ nI 4 = 1 by decide), if_neg (show ¬ nI 4 = 2 by decide), if_neg (show ¬ nI 4 = 3 by decide), if_pos (show nI 4 = 4 from rfl)]
  simp only [f_X3_ofGroupThree_172, f_X3_single, xb_eta]
  rw [show nI 4 - 4 = 0 by decide]
theorem ll_4 {e : Int32} : f_X11_isLegalThree (nI 4) e = f_X11_fits e 0 9 := by
  unfold f_X11_isLegalThree
  rw [if_neg (show ¬ (19 : Int32) ≤ nI 4 by decide), if_neg (show ¬ (3 : Int32) ≤ nI 4 &&& 3 by decide), show nI 4 &&& 3 = 0 by decide]
theorem tt_4 {e : Int32} {B : St} : f_X11_three (nI 4) e B = f_X11_one 1 0 e B := by
  unfold f_X11_three
  rw [if_neg (show ¬ (19 : Int32) ≤ nI 4 by decide), if_neg (show ¬ (3 : Int32) ≤ nI 4 &&& 3 by decide), show nI 4 &&& 3 = 0 by decide, show (nI 4) >>> ((2 : Int32) &&& 31) = 1 by decide, xb_l]
theorem dd_5 {N : St} (hcc : (ius (N 11 0) 6) &&& 63 = nI 5) : f_X3_ofGroupThree N = f_X3_pair 32 (f_X3_operand N) (f_X3_operand N) 1 (f_X9_isOpenData (f_X3_operand N)) N := by
  unfold f_X3_ofGroupThree
  rw [hcc, if_neg (show ¬ nI 5 = 0 by decide), if_neg (show ¬ nI 5 = 1 by decide), if_neg (show ¬ nI 5 = 2 by decide), if_neg (show ¬ nI 5 = 3 by decide), if_neg (show ¬ nI 5 = 4 by decide), if_pos (show nI 5 = 5 from rfl)]
  simp only [f_X3_ofGroupThree_172, f_X3_single, xb_eta]
  rw [show nI 5 - 4 = 1 by decide]
theorem ll_5 {e : Int32} : f_X11_isLegalThree (nI 5) e = f_X11_fits e 1 9 := by
  unfold f_X11_isLegalThree
  rw [if_neg (show ¬ (19 : Int32) ≤ nI 5 by decide), if_neg (show ¬ (3 : Int32) ≤ nI 5 &&& 3 by decide), show nI 5 &&& 3 = 1 by decide]
theorem tt_5 {e : Int32} {B : St} : f_X11_three (nI 5) e B = f_X11_one 1 1 e B := by
  unfold f_X11_three
  rw [if_neg (show ¬ (19 : Int32) ≤ nI 5 by decide), if_neg (show ¬ (3 : Int32) ≤ nI 5 &&& 3 by decide), show nI 5 &&& 3 = 1 by decide, show (nI 5) >>> ((2 : Int32) &&& 31) = 1 by decide, xb_l]
theorem dd_6 {N : St} (hcc : (ius (N 11 0) 6) &&& 63 = nI 6) : f_X3_ofGroupThree N = f_X3_pair 32 (f_X3_operand N) (f_X3_operand N) 2 (f_X9_isOpenData (f_X3_operand N)) N := by
  unfold f_X3_ofGroupThree
  rw [hcc, if_neg (show ¬ nI 6 = 0 by decide), if_neg (show ¬ nI 6 = 1 by decide), if_neg (show ¬ nI 6 = 2 by decide), if_neg (show ¬ nI 6 = 3 by decide), if_neg (show ¬ nI 6 = 4 by decide), if_neg (show ¬ nI 6 = 5 by decide), if_pos (show nI 6 = 6 from rfl)]
  simp only [f_X3_ofGroupThree_172, f_X3_single, xb_eta]
  rw [show nI 6 - 4 = 2 by decide]
theorem ll_6 {e : Int32} : f_X11_isLegalThree (nI 6) e = f_X11_fits e 2 9 := by
  unfold f_X11_isLegalThree
  rw [if_neg (show ¬ (19 : Int32) ≤ nI 6 by decide), if_neg (show ¬ (3 : Int32) ≤ nI 6 &&& 3 by decide), show nI 6 &&& 3 = 2 by decide]
theorem tt_6 {e : Int32} {B : St} : f_X11_three (nI 6) e B = f_X11_one 1 2 e B := by
  unfold f_X11_three
  rw [if_neg (show ¬ (19 : Int32) ≤ nI 6 by decide), if_neg (show ¬ (3 : Int32) ≤ nI 6 &&& 3 by decide), show nI 6 &&& 3 = 2 by decide, show (nI 6) >>> ((2 : Int32) &&& 31) = 1 by decide, xb_l]
theorem dd_8 {N : St} (hcc : (ius (N 11 0) 6) &&& 63 = nI 8) : f_X3_ofGroupThree N = f_X3_pair 29 (f_X3_operand N) (f_X3_operand N) 0 (f_X9_isOpenData (f_X3_operand N)) N := by
  unfold f_X3_ofGroupThree
  rw [hcc, if_neg (show ¬ nI 8 = 0 by decide), if_neg (show ¬ nI 8 = 1 by decide), if_neg (show ¬ nI 8 = 2 by decide), if_neg (show ¬ nI 8 = 3 by decide), if_neg (show ¬ nI 8 = 4 by decide), if_neg (show ¬ nI 8 = 5 by decide), if_neg (show ¬ nI 8 = 6 by decide), if_neg (show ¬ nI 8 = 7 by decide), if_pos (show nI 8 = 8 from rfl)]
  simp only [f_X3_ofGroupThree_200, f_X3_single, xb_eta]
  rw [show nI 8 - 8 = 0 by decide]
theorem ll_8 {e : Int32} : f_X11_isLegalThree (nI 8) e = f_X11_fits e 0 9 := by
  unfold f_X11_isLegalThree
  rw [if_neg (show ¬ (19 : Int32) ≤ nI 8 by decide), if_neg (show ¬ (3 : Int32) ≤ nI 8 &&& 3 by decide), show nI 8 &&& 3 = 0 by decide]
theorem tt_8 {e : Int32} {B : St} : f_X11_three (nI 8) e B = f_X11_one 2 0 e B := by
  unfold f_X11_three
  rw [if_neg (show ¬ (19 : Int32) ≤ nI 8 by decide), if_neg (show ¬ (3 : Int32) ≤ nI 8 &&& 3 by decide), show nI 8 &&& 3 = 0 by decide, show (nI 8) >>> ((2 : Int32) &&& 31) = 2 by decide, xb_l]
theorem dd_9 {N : St} (hcc : (ius (N 11 0) 6) &&& 63 = nI 9) : f_X3_ofGroupThree N = f_X3_pair 29 (f_X3_operand N) (f_X3_operand N) 1 (f_X9_isOpenData (f_X3_operand N)) N := by
  unfold f_X3_ofGroupThree
  rw [hcc, if_neg (show ¬ nI 9 = 0 by decide), if_neg (show ¬ nI 9 = 1 by decide), if_neg (show ¬ nI 9 = 2 by decide), if_neg (show ¬ nI 9 = 3 by decide), if_neg (show ¬ nI 9 = 4 by decide), if_neg (show ¬ nI 9 = 5 by decide), if_neg (show ¬ nI 9 = 6 by decide), if_neg (show ¬ nI 9 = 7 by decide), if_neg (show ¬ nI 9 = 8 by decide), if_pos (show nI 9 = 9 from rfl)]
  simp only [f_X3_ofGroupThree_200, f_X3_single, xb_eta]
  rw [show nI 9 - 8 = 1 by decide]
theorem ll_9 {e : Int32} : f_X11_isLegalThree (nI 9) e = f_X11_fits e 1 9 := by
  unfold f_X11_isLegalThree
  rw [if_neg (show ¬ (19 : Int32) ≤ nI 9 by decide), if_neg (show ¬ (3 : Int32) ≤ nI 9 &&& 3 by decide), show nI 9 &&& 3 = 1 by decide]
theorem tt_9 {e : Int32} {B : St} : f_X11_three (nI 9) e B = f_X11_one 2 1 e B := by
  unfold f_X11_three
  rw [if_neg (show ¬ (19 : Int32) ≤ nI 9 by decide), if_neg (show ¬ (3 : Int32) ≤ nI 9 &&& 3 by decide), show nI 9 &&& 3 = 1 by decide, show (nI 9) >>> ((2 : Int32) &&& 31) = 2 by decide, xb_l]
theorem dd_10 {N : St} (hcc : (ius (N 11 0) 6) &&& 63 = nI 10) : f_X3_ofGroupThree N = f_X3_pair 29 (f_X3_operand N) (f_X3_operand N) 2 (f_X9_isOpenData (f_X3_operand N)) N := by
  unfold f_X3_ofGroupThree
  rw [hcc, if_neg (show ¬ nI 10 = 0 by decide), if_neg (show ¬ nI 10 = 1 by decide), if_neg (show ¬ nI 10 = 2 by decide), if_neg (show ¬ nI 10 = 3 by decide), if_neg (show ¬ nI 10 = 4 by decide), if_neg (show ¬ nI 10 = 5 by decide), if_neg (show ¬ nI 10 = 6 by decide), if_neg (show ¬ nI 10 = 7 by decide), if_neg (show ¬ nI 10 = 8 by decide), if_neg (show ¬ nI 10 = 9 by decide), if_pos (show nI 10 = 10 from rfl)]
  simp only [f_X3_ofGroupThree_200, f_X3_single, xb_eta]
  rw [show nI 10 - 8 = 2 by decide]
theorem ll_10 {e : Int32} : f_X11_isLegalThree (nI 10) e = f_X11_fits e 2 9 := by
  unfold f_X11_isLegalThree
  rw [if_neg (show ¬ (19 : Int32) ≤ nI 10 by decide), if_neg (show ¬ (3 : Int32) ≤ nI 10 &&& 3 by decide), show nI 10 &&& 3 = 2 by decide]
theorem tt_10 {e : Int32} {B : St} : f_X11_three (nI 10) e B = f_X11_one 2 2 e B := by
  unfold f_X11_three
  rw [if_neg (show ¬ (19 : Int32) ≤ nI 10 by decide), if_neg (show ¬ (3 : Int32) ≤ nI 10 &&& 3 by decide), show nI 10 &&& 3 = 2 by decide, show (nI 10) >>> ((2 : Int32) &&& 31) = 2 by decide, xb_l]
theorem dd_12 {N : St} (hcc : (ius (N 11 0) 6) &&& 63 = nI 12) : f_X3_ofGroupThree N = f_X3_pair 33 (f_X3_operand N) (f_X3_operand N) 0 (f_X9_isOpenData (f_X3_operand N)) N := by
  unfold f_X3_ofGroupThree
  rw [hcc, if_neg (show ¬ nI 12 = 0 by decide), if_neg (show ¬ nI 12 = 1 by decide), if_neg (show ¬ nI 12 = 2 by decide), if_neg (show ¬ nI 12 = 3 by decide), if_neg (show ¬ nI 12 = 4 by decide), if_neg (show ¬ nI 12 = 5 by decide), if_neg (show ¬ nI 12 = 6 by decide), if_neg (show ¬ nI 12 = 7 by decide), if_neg (show ¬ nI 12 = 8 by decide), if_neg (show ¬ nI 12 = 9 by decide), if_neg (show ¬ nI 12 = 10 by decide), if_neg (show ¬ nI 12 = 11 by decide), if_pos (show nI 12 = 12 from rfl)]
  simp only [f_X3_ofGroupThree_229, f_X3_single, xb_eta]
  rw [show nI 12 - 12 = 0 by decide]
theorem ll_12 {e : Int32} : f_X11_isLegalThree (nI 12) e = f_X11_fits e 0 9 := by
  unfold f_X11_isLegalThree
  rw [if_neg (show ¬ (19 : Int32) ≤ nI 12 by decide), if_neg (show ¬ (3 : Int32) ≤ nI 12 &&& 3 by decide), show nI 12 &&& 3 = 0 by decide]
theorem tt_12 {e : Int32} {B : St} : f_X11_three (nI 12) e B = f_X11_one 3 0 e B := by
  unfold f_X11_three
  rw [if_neg (show ¬ (19 : Int32) ≤ nI 12 by decide), if_neg (show ¬ (3 : Int32) ≤ nI 12 &&& 3 by decide), show nI 12 &&& 3 = 0 by decide, show (nI 12) >>> ((2 : Int32) &&& 31) = 3 by decide, xb_l]
theorem dd_13 {N : St} (hcc : (ius (N 11 0) 6) &&& 63 = nI 13) : f_X3_ofGroupThree N = f_X3_pair 33 (f_X3_operand N) (f_X3_operand N) 1 (f_X9_isOpenData (f_X3_operand N)) N := by
  unfold f_X3_ofGroupThree
  rw [hcc, if_neg (show ¬ nI 13 = 0 by decide), if_neg (show ¬ nI 13 = 1 by decide), if_neg (show ¬ nI 13 = 2 by decide), if_neg (show ¬ nI 13 = 3 by decide), if_neg (show ¬ nI 13 = 4 by decide), if_neg (show ¬ nI 13 = 5 by decide), if_neg (show ¬ nI 13 = 6 by decide), if_neg (show ¬ nI 13 = 7 by decide), if_neg (show ¬ nI 13 = 8 by decide), if_neg (show ¬ nI 13 = 9 by decide), if_neg (show ¬ nI 13 = 10 by decide), if_neg (show ¬ nI 13 = 11 by decide), if_neg (show ¬ nI 13 = 12 by decide), if_pos (show nI 13 = 13 from rfl)]
  simp only [f_X3_ofGroupThree_229, f_X3_single, xb_eta]
  rw [show nI 13 - 12 = 1 by decide]
theorem ll_13 {e : Int32} : f_X11_isLegalThree (nI 13) e = f_X11_fits e 1 9 := by
  unfold f_X11_isLegalThree
  rw [if_neg (show ¬ (19 : Int32) ≤ nI 13 by decide), if_neg (show ¬ (3 : Int32) ≤ nI 13 &&& 3 by decide), show nI 13 &&& 3 = 1 by decide]
theorem tt_13 {e : Int32} {B : St} : f_X11_three (nI 13) e B = f_X11_one 3 1 e B := by
  unfold f_X11_three
  rw [if_neg (show ¬ (19 : Int32) ≤ nI 13 by decide), if_neg (show ¬ (3 : Int32) ≤ nI 13 &&& 3 by decide), show nI 13 &&& 3 = 1 by decide, show (nI 13) >>> ((2 : Int32) &&& 31) = 3 by decide, xb_l]
theorem dd_14 {N : St} (hcc : (ius (N 11 0) 6) &&& 63 = nI 14) : f_X3_ofGroupThree N = f_X3_pair 33 (f_X3_operand N) (f_X3_operand N) 2 (f_X9_isOpenData (f_X3_operand N)) N := by
  unfold f_X3_ofGroupThree
  rw [hcc, if_neg (show ¬ nI 14 = 0 by decide), if_neg (show ¬ nI 14 = 1 by decide), if_neg (show ¬ nI 14 = 2 by decide), if_neg (show ¬ nI 14 = 3 by decide), if_neg (show ¬ nI 14 = 4 by decide), if_neg (show ¬ nI 14 = 5 by decide), if_neg (show ¬ nI 14 = 6 by decide), if_neg (show ¬ nI 14 = 7 by decide), if_neg (show ¬ nI 14 = 8 by decide), if_neg (show ¬ nI 14 = 9 by decide), if_neg (show ¬ nI 14 = 10 by decide), if_neg (show ¬ nI 14 = 11 by decide), if_neg (show ¬ nI 14 = 12 by decide), if_neg (show ¬ nI 14 = 13 by decide), if_pos (show nI 14 = 14 from rfl)]
  simp only [f_X3_ofGroupThree_229, f_X3_single, xb_eta]
  rw [show nI 14 - 12 = 2 by decide]
theorem ll_14 {e : Int32} : f_X11_isLegalThree (nI 14) e = f_X11_fits e 2 9 := by
  unfold f_X11_isLegalThree
  rw [if_neg (show ¬ (19 : Int32) ≤ nI 14 by decide), if_neg (show ¬ (3 : Int32) ≤ nI 14 &&& 3 by decide), show nI 14 &&& 3 = 2 by decide]
theorem tt_14 {e : Int32} {B : St} : f_X11_three (nI 14) e B = f_X11_one 3 2 e B := by
  unfold f_X11_three
  rw [if_neg (show ¬ (19 : Int32) ≤ nI 14 by decide), if_neg (show ¬ (3 : Int32) ≤ nI 14 &&& 3 by decide), show nI 14 &&& 3 = 2 by decide, show (nI 14) >>> ((2 : Int32) &&& 31) = 3 by decide, xb_l]
theorem dd_16 {N : St} (hcc : (ius (N 11 0) 6) &&& 63 = nI 16) : f_X3_ofGroupThree N = f_X3_pair 34 (f_X3_operand N) (f_X3_operand N) 0 (f_X9_isOpenData (f_X3_operand N)) N := by
  unfold f_X3_ofGroupThree
  rw [hcc, if_neg (show ¬ nI 16 = 0 by decide), if_neg (show ¬ nI 16 = 1 by decide), if_neg (show ¬ nI 16 = 2 by decide), if_neg (show ¬ nI 16 = 3 by decide), if_neg (show ¬ nI 16 = 4 by decide), if_neg (show ¬ nI 16 = 5 by decide), if_neg (show ¬ nI 16 = 6 by decide), if_neg (show ¬ nI 16 = 7 by decide), if_neg (show ¬ nI 16 = 8 by decide), if_neg (show ¬ nI 16 = 9 by decide), if_neg (show ¬ nI 16 = 10 by decide), if_neg (show ¬ nI 16 = 11 by decide), if_neg (show ¬ nI 16 = 12 by decide), if_neg (show ¬ nI 16 = 13 by decide), if_neg (show ¬ nI 16 = 14 by decide), if_neg (show ¬ nI 16 = 15 by decide), if_pos (show nI 16 = 16 from rfl)]
  simp only [f_X3_ofGroupThree_252, f_X3_single, xb_eta]
  rw [show nI 16 - 16 = 0 by decide]
theorem ll_16 {e : Int32} : f_X11_isLegalThree (nI 16) e = f_X11_fits e 0 9 := by
  unfold f_X11_isLegalThree
  rw [if_neg (show ¬ (19 : Int32) ≤ nI 16 by decide), if_neg (show ¬ (3 : Int32) ≤ nI 16 &&& 3 by decide), show nI 16 &&& 3 = 0 by decide]
theorem tt_16 {e : Int32} {B : St} : f_X11_three (nI 16) e B = f_X11_one 4 0 e B := by
  unfold f_X11_three
  rw [if_neg (show ¬ (19 : Int32) ≤ nI 16 by decide), if_neg (show ¬ (3 : Int32) ≤ nI 16 &&& 3 by decide), show nI 16 &&& 3 = 0 by decide, show (nI 16) >>> ((2 : Int32) &&& 31) = 4 by decide, xb_l]
theorem dd_17 {N : St} (hcc : (ius (N 11 0) 6) &&& 63 = nI 17) : f_X3_ofGroupThree N = f_X3_pair 34 (f_X3_operand N) (f_X3_operand N) 1 (f_X9_isOpenData (f_X3_operand N)) N := by
  unfold f_X3_ofGroupThree
  rw [hcc, if_neg (show ¬ nI 17 = 0 by decide), if_neg (show ¬ nI 17 = 1 by decide), if_neg (show ¬ nI 17 = 2 by decide), if_neg (show ¬ nI 17 = 3 by decide), if_neg (show ¬ nI 17 = 4 by decide), if_neg (show ¬ nI 17 = 5 by decide), if_neg (show ¬ nI 17 = 6 by decide), if_neg (show ¬ nI 17 = 7 by decide), if_neg (show ¬ nI 17 = 8 by decide), if_neg (show ¬ nI 17 = 9 by decide), if_neg (show ¬ nI 17 = 10 by decide), if_neg (show ¬ nI 17 = 11 by decide), if_neg (show ¬ nI 17 = 12 by decide), if_neg (show ¬ nI 17 = 13 by decide), if_neg (show ¬ nI 17 = 14 by decide), if_neg (show ¬ nI 17 = 15 by decide), if_neg (show ¬ nI 17 = 16 by decide), if_pos (show nI 17 = 17 from rfl)]
  simp only [f_X3_ofGroupThree_252, f_X3_single, xb_eta]
  rw [show nI 17 - 16 = 1 by decide]
theorem ll_17 {e : Int32} : f_X11_isLegalThree (nI 17) e = f_X11_fits e 1 9 := by
  unfold f_X11_isLegalThree
  rw [if_neg (show ¬ (19 : Int32) ≤ nI 17 by decide), if_neg (show ¬ (3 : Int32) ≤ nI 17 &&& 3 by decide), show nI 17 &&& 3 = 1 by decide]
theorem tt_17 {e : Int32} {B : St} : f_X11_three (nI 17) e B = f_X11_one 4 1 e B := by
  unfold f_X11_three
  rw [if_neg (show ¬ (19 : Int32) ≤ nI 17 by decide), if_neg (show ¬ (3 : Int32) ≤ nI 17 &&& 3 by decide), show nI 17 &&& 3 = 1 by decide, show (nI 17) >>> ((2 : Int32) &&& 31) = 4 by decide, xb_l]
theorem dd_18 {N : St} (hcc : (ius (N 11 0) 6) &&& 63 = nI 18) : f_X3_ofGroupThree N = f_X3_pair 34 (f_X3_operand N) (f_X3_operand N) 2 (f_X9_isOpenData (f_X3_operand N)) N := by
  unfold f_X3_ofGroupThree
  rw [hcc, if_neg (show ¬ nI 18 = 0 by decide), if_neg (show ¬ nI 18 = 1 by decide), if_neg (show ¬ nI 18 = 2 by decide), if_neg (show ¬ nI 18 = 3 by decide), if_neg (show ¬ nI 18 = 4 by decide), if_neg (show ¬ nI 18 = 5 by decide), if_neg (show ¬ nI 18 = 6 by decide), if_neg (show ¬ nI 18 = 7 by decide), if_neg (show ¬ nI 18 = 8 by decide), if_neg (show ¬ nI 18 = 9 by decide), if_neg (show ¬ nI 18 = 10 by decide), if_neg (show ¬ nI 18 = 11 by decide), if_neg (show ¬ nI 18 = 12 by decide), if_neg (show ¬ nI 18 = 13 by decide), if_neg (show ¬ nI 18 = 14 by decide), if_neg (show ¬ nI 18 = 15 by decide), if_neg (show ¬ nI 18 = 16 by decide), if_neg (show ¬ nI 18 = 17 by decide), if_pos (show nI 18 = 18 from rfl)]
  simp only [f_X3_ofGroupThree_252, f_X3_single, xb_eta]
  rw [show nI 18 - 16 = 2 by decide]
theorem ll_18 {e : Int32} : f_X11_isLegalThree (nI 18) e = f_X11_fits e 2 9 := by
  unfold f_X11_isLegalThree
  rw [if_neg (show ¬ (19 : Int32) ≤ nI 18 by decide), if_neg (show ¬ (3 : Int32) ≤ nI 18 &&& 3 by decide), show nI 18 &&& 3 = 2 by decide]
theorem tt_18 {e : Int32} {B : St} : f_X11_three (nI 18) e B = f_X11_one 4 2 e B := by
  unfold f_X11_three
  rw [if_neg (show ¬ (19 : Int32) ≤ nI 18 by decide), if_neg (show ¬ (3 : Int32) ≤ nI 18 &&& 3 by decide), show nI 18 &&& 3 = 2 by decide, show (nI 18) >>> ((2 : Int32) &&& 31) = 4 by decide, xb_l]
theorem dd_3 {N : St} (hcc : (ius (N 11 0) 6) &&& 63 = nI 3) : f_X3_ofGroupThree N = f_X3_pair 37 (f_X3_operand N) (f_X3_operand N) 1 (f_X9_isOpenData (f_X3_operand N)) N := by
  unfold f_X3_ofGroupThree
  rw [hcc, if_neg (show ¬ nI 3 = 0 by decide), if_neg (show ¬ nI 3 = 1 by decide), if_neg (show ¬ nI 3 = 2 by decide), if_pos (show nI 3 = 3 from rfl)]
  simp only [f_X3_single, xb_eta]
theorem ll_3 {e : Int32} : f_X11_isLegalThree (nI 3) e = f_X11_fits e 1 9 := by
  unfold f_X11_isLegalThree f_X11_isLegalThree_27
  rw [if_neg (show ¬ (19 : Int32) ≤ nI 3 by decide), if_pos (show (3 : Int32) ≤ nI 3 &&& 3 by decide), if_pos (show nI 3 = 3 from rfl)]
theorem tt_3 {e : Int32} {B : St} : f_X11_three (nI 3) e B = f_X11_store 1 ((f_X11_find e 1 B) 14 2) (f_X11_find e 1 B) := by
  unfold f_X11_three f_X11_three_25
  rw [if_neg (show ¬ (19 : Int32) ≤ nI 3 by decide), if_pos (show (3 : Int32) ≤ nI 3 &&& 3 by decide), if_pos (show nI 3 = 3 from rfl)]
  simp only [xb_l]
theorem dd_7 {N : St} (hcc : (ius (N 11 0) 6) &&& 63 = nI 7) : f_X3_ofGroupThree N = f_X3_pair 38 (f_X3_operand N) (f_X3_operand N) 1 (f_X9_isData (f_X3_operand N)) N := by
  unfold f_X3_ofGroupThree
  rw [hcc, if_neg (show ¬ nI 7 = 0 by decide), if_neg (show ¬ nI 7 = 1 by decide), if_neg (show ¬ nI 7 = 2 by decide), if_neg (show ¬ nI 7 = 3 by decide), if_neg (show ¬ nI 7 = 4 by decide), if_neg (show ¬ nI 7 = 5 by decide), if_neg (show ¬ nI 7 = 6 by decide), if_pos (show nI 7 = 7 from rfl)]
  simp only [f_X3_single, xb_eta]
theorem ll_7 {e : Int32} : f_X11_isLegalThree (nI 7) e = f_X11_fits e 1 1 := by
  unfold f_X11_isLegalThree f_X11_isLegalThree_27
  rw [if_neg (show ¬ (19 : Int32) ≤ nI 7 by decide), if_pos (show (3 : Int32) ≤ nI 7 &&& 3 by decide), if_neg (show ¬ nI 7 = 3 by decide), if_neg (show ¬ nI 7 = 4 by decide), if_neg (show ¬ nI 7 = 5 by decide), if_neg (show ¬ nI 7 = 6 by decide), if_pos (show nI 7 = 7 from rfl)]
  rfl
theorem tt_7 {e : Int32} {B : St} : f_X11_three (nI 7) e B = xup (f_X11_loadAt e 1 B).2 14 2 ((((f_X11_loadAt e 1 B).2 14 2) &&& (-32)) ||| ((f_X11_loadAt e 1 B).1 &&& 31)) := by
  unfold f_X11_three f_X11_three_25
  rw [if_neg (show ¬ (19 : Int32) ≤ nI 7 by decide), if_pos (show (3 : Int32) ≤ nI 7 &&& 3 by decide), if_neg (show ¬ nI 7 = 3 by decide), if_neg (show ¬ nI 7 = 4 by decide), if_neg (show ¬ nI 7 = 5 by decide), if_neg (show ¬ nI 7 = 6 by decide), if_pos (show nI 7 = 7 from rfl)]
  simp only [xb_l]
theorem dd_11 {N : St} (hcc : (ius (N 11 0) 6) &&& 63 = nI 11) : f_X3_ofGroupThree N = f_X3_pair 39 (f_X3_operand N) (f_X3_operand N) 1 (f_X9_isData (f_X3_operand N)) N := by
  unfold f_X3_ofGroupThree
  rw [hcc, if_neg (show ¬ nI 11 = 0 by decide), if_neg (show ¬ nI 11 = 1 by decide), if_neg (show ¬ nI 11 = 2 by decide), if_neg (show ¬ nI 11 = 3 by decide), if_neg (show ¬ nI 11 = 4 by decide), if_neg (show ¬ nI 11 = 5 by decide), if_neg (show ¬ nI 11 = 6 by decide), if_neg (show ¬ nI 11 = 7 by decide), if_neg (show ¬ nI 11 = 8 by decide), if_neg (show ¬ nI 11 = 9 by decide), if_neg (show ¬ nI 11 = 10 by decide), if_pos (show nI 11 = 11 from rfl)]
  simp only [f_X3_single, xb_eta]
theorem ll_11 {e : Int32} : f_X11_isLegalThree (nI 11) e = f_X11_fits e 1 1 := by
  unfold f_X11_isLegalThree f_X11_isLegalThree_27
  rw [if_neg (show ¬ (19 : Int32) ≤ nI 11 by decide), if_pos (show (3 : Int32) ≤ nI 11 &&& 3 by decide), if_neg (show ¬ nI 11 = 3 by decide), if_neg (show ¬ nI 11 = 4 by decide), if_neg (show ¬ nI 11 = 5 by decide), if_neg (show ¬ nI 11 = 6 by decide), if_neg (show ¬ nI 11 = 7 by decide), if_neg (show ¬ nI 11 = 8 by decide), if_neg (show ¬ nI 11 = 9 by decide), if_neg (show ¬ nI 11 = 10 by decide), if_pos (show nI 11 = 11 from rfl)]
  rfl
theorem tt_11 {e : Int32} {B : St} : f_X11_three (nI 11) e B = f_X11_setStatus (f_X11_loadAt e 1 B).1 (f_X11_loadAt e 1 B).2 := by
  unfold f_X11_three f_X11_three_25
  rw [if_neg (show ¬ (19 : Int32) ≤ nI 11 by decide), if_pos (show (3 : Int32) ≤ nI 11 &&& 3 by decide), if_neg (show ¬ nI 11 = 3 by decide), if_neg (show ¬ nI 11 = 4 by decide), if_neg (show ¬ nI 11 = 5 by decide), if_neg (show ¬ nI 11 = 6 by decide), if_neg (show ¬ nI 11 = 7 by decide), if_neg (show ¬ nI 11 = 8 by decide), if_neg (show ¬ nI 11 = 9 by decide), if_neg (show ¬ nI 11 = 10 by decide), if_pos (show nI 11 = 11 from rfl)]
  simp only [xb_l]
theorem dd_15 {N : St} (hcc : (ius (N 11 0) 6) &&& 63 = nI 15) : f_X3_ofGroupThree N = f_X3_pair 31 (f_X3_operand N) (f_X3_operand N) 0 (f_X9_isOpenData (f_X3_operand N)) N := by
  unfold f_X3_ofGroupThree
  rw [hcc, if_neg (show ¬ nI 15 = 0 by decide), if_neg (show ¬ nI 15 = 1 by decide), if_neg (show ¬ nI 15 = 2 by decide), if_neg (show ¬ nI 15 = 3 by decide), if_neg (show ¬ nI 15 = 4 by decide), if_neg (show ¬ nI 15 = 5 by decide), if_neg (show ¬ nI 15 = 6 by decide), if_neg (show ¬ nI 15 = 7 by decide), if_neg (show ¬ nI 15 = 8 by decide), if_neg (show ¬ nI 15 = 9 by decide), if_neg (show ¬ nI 15 = 10 by decide), if_neg (show ¬ nI 15 = 11 by decide), if_neg (show ¬ nI 15 = 12 by decide), if_neg (show ¬ nI 15 = 13 by decide), if_neg (show ¬ nI 15 = 14 by decide), if_pos (show nI 15 = 15 from rfl)]
  simp only [f_X3_single, xb_eta]
theorem ll_15 {e : Int32} : f_X11_isLegalThree (nI 15) e = f_X11_fits e 0 9 := by
  unfold f_X11_isLegalThree f_X11_isLegalThree_27
  rw [if_neg (show ¬ (19 : Int32) ≤ nI 15 by decide), if_pos (show (3 : Int32) ≤ nI 15 &&& 3 by decide), if_neg (show ¬ nI 15 = 3 by decide), if_neg (show ¬ nI 15 = 4 by decide), if_neg (show ¬ nI 15 = 5 by decide), if_neg (show ¬ nI 15 = 6 by decide), if_neg (show ¬ nI 15 = 7 by decide), if_neg (show ¬ nI 15 = 8 by decide), if_neg (show ¬ nI 15 = 9 by decide), if_neg (show ¬ nI 15 = 10 by decide), if_neg (show ¬ nI 15 = 11 by decide), if_neg (show ¬ nI 15 = 12 by decide), if_neg (show ¬ nI 15 = 13 by decide), if_neg (show ¬ nI 15 = 14 by decide), if_pos (show nI 15 = 15 from rfl)]
  rfl
theorem tt_15 {e : Int32} {B : St} : f_X11_three (nI 15) e B = f_X11_store 0 (f_X11_tens (f_X11_loadAt e 0 B).1 0 1 (f_X11_loadAt e 0 B).2).1 (f_X11_tens (f_X11_loadAt e 0 B).1 0 1 (f_X11_loadAt e 0 B).2).2 := by
  unfold f_X11_three f_X11_three_25
  rw [if_neg (show ¬ (19 : Int32) ≤ nI 15 by decide), if_pos (show (3 : Int32) ≤ nI 15 &&& 3 by decide), if_neg (show ¬ nI 15 = 3 by decide), if_neg (show ¬ nI 15 = 4 by decide), if_neg (show ¬ nI 15 = 5 by decide), if_neg (show ¬ nI 15 = 6 by decide), if_neg (show ¬ nI 15 = 7 by decide), if_neg (show ¬ nI 15 = 8 by decide), if_neg (show ¬ nI 15 = 9 by decide), if_neg (show ¬ nI 15 = 10 by decide), if_neg (show ¬ nI 15 = 11 by decide), if_neg (show ¬ nI 15 = 12 by decide), if_neg (show ¬ nI 15 = 13 by decide), if_neg (show ¬ nI 15 = 14 by decide), if_pos (show nI 15 = 15 from rfl)]
  simp only [xb_l]
theorem dd_19 {N : St} (hcc : (ius (N 11 0) 6) &&& 63 = nI 19) : f_X3_ofGroupThree N = f_X3_pair 35 (f_X3_operand N) (f_X3_operand N) 0 (f_X9_isOpenData (f_X3_operand N)) N := by
  unfold f_X3_ofGroupThree
  rw [hcc, if_neg (show ¬ nI 19 = 0 by decide), if_neg (show ¬ nI 19 = 1 by decide), if_neg (show ¬ nI 19 = 2 by decide), if_neg (show ¬ nI 19 = 3 by decide), if_neg (show ¬ nI 19 = 4 by decide), if_neg (show ¬ nI 19 = 5 by decide), if_neg (show ¬ nI 19 = 6 by decide), if_neg (show ¬ nI 19 = 7 by decide), if_neg (show ¬ nI 19 = 8 by decide), if_neg (show ¬ nI 19 = 9 by decide), if_neg (show ¬ nI 19 = 10 by decide), if_neg (show ¬ nI 19 = 11 by decide), if_neg (show ¬ nI 19 = 12 by decide), if_neg (show ¬ nI 19 = 13 by decide), if_neg (show ¬ nI 19 = 14 by decide), if_neg (show ¬ nI 19 = 15 by decide), if_neg (show ¬ nI 19 = 16 by decide), if_neg (show ¬ nI 19 = 17 by decide), if_neg (show ¬ nI 19 = 18 by decide), if_pos (show nI 19 = 19 from rfl)]
  simp only [f_X3_single, xb_eta]
theorem ll_19 {e : Int32} : f_X11_isLegalThree (nI 19) e = f_X11_fits e 0 9 := by
  unfold f_X11_isLegalThree f_X11_isLegalThree_27
  rw [if_pos (show (19 : Int32) ≤ nI 19 by decide), if_neg (show ¬ nI 19 = 3 by decide), if_neg (show ¬ nI 19 = 4 by decide), if_neg (show ¬ nI 19 = 5 by decide), if_neg (show ¬ nI 19 = 6 by decide), if_neg (show ¬ nI 19 = 7 by decide), if_neg (show ¬ nI 19 = 8 by decide), if_neg (show ¬ nI 19 = 9 by decide), if_neg (show ¬ nI 19 = 10 by decide), if_neg (show ¬ nI 19 = 11 by decide), if_neg (show ¬ nI 19 = 12 by decide), if_neg (show ¬ nI 19 = 13 by decide), if_neg (show ¬ nI 19 = 14 by decide), if_neg (show ¬ nI 19 = 15 by decide), if_neg (show ¬ nI 19 = 16 by decide), if_neg (show ¬ nI 19 = 17 by decide), if_neg (show ¬ nI 19 = 18 by decide), if_pos (show nI 19 = 19 from rfl)]
  rfl
theorem tt_19 {e : Int32} {B : St} : f_X11_three (nI 19) e B = f_X11_store 0 ((f_X11_loadAt e 0 B).1 ||| 128) (f_X11_test 0 (f_X11_loadAt e 0 B).1 (f_X11_loadAt e 0 B).2) := by
  unfold f_X11_three f_X11_three_25
  rw [if_pos (show (19 : Int32) ≤ nI 19 by decide), if_neg (show ¬ nI 19 = 3 by decide), if_neg (show ¬ nI 19 = 4 by decide), if_neg (show ¬ nI 19 = 5 by decide), if_neg (show ¬ nI 19 = 6 by decide), if_neg (show ¬ nI 19 = 7 by decide), if_neg (show ¬ nI 19 = 8 by decide), if_neg (show ¬ nI 19 = 9 by decide), if_neg (show ¬ nI 19 = 10 by decide), if_neg (show ¬ nI 19 = 11 by decide), if_neg (show ¬ nI 19 = 12 by decide), if_neg (show ¬ nI 19 = 13 by decide), if_neg (show ¬ nI 19 = 14 by decide), if_neg (show ¬ nI 19 = 15 by decide), if_neg (show ¬ nI 19 = 16 by decide), if_neg (show ¬ nI 19 = 17 by decide), if_neg (show ¬ nI 19 = 18 by decide), if_pos (show nI 19 = 19 from rfl)]
  simp only [xb_l]
theorem dd_20 {N : St} (hcc : (ius (N 11 0) 6) &&& 63 = nI 20) : f_X3_ofGroupThree N = (if (f_X3_mode N) = 0 then f_X3_pair 40 (f_X3_operand N) (f_X3_operand N) 2 1 N else f_X3_pair 45 (f_X3_operand N) (f_X3_operand N) 2 (f_X9_isControl (f_X3_operand N)) N) := by
  unfold f_X3_ofGroupThree
  rw [hcc, if_neg (show ¬ nI 20 = 0 by decide), if_neg (show ¬ nI 20 = 1 by decide), if_neg (show ¬ nI 20 = 2 by decide), if_neg (show ¬ nI 20 = 3 by decide), if_neg (show ¬ nI 20 = 4 by decide), if_neg (show ¬ nI 20 = 5 by decide), if_neg (show ¬ nI 20 = 6 by decide), if_neg (show ¬ nI 20 = 7 by decide), if_neg (show ¬ nI 20 = 8 by decide), if_neg (show ¬ nI 20 = 9 by decide), if_neg (show ¬ nI 20 = 10 by decide), if_neg (show ¬ nI 20 = 11 by decide), if_neg (show ¬ nI 20 = 12 by decide), if_neg (show ¬ nI 20 = 13 by decide), if_neg (show ¬ nI 20 = 14 by decide), if_neg (show ¬ nI 20 = 15 by decide), if_neg (show ¬ nI 20 = 16 by decide), if_neg (show ¬ nI 20 = 17 by decide), if_neg (show ¬ nI 20 = 18 by decide), if_neg (show ¬ nI 20 = 19 by decide), if_pos (show nI 20 = 20 from rfl)]
  simp only [f_X3_single, xb_eta]
theorem tt_20 {e : Int32} {B : St} : f_X11_three (nI 20) e B = (xb (f_X11_find e 2 B) fun q62 => (if (q62 14 25) = 16 then (xb (f_X11_push 2 (q62 14 26) q62) fun q71 => q71) else (xb (f_X11_test 2 ((xup q62 15 (q62 14 25).toNatClampNeg (((q62 15 (q62 14 25).toNatClampNeg) <<< ((16 : Int32) &&& 31)) ||| (ius (q62 15 (q62 14 25).toNatClampNeg) 16))) 15 (q62 14 25).toNatClampNeg) (xup q62 15 (q62 14 25).toNatClampNeg (((q62 15 (q62 14 25).toNatClampNeg) <<< ((16 : Int32) &&& 31)) ||| (ius (q62 15 (q62 14 25).toNatClampNeg) 16)))) fun q67 => q67))) := by
  unfold f_X11_three f_X11_three_25
  rw [if_pos (show (19 : Int32) ≤ nI 20 by decide), if_neg (show ¬ nI 20 = 3 by decide), if_neg (show ¬ nI 20 = 4 by decide), if_neg (show ¬ nI 20 = 5 by decide), if_neg (show ¬ nI 20 = 6 by decide), if_neg (show ¬ nI 20 = 7 by decide), if_neg (show ¬ nI 20 = 8 by decide), if_neg (show ¬ nI 20 = 9 by decide), if_neg (show ¬ nI 20 = 10 by decide), if_neg (show ¬ nI 20 = 11 by decide), if_neg (show ¬ nI 20 = 12 by decide), if_neg (show ¬ nI 20 = 13 by decide), if_neg (show ¬ nI 20 = 14 by decide), if_neg (show ¬ nI 20 = 15 by decide), if_neg (show ¬ nI 20 = 16 by decide), if_neg (show ¬ nI 20 = 17 by decide), if_neg (show ¬ nI 20 = 18 by decide), if_neg (show ¬ nI 20 = 19 by decide), if_pos (show nI 20 = 20 from rfl)]

theorem dd_21 {N : St} (hcc : (ius (N 11 0) 6) &&& 63 = nI 21) : f_X3_ofGroupThree N = (if (f_X3_mode N) = 0 then f_X3_pair 41 (f_X3_operand N) (f_X3_operand N) 1 1 N else f_X3_pair 42 (f_X3_operand N) (f_X3_operand N) 1 (f_X3_isRowToStore N) N) := by
  unfold f_X3_ofGroupThree
  rw [hcc, if_neg (show ¬ nI 21 = 0 by decide), if_neg (show ¬ nI 21 = 1 by decide), if_neg (show ¬ nI 21 = 2 by decide), if_neg (show ¬ nI 21 = 3 by decide), if_neg (show ¬ nI 21 = 4 by decide), if_neg (show ¬ nI 21 = 5 by decide), if_neg (show ¬ nI 21 = 6 by decide), if_neg (show ¬ nI 21 = 7 by decide), if_neg (show ¬ nI 21 = 8 by decide), if_neg (show ¬ nI 21 = 9 by decide), if_neg (show ¬ nI 21 = 10 by decide), if_neg (show ¬ nI 21 = 11 by decide), if_neg (show ¬ nI 21 = 12 by decide), if_neg (show ¬ nI 21 = 13 by decide), if_neg (show ¬ nI 21 = 14 by decide), if_neg (show ¬ nI 21 = 15 by decide), if_neg (show ¬ nI 21 = 16 by decide), if_neg (show ¬ nI 21 = 17 by decide), if_neg (show ¬ nI 21 = 18 by decide), if_neg (show ¬ nI 21 = 19 by decide), if_neg (show ¬ nI 21 = 20 by decide), if_pos (show nI 21 = 21 from rfl)]
  simp only [f_X3_ofGroupThree_310, f_X3_single, xb_eta]
  rw [show nI 21 - 20 = 1 by decide]
theorem tt_21 {e : Int32} {B : St} : f_X11_three (nI 21) e B = f_X11_extendOrStore 1 e B := by
  unfold f_X11_three f_X11_three_25
  rw [if_pos (show (19 : Int32) ≤ nI 21 by decide), if_neg (show ¬ nI 21 = 3 by decide), if_neg (show ¬ nI 21 = 4 by decide), if_neg (show ¬ nI 21 = 5 by decide), if_neg (show ¬ nI 21 = 6 by decide), if_neg (show ¬ nI 21 = 7 by decide), if_neg (show ¬ nI 21 = 8 by decide), if_neg (show ¬ nI 21 = 9 by decide), if_neg (show ¬ nI 21 = 10 by decide), if_neg (show ¬ nI 21 = 11 by decide), if_neg (show ¬ nI 21 = 12 by decide), if_neg (show ¬ nI 21 = 13 by decide), if_neg (show ¬ nI 21 = 14 by decide), if_neg (show ¬ nI 21 = 15 by decide), if_neg (show ¬ nI 21 = 16 by decide), if_neg (show ¬ nI 21 = 17 by decide), if_neg (show ¬ nI 21 = 18 by decide), if_neg (show ¬ nI 21 = 19 by decide), if_neg (show ¬ nI 21 = 20 by decide), if_pos (show nI 21 = 21 from rfl)]
  simp only [f_X11_three_324, xb_l]
  rw [show nI 21 - 20 = 1 by decide]
theorem dd_22 {N : St} (hcc : (ius (N 11 0) 6) &&& 63 = nI 22) : f_X3_ofGroupThree N = (if (f_X3_mode N) = 0 then f_X3_pair 41 (f_X3_operand N) (f_X3_operand N) 2 1 N else f_X3_pair 42 (f_X3_operand N) (f_X3_operand N) 2 (f_X3_isRowToStore N) N) := by
  unfold f_X3_ofGroupThree
  rw [hcc, if_neg (show ¬ nI 22 = 0 by decide), if_neg (show ¬ nI 22 = 1 by decide), if_neg (show ¬ nI 22 = 2 by decide), if_neg (show ¬ nI 22 = 3 by decide), if_neg (show ¬ nI 22 = 4 by decide), if_neg (show ¬ nI 22 = 5 by decide), if_neg (show ¬ nI 22 = 6 by decide), if_neg (show ¬ nI 22 = 7 by decide), if_neg (show ¬ nI 22 = 8 by decide), if_neg (show ¬ nI 22 = 9 by decide), if_neg (show ¬ nI 22 = 10 by decide), if_neg (show ¬ nI 22 = 11 by decide), if_neg (show ¬ nI 22 = 12 by decide), if_neg (show ¬ nI 22 = 13 by decide), if_neg (show ¬ nI 22 = 14 by decide), if_neg (show ¬ nI 22 = 15 by decide), if_neg (show ¬ nI 22 = 16 by decide), if_neg (show ¬ nI 22 = 17 by decide), if_neg (show ¬ nI 22 = 18 by decide), if_neg (show ¬ nI 22 = 19 by decide), if_neg (show ¬ nI 22 = 20 by decide), if_neg (show ¬ nI 22 = 21 by decide), if_pos (show nI 22 = 22 from rfl)]
  simp only [f_X3_ofGroupThree_310, f_X3_single, xb_eta]
  rw [show nI 22 - 20 = 2 by decide]
theorem tt_22 {e : Int32} {B : St} : f_X11_three (nI 22) e B = f_X11_extendOrStore 2 e B := by
  unfold f_X11_three f_X11_three_25
  rw [if_pos (show (19 : Int32) ≤ nI 22 by decide), if_neg (show ¬ nI 22 = 3 by decide), if_neg (show ¬ nI 22 = 4 by decide), if_neg (show ¬ nI 22 = 5 by decide), if_neg (show ¬ nI 22 = 6 by decide), if_neg (show ¬ nI 22 = 7 by decide), if_neg (show ¬ nI 22 = 8 by decide), if_neg (show ¬ nI 22 = 9 by decide), if_neg (show ¬ nI 22 = 10 by decide), if_neg (show ¬ nI 22 = 11 by decide), if_neg (show ¬ nI 22 = 12 by decide), if_neg (show ¬ nI 22 = 13 by decide), if_neg (show ¬ nI 22 = 14 by decide), if_neg (show ¬ nI 22 = 15 by decide), if_neg (show ¬ nI 22 = 16 by decide), if_neg (show ¬ nI 22 = 17 by decide), if_neg (show ¬ nI 22 = 18 by decide), if_neg (show ¬ nI 22 = 19 by decide), if_neg (show ¬ nI 22 = 20 by decide), if_neg (show ¬ nI 22 = 21 by decide), if_pos (show nI 22 = 22 from rfl)]
  simp only [f_X11_three_324, xb_l]
  rw [show nI 22 - 20 = 2 by decide]
theorem dd_24 {N : St} (hcc : (ius (N 11 0) 6) &&& 63 = nI 24) : f_X3_ofGroupThree N = f_X3_pair 43 (f_X3_operand N) (f_X3_operand N) 1 (f_X3_isRowToLoad N) N := by
  unfold f_X3_ofGroupThree
  rw [hcc, if_neg (show ¬ nI 24 = 0 by decide), if_neg (show ¬ nI 24 = 1 by decide), if_neg (show ¬ nI 24 = 2 by decide), if_neg (show ¬ nI 24 = 3 by decide), if_neg (show ¬ nI 24 = 4 by decide), if_neg (show ¬ nI 24 = 5 by decide), if_neg (show ¬ nI 24 = 6 by decide), if_neg (show ¬ nI 24 = 7 by decide), if_neg (show ¬ nI 24 = 8 by decide), if_neg (show ¬ nI 24 = 9 by decide), if_neg (show ¬ nI 24 = 10 by decide), if_neg (show ¬ nI 24 = 11 by decide), if_neg (show ¬ nI 24 = 12 by decide), if_neg (show ¬ nI 24 = 13 by decide), if_neg (show ¬ nI 24 = 14 by decide), if_neg (show ¬ nI 24 = 15 by decide), if_neg (show ¬ nI 24 = 16 by decide), if_neg (show ¬ nI 24 = 17 by decide), if_neg (show ¬ nI 24 = 18 by decide), if_neg (show ¬ nI 24 = 19 by decide), if_neg (show ¬ nI 24 = 20 by decide), if_neg (show ¬ nI 24 = 21 by decide), if_neg (show ¬ nI 24 = 22 by decide), if_neg (show ¬ nI 24 = 23 by decide), if_pos (show nI 24 = 24 from rfl)]
  simp only [f_X3_ofGroupThree_348, f_X3_single, xb_eta]
  rw [show nI 24 - 23 = 1 by decide]
theorem tt_24 {e : Int32} {B : St} : f_X11_three (nI 24) e B = f_X11_loadMany 1 e B := by
  unfold f_X11_three f_X11_three_25
  rw [if_pos (show (19 : Int32) ≤ nI 24 by decide), if_neg (show ¬ nI 24 = 3 by decide), if_neg (show ¬ nI 24 = 4 by decide), if_neg (show ¬ nI 24 = 5 by decide), if_neg (show ¬ nI 24 = 6 by decide), if_neg (show ¬ nI 24 = 7 by decide), if_neg (show ¬ nI 24 = 8 by decide), if_neg (show ¬ nI 24 = 9 by decide), if_neg (show ¬ nI 24 = 10 by decide), if_neg (show ¬ nI 24 = 11 by decide), if_neg (show ¬ nI 24 = 12 by decide), if_neg (show ¬ nI 24 = 13 by decide), if_neg (show ¬ nI 24 = 14 by decide), if_neg (show ¬ nI 24 = 15 by decide), if_neg (show ¬ nI 24 = 16 by decide), if_neg (show ¬ nI 24 = 17 by decide), if_neg (show ¬ nI 24 = 18 by decide), if_neg (show ¬ nI 24 = 19 by decide), if_neg (show ¬ nI 24 = 20 by decide), if_neg (show ¬ nI 24 = 21 by decide), if_neg (show ¬ nI 24 = 22 by decide), if_neg (show ¬ nI 24 = 23 by decide), if_pos (show nI 24 = 24 from rfl)]
  simp only [f_X11_three_336, xb_l]
  rw [show nI 24 - 23 = 1 by decide]
theorem dd_25 {N : St} (hcc : (ius (N 11 0) 6) &&& 63 = nI 25) : f_X3_ofGroupThree N = f_X3_pair 43 (f_X3_operand N) (f_X3_operand N) 2 (f_X3_isRowToLoad N) N := by
  unfold f_X3_ofGroupThree
  rw [hcc, if_neg (show ¬ nI 25 = 0 by decide), if_neg (show ¬ nI 25 = 1 by decide), if_neg (show ¬ nI 25 = 2 by decide), if_neg (show ¬ nI 25 = 3 by decide), if_neg (show ¬ nI 25 = 4 by decide), if_neg (show ¬ nI 25 = 5 by decide), if_neg (show ¬ nI 25 = 6 by decide), if_neg (show ¬ nI 25 = 7 by decide), if_neg (show ¬ nI 25 = 8 by decide), if_neg (show ¬ nI 25 = 9 by decide), if_neg (show ¬ nI 25 = 10 by decide), if_neg (show ¬ nI 25 = 11 by decide), if_neg (show ¬ nI 25 = 12 by decide), if_neg (show ¬ nI 25 = 13 by decide), if_neg (show ¬ nI 25 = 14 by decide), if_neg (show ¬ nI 25 = 15 by decide), if_neg (show ¬ nI 25 = 16 by decide), if_neg (show ¬ nI 25 = 17 by decide), if_neg (show ¬ nI 25 = 18 by decide), if_neg (show ¬ nI 25 = 19 by decide), if_neg (show ¬ nI 25 = 20 by decide), if_neg (show ¬ nI 25 = 21 by decide), if_neg (show ¬ nI 25 = 22 by decide), if_neg (show ¬ nI 25 = 23 by decide), if_neg (show ¬ nI 25 = 24 by decide), if_pos (show nI 25 = 25 from rfl)]
  simp only [f_X3_ofGroupThree_348, f_X3_single, xb_eta]
  rw [show nI 25 - 23 = 2 by decide]
theorem tt_25 {e : Int32} {B : St} : f_X11_three (nI 25) e B = f_X11_loadMany 2 e B := by
  unfold f_X11_three f_X11_three_25
  rw [if_pos (show (19 : Int32) ≤ nI 25 by decide), if_neg (show ¬ nI 25 = 3 by decide), if_neg (show ¬ nI 25 = 4 by decide), if_neg (show ¬ nI 25 = 5 by decide), if_neg (show ¬ nI 25 = 6 by decide), if_neg (show ¬ nI 25 = 7 by decide), if_neg (show ¬ nI 25 = 8 by decide), if_neg (show ¬ nI 25 = 9 by decide), if_neg (show ¬ nI 25 = 10 by decide), if_neg (show ¬ nI 25 = 11 by decide), if_neg (show ¬ nI 25 = 12 by decide), if_neg (show ¬ nI 25 = 13 by decide), if_neg (show ¬ nI 25 = 14 by decide), if_neg (show ¬ nI 25 = 15 by decide), if_neg (show ¬ nI 25 = 16 by decide), if_neg (show ¬ nI 25 = 17 by decide), if_neg (show ¬ nI 25 = 18 by decide), if_neg (show ¬ nI 25 = 19 by decide), if_neg (show ¬ nI 25 = 20 by decide), if_neg (show ¬ nI 25 = 21 by decide), if_neg (show ¬ nI 25 = 22 by decide), if_neg (show ¬ nI 25 = 23 by decide), if_neg (show ¬ nI 25 = 24 by decide), if_pos (show nI 25 = 25 from rfl)]
  simp only [f_X11_three_336, xb_l]
  rw [show nI 25 - 23 = 2 by decide]
theorem dd_26 {N : St} (hcc : (ius (N 11 0) 6) &&& 63 = nI 26) : f_X3_ofGroupThree N = f_X3_pair 46 (f_X3_operand N) (f_X3_operand N) 2 (f_X9_isControl (f_X3_operand N)) N := by
  unfold f_X3_ofGroupThree
  rw [hcc, if_neg (show ¬ nI 26 = 0 by decide), if_neg (show ¬ nI 26 = 1 by decide), if_neg (show ¬ nI 26 = 2 by decide), if_neg (show ¬ nI 26 = 3 by decide), if_neg (show ¬ nI 26 = 4 by decide), if_neg (show ¬ nI 26 = 5 by decide), if_neg (show ¬ nI 26 = 6 by decide), if_neg (show ¬ nI 26 = 7 by decide), if_neg (show ¬ nI 26 = 8 by decide), if_neg (show ¬ nI 26 = 9 by decide), if_neg (show ¬ nI 26 = 10 by decide), if_neg (show ¬ nI 26 = 11 by decide), if_neg (show ¬ nI 26 = 12 by decide), if_neg (show ¬ nI 26 = 13 by decide), if_neg (show ¬ nI 26 = 14 by decide), if_neg (show ¬ nI 26 = 15 by decide), if_neg (show ¬ nI 26 = 16 by decide), if_neg (show ¬ nI 26 = 17 by decide), if_neg (show ¬ nI 26 = 18 by decide), if_neg (show ¬ nI 26 = 19 by decide), if_neg (show ¬ nI 26 = 20 by decide), if_neg (show ¬ nI 26 = 21 by decide), if_neg (show ¬ nI 26 = 22 by decide), if_neg (show ¬ nI 26 = 23 by decide), if_neg (show ¬ nI 26 = 24 by decide), if_neg (show ¬ nI 26 = 25 by decide), if_pos (show nI 26 = 26 from rfl)]
  simp only [f_X3_single, xb_eta]
theorem ll_26 {e : Int32} : f_X11_isLegalThree (nI 26) e = f_X11_fits e 2 4 := by
  unfold f_X11_isLegalThree f_X11_isLegalThree_27
  rw [if_pos (show (19 : Int32) ≤ nI 26 by decide), if_neg (show ¬ nI 26 = 3 by decide), if_neg (show ¬ nI 26 = 4 by decide), if_neg (show ¬ nI 26 = 5 by decide), if_neg (show ¬ nI 26 = 6 by decide), if_neg (show ¬ nI 26 = 7 by decide), if_neg (show ¬ nI 26 = 8 by decide), if_neg (show ¬ nI 26 = 9 by decide), if_neg (show ¬ nI 26 = 10 by decide), if_neg (show ¬ nI 26 = 11 by decide), if_neg (show ¬ nI 26 = 12 by decide), if_neg (show ¬ nI 26 = 13 by decide), if_neg (show ¬ nI 26 = 14 by decide), if_neg (show ¬ nI 26 = 15 by decide), if_neg (show ¬ nI 26 = 16 by decide), if_neg (show ¬ nI 26 = 17 by decide), if_neg (show ¬ nI 26 = 18 by decide), if_neg (show ¬ nI 26 = 19 by decide), if_neg (show ¬ nI 26 = 20 by decide), if_neg (show ¬ nI 26 = 21 by decide), if_neg (show ¬ nI 26 = 22 by decide), if_neg (show ¬ nI 26 = 23 by decide), if_neg (show ¬ nI 26 = 24 by decide), if_neg (show ¬ nI 26 = 25 by decide), if_pos (show nI 26 = 26 from rfl)]
  rfl
theorem tt_26 {e : Int32} {B : St} : f_X11_three (nI 26) e B = xup (f_X11_push 2 ((f_X11_find e 2 B) 15 17) (f_X11_find e 2 B)) 15 17 ((f_X11_push 2 ((f_X11_find e 2 B) 15 17) (f_X11_find e 2 B)) 14 26) := by
  unfold f_X11_three f_X11_three_25
  rw [if_pos (show (19 : Int32) ≤ nI 26 by decide), if_neg (show ¬ nI 26 = 3 by decide), if_neg (show ¬ nI 26 = 4 by decide), if_neg (show ¬ nI 26 = 5 by decide), if_neg (show ¬ nI 26 = 6 by decide), if_neg (show ¬ nI 26 = 7 by decide), if_neg (show ¬ nI 26 = 8 by decide), if_neg (show ¬ nI 26 = 9 by decide), if_neg (show ¬ nI 26 = 10 by decide), if_neg (show ¬ nI 26 = 11 by decide), if_neg (show ¬ nI 26 = 12 by decide), if_neg (show ¬ nI 26 = 13 by decide), if_neg (show ¬ nI 26 = 14 by decide), if_neg (show ¬ nI 26 = 15 by decide), if_neg (show ¬ nI 26 = 16 by decide), if_neg (show ¬ nI 26 = 17 by decide), if_neg (show ¬ nI 26 = 18 by decide), if_neg (show ¬ nI 26 = 19 by decide), if_neg (show ¬ nI 26 = 20 by decide), if_neg (show ¬ nI 26 = 21 by decide), if_neg (show ¬ nI 26 = 22 by decide), if_neg (show ¬ nI 26 = 23 by decide), if_neg (show ¬ nI 26 = 24 by decide), if_neg (show ¬ nI 26 = 25 by decide), if_pos (show nI 26 = 26 from rfl)]
  simp only [f_X11_three_348, f_X11_three_372, xb_l]
  rw [if_pos (show nI 26 = 26 from rfl)]
theorem dd_27 {N : St} (hcc : (ius (N 11 0) 6) &&& 63 = nI 27) : f_X3_ofGroupThree N = f_X3_pair 47 (f_X3_operand N) (f_X3_operand N) 2 (f_X9_isControl (f_X3_operand N)) N := by
  unfold f_X3_ofGroupThree
  rw [hcc, if_neg (show ¬ nI 27 = 0 by decide), if_neg (show ¬ nI 27 = 1 by decide), if_neg (show ¬ nI 27 = 2 by decide), if_neg (show ¬ nI 27 = 3 by decide), if_neg (show ¬ nI 27 = 4 by decide), if_neg (show ¬ nI 27 = 5 by decide), if_neg (show ¬ nI 27 = 6 by decide), if_neg (show ¬ nI 27 = 7 by decide), if_neg (show ¬ nI 27 = 8 by decide), if_neg (show ¬ nI 27 = 9 by decide), if_neg (show ¬ nI 27 = 10 by decide), if_neg (show ¬ nI 27 = 11 by decide), if_neg (show ¬ nI 27 = 12 by decide), if_neg (show ¬ nI 27 = 13 by decide), if_neg (show ¬ nI 27 = 14 by decide), if_neg (show ¬ nI 27 = 15 by decide), if_neg (show ¬ nI 27 = 16 by decide), if_neg (show ¬ nI 27 = 17 by decide), if_neg (show ¬ nI 27 = 18 by decide), if_neg (show ¬ nI 27 = 19 by decide), if_neg (show ¬ nI 27 = 20 by decide), if_neg (show ¬ nI 27 = 21 by decide), if_neg (show ¬ nI 27 = 22 by decide), if_neg (show ¬ nI 27 = 23 by decide), if_neg (show ¬ nI 27 = 24 by decide), if_neg (show ¬ nI 27 = 25 by decide), if_neg (show ¬ nI 27 = 26 by decide), if_pos (show nI 27 = 27 from rfl)]
  simp only [f_X3_single, xb_eta]
theorem ll_27 {e : Int32} : f_X11_isLegalThree (nI 27) e = f_X11_fits e 2 4 := by
  unfold f_X11_isLegalThree f_X11_isLegalThree_27
  rw [if_pos (show (19 : Int32) ≤ nI 27 by decide), if_neg (show ¬ nI 27 = 3 by decide), if_neg (show ¬ nI 27 = 4 by decide), if_neg (show ¬ nI 27 = 5 by decide), if_neg (show ¬ nI 27 = 6 by decide), if_neg (show ¬ nI 27 = 7 by decide), if_neg (show ¬ nI 27 = 8 by decide), if_neg (show ¬ nI 27 = 9 by decide), if_neg (show ¬ nI 27 = 10 by decide), if_neg (show ¬ nI 27 = 11 by decide), if_neg (show ¬ nI 27 = 12 by decide), if_neg (show ¬ nI 27 = 13 by decide), if_neg (show ¬ nI 27 = 14 by decide), if_neg (show ¬ nI 27 = 15 by decide), if_neg (show ¬ nI 27 = 16 by decide), if_neg (show ¬ nI 27 = 17 by decide), if_neg (show ¬ nI 27 = 18 by decide), if_neg (show ¬ nI 27 = 19 by decide), if_neg (show ¬ nI 27 = 20 by decide), if_neg (show ¬ nI 27 = 21 by decide), if_neg (show ¬ nI 27 = 22 by decide), if_neg (show ¬ nI 27 = 23 by decide), if_neg (show ¬ nI 27 = 24 by decide), if_neg (show ¬ nI 27 = 25 by decide), if_neg (show ¬ nI 27 = 26 by decide), if_pos (show nI 27 = 27 from rfl)]
  rfl
theorem tt_27 {e : Int32} {B : St} : f_X11_three (nI 27) e B = xup (f_X11_find e 2 B) 15 17 ((f_X11_find e 2 B) 14 26) := by
  unfold f_X11_three f_X11_three_25
  rw [if_pos (show (19 : Int32) ≤ nI 27 by decide), if_neg (show ¬ nI 27 = 3 by decide), if_neg (show ¬ nI 27 = 4 by decide), if_neg (show ¬ nI 27 = 5 by decide), if_neg (show ¬ nI 27 = 6 by decide), if_neg (show ¬ nI 27 = 7 by decide), if_neg (show ¬ nI 27 = 8 by decide), if_neg (show ¬ nI 27 = 9 by decide), if_neg (show ¬ nI 27 = 10 by decide), if_neg (show ¬ nI 27 = 11 by decide), if_neg (show ¬ nI 27 = 12 by decide), if_neg (show ¬ nI 27 = 13 by decide), if_neg (show ¬ nI 27 = 14 by decide), if_neg (show ¬ nI 27 = 15 by decide), if_neg (show ¬ nI 27 = 16 by decide), if_neg (show ¬ nI 27 = 17 by decide), if_neg (show ¬ nI 27 = 18 by decide), if_neg (show ¬ nI 27 = 19 by decide), if_neg (show ¬ nI 27 = 20 by decide), if_neg (show ¬ nI 27 = 21 by decide), if_neg (show ¬ nI 27 = 22 by decide), if_neg (show ¬ nI 27 = 23 by decide), if_neg (show ¬ nI 27 = 24 by decide), if_neg (show ¬ nI 27 = 25 by decide), if_neg (show ¬ nI 27 = 26 by decide), if_pos (show nI 27 = 27 from rfl)]
  simp only [f_X11_three_348, f_X11_three_372, xb_l]
  rw [if_neg (show ¬ nI 27 = 26 by decide)]
theorem dd_28 {N : St} (hcc : (ius (N 11 0) 6) &&& 63 = nI 28) : f_X3_ofGroupThree N = (f_X3_withoutOperands N, N) := by
  unfold f_X3_ofGroupThree
  rw [hcc, if_neg (show ¬ nI 28 = 0 by decide), if_neg (show ¬ nI 28 = 1 by decide), if_neg (show ¬ nI 28 = 2 by decide), if_neg (show ¬ nI 28 = 3 by decide), if_neg (show ¬ nI 28 = 4 by decide), if_neg (show ¬ nI 28 = 5 by decide), if_neg (show ¬ nI 28 = 6 by decide), if_neg (show ¬ nI 28 = 7 by decide), if_neg (show ¬ nI 28 = 8 by decide), if_neg (show ¬ nI 28 = 9 by decide), if_neg (show ¬ nI 28 = 10 by decide), if_neg (show ¬ nI 28 = 11 by decide), if_neg (show ¬ nI 28 = 12 by decide), if_neg (show ¬ nI 28 = 13 by decide), if_neg (show ¬ nI 28 = 14 by decide), if_neg (show ¬ nI 28 = 15 by decide), if_neg (show ¬ nI 28 = 16 by decide), if_neg (show ¬ nI 28 = 17 by decide), if_neg (show ¬ nI 28 = 18 by decide), if_neg (show ¬ nI 28 = 19 by decide), if_neg (show ¬ nI 28 = 20 by decide), if_neg (show ¬ nI 28 = 21 by decide), if_neg (show ¬ nI 28 = 22 by decide), if_neg (show ¬ nI 28 = 23 by decide), if_neg (show ¬ nI 28 = 24 by decide), if_neg (show ¬ nI 28 = 25 by decide), if_neg (show ¬ nI 28 = 26 by decide), if_neg (show ¬ nI 28 = 27 by decide), if_pos (show nI 28 = 28 from rfl)]

theorem tt_28 {e : Int32} {B : St} : f_X11_three (nI 28) e B = f_X11_system e B := by
  unfold f_X11_three f_X11_three_25
  rw [if_pos (show (19 : Int32) ≤ nI 28 by decide), if_neg (show ¬ nI 28 = 3 by decide), if_neg (show ¬ nI 28 = 4 by decide), if_neg (show ¬ nI 28 = 5 by decide), if_neg (show ¬ nI 28 = 6 by decide), if_neg (show ¬ nI 28 = 7 by decide), if_neg (show ¬ nI 28 = 8 by decide), if_neg (show ¬ nI 28 = 9 by decide), if_neg (show ¬ nI 28 = 10 by decide), if_neg (show ¬ nI 28 = 11 by decide), if_neg (show ¬ nI 28 = 12 by decide), if_neg (show ¬ nI 28 = 13 by decide), if_neg (show ¬ nI 28 = 14 by decide), if_neg (show ¬ nI 28 = 15 by decide), if_neg (show ¬ nI 28 = 16 by decide), if_neg (show ¬ nI 28 = 17 by decide), if_neg (show ¬ nI 28 = 18 by decide), if_neg (show ¬ nI 28 = 19 by decide), if_neg (show ¬ nI 28 = 20 by decide), if_neg (show ¬ nI 28 = 21 by decide), if_neg (show ¬ nI 28 = 22 by decide), if_neg (show ¬ nI 28 = 23 by decide), if_neg (show ¬ nI 28 = 24 by decide), if_neg (show ¬ nI 28 = 25 by decide), if_neg (show ¬ nI 28 = 26 by decide), if_neg (show ¬ nI 28 = 27 by decide)]
  simp only [f_X11_three_386, xb_l]
theorem sy6 {l : Nat} {B : St} (hl : l < 8) : f_X11_system (eB 6 l) B = f_X11_rest (eB 6 l) B := by
  unfold f_X11_system
  rw [eBm (by decide) hl, if_neg (show ¬ nI 6 = 0 by decide), if_neg (show ¬ nI 6 = 1 by decide), if_neg (show ¬ nI 6 = 2 by decide), if_neg (show ¬ nI 6 = 3 by decide), if_neg (show ¬ nI 6 = 4 by decide), if_neg (show ¬ nI 6 = 5 by decide), xb_l]
theorem rs_0 {B : St} : f_X11_rest (eB 6 0) B = xup (xup (xup B 14 9 0) 14 10 0) 14 11 0 := by
  simp only [f_X11_rest, f_X11_rest_21, f_X11_rest_40, f_X11_rest_52, f_X11_rest_94, f_X11_rest_102, f_X11_rest_120, xb_l, if_pos (show eB 6 0 = 48 by decide), if_neg (show ¬ eB 6 0 = 50 by decide), if_neg (show ¬ eB 6 0 = 51 by decide), if_neg (show ¬ eB 6 0 = 53 by decide), if_neg (show ¬ eB 6 0 = 54 by decide), if_neg (show ¬ eB 6 0 = 55 by decide)]
theorem rs_1 {B : St} : f_X11_rest (eB 6 1) B = B := by
  simp only [f_X11_rest, f_X11_rest_21, f_X11_rest_40, f_X11_rest_52, f_X11_rest_94, f_X11_rest_102, f_X11_rest_120, xb_l, if_neg (show ¬ eB 6 1 = 48 by decide), if_neg (show ¬ eB 6 1 = 50 by decide), if_neg (show ¬ eB 6 1 = 51 by decide), if_neg (show ¬ eB 6 1 = 53 by decide), if_neg (show ¬ eB 6 1 = 54 by decide), if_neg (show ¬ eB 6 1 = 55 by decide)]
theorem rs_2 {B : St} : f_X11_rest (eB 6 2) B = (xb (f_X11_fetch B) fun q6 => xup (f_X11_setStatus q6.1 q6.2) 14 24 1) := by
  simp only [f_X11_rest, f_X11_rest_21, f_X11_rest_40, f_X11_rest_52, f_X11_rest_94, f_X11_rest_102, f_X11_rest_120, xb_l, if_neg (show ¬ eB 6 2 = 48 by decide), if_pos (show eB 6 2 = 50 by decide), if_neg (show ¬ eB 6 2 = 51 by decide), if_neg (show ¬ eB 6 2 = 53 by decide), if_neg (show ¬ eB 6 2 = 54 by decide), if_neg (show ¬ eB 6 2 = 55 by decide)]
theorem rs_3 {B : St} : f_X11_rest (eB 6 3) B = (xb (f_X11_pull 1 B) fun q17 => xb (f_X11_pull 2 q17.2) fun q20 => xup (f_X11_setStatus q17.1 q20.2) 15 17 q20.1) := by
  simp only [f_X11_rest, f_X11_rest_21, f_X11_rest_40, f_X11_rest_52, f_X11_rest_94, f_X11_rest_102, f_X11_rest_120, xb_l, if_neg (show ¬ eB 6 3 = 48 by decide), if_neg (show ¬ eB 6 3 = 50 by decide), if_pos (show eB 6 3 = 51 by decide), if_neg (show ¬ eB 6 3 = 53 by decide), if_neg (show ¬ eB 6 3 = 54 by decide), if_neg (show ¬ eB 6 3 = 55 by decide)]
theorem rs_5 {B : St} : f_X11_rest (eB 6 5) B = (xb (f_X11_pull 2 B) fun q => xup q.2 15 17 q.1) := by
  simp only [f_X11_rest, f_X11_rest_21, f_X11_rest_40, f_X11_rest_52, f_X11_rest_94, f_X11_rest_102, f_X11_rest_120, xb_l, if_neg (show ¬ eB 6 5 = 48 by decide), if_neg (show ¬ eB 6 5 = 50 by decide), if_neg (show ¬ eB 6 5 = 51 by decide), if_pos (show eB 6 5 = 53 by decide), if_neg (show ¬ eB 6 5 = 54 by decide), if_neg (show ¬ eB 6 5 = 55 by decide)]
theorem rs_6 {B : St} : f_X11_rest (eB 6 6) B = (if (f_X11_has 2 B) = 0 then B else (xup B 14 23 7)) := by
  simp only [f_X11_rest, f_X11_rest_21, f_X11_rest_40, f_X11_rest_52, f_X11_rest_94, f_X11_rest_102, f_X11_rest_120, xb_l, if_neg (show ¬ eB 6 6 = 48 by decide), if_neg (show ¬ eB 6 6 = 50 by decide), if_neg (show ¬ eB 6 6 = 51 by decide), if_neg (show ¬ eB 6 6 = 53 by decide), if_pos (show eB 6 6 = 54 by decide), if_neg (show ¬ eB 6 6 = 55 by decide)]
theorem rs_7 {B : St} : f_X11_rest (eB 6 7) B = (xb (f_X11_pull 1 B) fun q17 => xb (f_X11_pull 2 q17.2) fun q20 => xup (xup q20.2 14 2 (((q20.2 14 2) &&& (-32)) ||| (q17.1 &&& 31))) 15 17 q20.1) := by
  simp only [f_X11_rest, f_X11_rest_21, f_X11_rest_40, f_X11_rest_52, f_X11_rest_94, f_X11_rest_102, f_X11_rest_120, xb_l, if_neg (show ¬ eB 6 7 = 48 by decide), if_neg (show ¬ eB 6 7 = 50 by decide), if_neg (show ¬ eB 6 7 = 51 by decide), if_neg (show ¬ eB 6 7 = 53 by decide), if_neg (show ¬ eB 6 7 = 54 by decide), if_pos (show eB 6 7 = 55 by decide)]
