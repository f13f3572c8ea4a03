/-! group 3 -/
theorem EX_3_no {r d z m l c : Nat} {N : St} (h : wB 3 r d z m l) (hc : 8 * r + (4 * d + z) = c) (hn : c = 23 ∨ 29 ≤ c) (hw : N 11 0 = wd 3 r d z m l) : EX (wd 3 r d z m l) (f_X3_ofGroupThree N) := by
  obtain ⟨_, hr, hd, hz, hm, hl8⟩ := id h
  have hlg := lg_3 h
  rw [hc] at hlg
  have c64 : c < 64 := by omega
  have hcc : (ius (N 11 0) 6) &&& 63 = nI c := by rw [hw, (wd_c h).1, hc]
  have g19 : (19 : Int32) ≤ nI c := (nI_leI (a := 19) (b := c) (by decide) (by omega)).mpr (by omega)
  have hl2 : f_X11_isLegal (wd 3 r d z m l) = 0 := by
    rw [hlg]
    unfold f_X11_isLegalThree f_X11_isLegalThree_27 f_X11_isLegalThree_238
    rw [if_pos g19, if_neg (nq_3 (n := c) (by omega) (by omega)), if_neg (nq_4 (n := c) (by omega) (by omega)), if_neg (nq_5 (n := c) (by omega) (by omega)), if_neg (nq_6 (n := c) (by omega) (by omega)), if_neg (nq_7 (n := c) (by omega) (by omega)), if_neg (nq_8 (n := c) (by omega) (by omega)), if_neg (nq_9 (n := c) (by omega) (by omega)), if_neg (nq_10 (n := c) (by omega) (by omega)), if_neg (nq_11 (n := c) (by omega) (by omega)), if_neg (nq_12 (n := c) (by omega) (by omega)), if_neg (nq_13 (n := c) (by omega) (by omega)), if_neg (nq_14 (n := c) (by omega) (by omega)), if_neg (nq_15 (n := c) (by omega) (by omega)), if_neg (nq_16 (n := c) (by omega) (by omega)), if_neg (nq_17 (n := c) (by omega) (by omega)), if_neg (nq_18 (n := c) (by omega) (by omega)), if_neg (nq_19 (n := c) (by omega) (by omega)), if_neg (nq_20 (n := c) (by omega) (by omega)), if_neg (nq_21 (n := c) (by omega) (by omega)), if_neg (nq_22 (n := c) (by omega) (by omega))]
    rcases hn with rfl | hn
    · rfl
    · rw [if_neg (nq_23 (n := c) (by omega) (by omega)), if_neg (nq_24 (n := c) (by omega) (by omega)), if_neg (nq_25 (n := c) (by omega) (by omega)), if_neg (nq_26 (n := c) (by omega) (by omega)), if_neg (nq_27 (n := c) (by omega) (by omega)), if_neg (nq_28 (n := c) (by omega) (by omega))]
  refine (?_ : f_X3_ofGroupThree N = (65, N)) ▸ EX_not hl2
  unfold f_X3_ofGroupThree
  rw [hcc, if_neg (nq_0 (n := c) (by omega) (by omega)), if_neg (nq_1 (n := c) (by omega) (by omega)), if_neg (nq_2 (n := c) (by omega) (by omega)), if_neg (nq_3 (n := c) (by omega) (by omega)), if_neg (nq_4 (n := c) (by omega) (by omega)), if_neg (nq_5 (n := c) (by omega) (by omega)), if_neg (nq_6 (n := c) (by omega) (by omega)), if_neg (nq_7 (n := c) (by omega) (by omega)), if_neg (nq_8 (n := c) (by omega) (by omega)), if_neg (nq_9 (n := c) (by omega) (by omega)), if_neg (nq_10 (n := c) (by omega) (by omega)), if_neg (nq_11 (n := c) (by omega) (by omega)), if_neg (nq_12 (n := c) (by omega) (by omega)), if_neg (nq_13 (n := c) (by omega) (by omega)), if_neg (nq_14 (n := c) (by omega) (by omega)), if_neg (nq_15 (n := c) (by omega) (by omega)), if_neg (nq_16 (n := c) (by omega) (by omega)), if_neg (nq_17 (n := c) (by omega) (by omega)), if_neg (nq_18 (n := c) (by omega) (by omega)), if_neg (nq_19 (n := c) (by omega) (by omega)), if_neg (nq_20 (n := c) (by omega) (by omega)), if_neg (nq_21 (n := c) (by omega) (by omega)), if_neg (nq_22 (n := c) (by omega) (by omega))]
  rcases hn with rfl | hn
  · rfl
  · rw [if_neg (nq_23 (n := c) (by omega) (by omega)), if_neg (nq_24 (n := c) (by omega) (by omega)), if_neg (nq_25 (n := c) (by omega) (by omega)), if_neg (nq_26 (n := c) (by omega) (by omega)), if_neg (nq_27 (n := c) (by omega) (by omega)), if_neg (nq_28 (n := c) (by omega) (by omega))]
theorem EX_3 {r d z m l : Nat} {M : St} (h : wB 3 r d z m l) : EX (wd 3 r d z m l) (f_X3_decode (wd 3 r d z m l) M) := by
  have hw : (xup M 11 0 (wd 3 r d z m l)) 11 0 = wd 3 r d z m l := w11
  rw [dc_3 h]
  have hb := h
  unfold wB at hb
  by_cases hn : 8 * r + (4 * d + z) = 23 ∨ 29 ≤ 8 * r + (4 * d + z)
  · exact EX_3_no h rfl hn hw
  by_cases c0 : 8 * r + (4 * d + z) = 0
  · exact EX_3_0 h c0 hw
  by_cases c1 : 8 * r + (4 * d + z) = 1
  · exact EX_3_1 h c1 hw
  by_cases c2 : 8 * r + (4 * d + z) = 2
  · exact EX_3_2 h c2 hw
  by_cases c3 : 8 * r + (4 * d + z) = 3
  · exact EX_3_3 h c3 hw
  by_cases c4 : 8 * r + (4 * d + z) = 4
  · exact EX_3_4 h c4 hw
  by_cases c5 : 8 * r + (4 * d + z) = 5
  · exact EX_3_5 h c5 hw
  by_cases c6 : 8 * r + (4 * d + z) = 6
  · exact EX_3_6 h c6 hw
  by_cases c7 : 8 * r + (4 * d + z) = 7
  · exact EX_3_7 h c7 hw
  by_cases c8 : 8 * r + (4 * d + z) = 8
  · exact EX_3_8 h c8 hw
  by_cases c9 : 8 * r + (4 * d + z) = 9
  · exact EX_3_9 h c9 hw
  by_cases c10 : 8 * r + (4 * d + z) = 10
  · exact EX_3_10 h c10 hw
  by_cases c11 : 8 * r + (4 * d + z) = 11
  · exact EX_3_11 h c11 hw
  by_cases c12 : 8 * r + (4 * d + z) = 12
  · exact EX_3_12 h c12 hw
  by_cases c13 : 8 * r + (4 * d + z) = 13
  · exact EX_3_13 h c13 hw
  by_cases c14 : 8 * r + (4 * d + z) = 14
  · exact EX_3_14 h c14 hw
  by_cases c15 : 8 * r + (4 * d + z) = 15
  · exact EX_3_15 h c15 hw
  by_cases c16 : 8 * r + (4 * d + z) = 16
  · exact EX_3_16 h c16 hw
  by_cases c17 : 8 * r + (4 * d + z) = 17
  · exact EX_3_17 h c17 hw
  by_cases c18 : 8 * r + (4 * d + z) = 18
  · exact EX_3_18 h c18 hw
  by_cases c19 : 8 * r + (4 * d + z) = 19
  · exact EX_3_19 h c19 hw
  by_cases c20 : 8 * r + (4 * d + z) = 20
  · exact EX_3_20 h c20 hw
  by_cases c21 : 8 * r + (4 * d + z) = 21
  · exact EX_3_21 h c21 hw
  by_cases c22 : 8 * r + (4 * d + z) = 22
  · exact EX_3_22 h c22 hw
  by_cases c24 : 8 * r + (4 * d + z) = 24
  · exact EX_3_24 h c24 hw
  by_cases c25 : 8 * r + (4 * d + z) = 25
  · exact EX_3_25 h c25 hw
  by_cases c26 : 8 * r + (4 * d + z) = 26
  · exact EX_3_26 h c26 hw
  by_cases c27 : 8 * r + (4 * d + z) = 27
  · exact EX_3_27 h c27 hw
  by_cases c28 : 8 * r + (4 * d + z) = 28
  · exact EX_3_28 h c28 hw
  omega
