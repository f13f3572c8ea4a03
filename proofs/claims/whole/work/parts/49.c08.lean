-- X4_perform
def e_X4_perform_1 : List xI := [(0, .aload_n 0, 1, .null), (1, .iconst 0, 1, .int 0), (2, .putfield 43, 3, .null), (5, .aload_n 0, 1, .null), (6, .iconst 0, 1, .int 0), (7, .putfield 47, 3, .null)]
theorem e_X4_perform_1_k : e_X4_perform_1.all (fun q => xokB cX4_perform q && xokL q) = true := by decide +kernel
def e_X4_perform_2 : List xI := [(13, .aload_n 1, 1, .null)]
theorem e_X4_perform_2_k : e_X4_perform_2.all (fun q => xokB cX4_perform q && xokL q) = true := by decide +kernel
def e_X4_perform_3 : List xI := [(249, .aload_n 0, 1, .null), (250, .aload_n 0, 1, .null)]
theorem e_X4_perform_3_k : e_X4_perform_3.all (fun q => xokB cX4_perform q && xokL q) = true := by decide +kernel
def e_X4_perform_4 : List xI := [(212, .aload_n 0, 1, .null), (213, .aload_n 0, 1, .null), (214, .getfield 39, 3, .null), (217, .aload_n 0, 1, .null)]
theorem e_X4_perform_4_k : e_X4_perform_4.all (fun q => xokB cX4_perform q && xokL q) = true := by decide +kernel
def e_X4_perform_5 : List xI := [(221, .aload_n 0, 1, .null), (222, .getfield 30, 3, .null), (225, .getfield 65, 3, .null)]
theorem e_X4_perform_5_k : e_X4_perform_5.all (fun q => xokB cX4_perform q && xokL q) = true := by decide +kernel
def e_X4_perform_6 : List xI := [(272, .aload_n 0, 1, .null), (273, .aload_n 0, 1, .null)]
theorem e_X4_perform_6_k : e_X4_perform_6.all (fun q => xokB cX4_perform q && xokL q) = true := by decide +kernel
def e_X4_perform_7 : List xI := [(283, .aload_n 0, 1, .null), (284, .aload_n 0, 1, .null)]
theorem e_X4_perform_7_k : e_X4_perform_7.all (fun q => xokB cX4_perform q && xokL q) = true := by decide +kernel
def e_X4_perform_8 : List xI := [(294, .aload_n 0, 1, .null), (295, .aload_n 0, 1, .null)]
theorem e_X4_perform_8_k : e_X4_perform_8.all (fun q => xokB cX4_perform q && xokL q) = true := by decide +kernel
def e_X4_perform_9 : List xI := [(305, .aload_n 0, 1, .null), (306, .aload_n 0, 1, .null)]
theorem e_X4_perform_9_k : e_X4_perform_9.all (fun q => xokB cX4_perform q && xokL q) = true := by decide +kernel
def e_X4_perform_10 : List xI := [(310, .iconst 1, 1, .int 1)]
theorem e_X4_perform_10_k : e_X4_perform_10.all (fun q => xokB cX4_perform q && xokL q) = true := by decide +kernel
def e_X4_perform_11 : List xI := [(320, .aload_n 0, 1, .null)]
theorem e_X4_perform_11_k : e_X4_perform_11.all (fun q => xokB cX4_perform q && xokL q) = true := by decide +kernel
def e_X4_perform_12 : List xI := [(324, .aload_n 0, 1, .null)]
theorem e_X4_perform_12_k : e_X4_perform_12.all (fun q => xokB cX4_perform q && xokL q) = true := by decide +kernel
def e_X4_perform_13 : List xI := [(334, .aload_n 0, 1, .null)]
theorem e_X4_perform_13_k : e_X4_perform_13.all (fun q => xokB cX4_perform q && xokL q) = true := by decide +kernel
def e_X4_perform_14 : List xI := [(338, .aload_n 0, 1, .null)]
theorem e_X4_perform_14_k : e_X4_perform_14.all (fun q => xokB cX4_perform q && xokL q) = true := by decide +kernel
def e_X4_perform_15 : List xI := [(348, .aload_n 0, 1, .null), (349, .aload_n 0, 1, .null), (350, .getfield 21, 3, .null), (353, .aload_n 0, 1, .null), (354, .getfield 30, 3, .null)]
theorem e_X4_perform_15_k : e_X4_perform_15.all (fun q => xokB cX4_perform q && xokL q) = true := by decide +kernel
def e_X4_perform_16 : List xI := [(360, .iaload, 1, .null)]
theorem e_X4_perform_16_k : e_X4_perform_16.all (fun q => xokB cX4_perform q && xokL q) = true := by decide +kernel
def e_X4_perform_17 : List xI := [(367, .aload_n 0, 1, .null), (368, .aload_n 0, 1, .null), (369, .getfield 26, 3, .null), (372, .iconst 1, 1, .int 1)]
theorem e_X4_perform_17_k : e_X4_perform_17.all (fun q => xokB cX4_perform q && xokL q) = true := by decide +kernel
def e_X4_perform_18 : List xI := [(382, .aload_n 0, 1, .null)]
theorem e_X4_perform_18_k : e_X4_perform_18.all (fun q => xokB cX4_perform q && xokL q) = true := by decide +kernel
def e_X4_perform_19 : List xI := [(389, .aload_n 0, 1, .null)]
theorem e_X4_perform_19_k : e_X4_perform_19.all (fun q => xokB cX4_perform q && xokL q) = true := by decide +kernel
def e_X4_perform_20 : List xI := [(396, .aload_n 0, 1, .null)]
theorem e_X4_perform_20_k : e_X4_perform_20.all (fun q => xokB cX4_perform q && xokL q) = true := by decide +kernel
def e_X4_perform_21 : List xI := [(406, .aload_n 0, 1, .null)]
theorem e_X4_perform_21_k : e_X4_perform_21.all (fun q => xokB cX4_perform q && xokL q) = true := by decide +kernel
def e_X4_perform_22 : List xI := [(416, .aload_n 0, 1, .null)]
theorem e_X4_perform_22_k : e_X4_perform_22.all (fun q => xokB cX4_perform q && xokL q) = true := by decide +kernel
def e_X4_perform_23 : List xI := [(426, .aload_n 0, 1, .null), (427, .aload_n 0, 1, .null), (428, .getfield 39, 3, .null), (431, .iconst 0, 1, .int 0), (432, .aload_n 0, 1, .null), (433, .getfield 30, 3, .null), (436, .getfield 65, 3, .null)]
theorem e_X4_perform_23_k : e_X4_perform_23.all (fun q => xokB cX4_perform q && xokL q) = true := by decide +kernel
def e_X4_perform_24 : List xI := [(448, .aload_n 0, 1, .null)]
theorem e_X4_perform_24_k : e_X4_perform_24.all (fun q => xokB cX4_perform q && xokL q) = true := by decide +kernel
def e_X4_perform_25 : List xI := [(455, .aload_n 0, 1, .null)]
theorem e_X4_perform_25_k : e_X4_perform_25.all (fun q => xokB cX4_perform q && xokL q) = true := by decide +kernel
def e_X4_perform_26 : List xI := [(462, .aload_n 0, 1, .null), (463, .getfield 39, 3, .null), (466, .aload_n 0, 1, .null)]
theorem e_X4_perform_26_k : e_X4_perform_26.all (fun q => xokB cX4_perform q && xokL q) = true := by decide +kernel
def e_X4_perform_27 : List xI := [(470, .aload_n 0, 1, .null), (471, .getfield 30, 3, .null), (474, .getfield 65, 3, .null)]
theorem e_X4_perform_27_k : e_X4_perform_27.all (fun q => xokB cX4_perform q && xokL q) = true := by decide +kernel
def e_X4_perform_28 : List xI := [(480, .pop, 1, .null)]
theorem e_X4_perform_28_k : e_X4_perform_28.all (fun q => xokB cX4_perform q && xokL q) = true := by decide +kernel
def e_X4_perform_29 : List xI := [(484, .aload_n 0, 1, .null)]
theorem e_X4_perform_29_k : e_X4_perform_29.all (fun q => xokB cX4_perform q && xokL q) = true := by decide +kernel
def e_X4_perform_30 : List xI := [(491, .aload_n 0, 1, .null), (492, .aload_n 0, 1, .null), (493, .getfield 9, 3, .null), (496, .aload_n 0, 1, .null), (497, .getfield 30, 3, .null)]
theorem e_X4_perform_30_k : e_X4_perform_30.all (fun q => xokB cX4_perform q && xokL q) = true := by decide +kernel
def e_X4_perform_31 : List xI := [(515, .iconst 0, 1, .int 0)]
theorem e_X4_perform_31_k : e_X4_perform_31.all (fun q => xokB cX4_perform q && xokL q) = true := by decide +kernel
def e_X4_perform_32 : List xI := [(509, .sipush 255, 3, .int 255)]
theorem e_X4_perform_32_k : e_X4_perform_32.all (fun q => xokB cX4_perform q && xokL q) = true := by decide +kernel
def e_X4_perform_33 : List xI := [(522, .aload_n 0, 1, .null), (523, .aload_n 0, 1, .null), (524, .getfield 21, 3, .null), (527, .bipush 18, 2, .int 18), (529, .iaload, 1, .null)]
theorem e_X4_perform_33_k : e_X4_perform_33.all (fun q => xokB cX4_perform q && xokL q) = true := by decide +kernel
def e_X4_perform_34 : List xI := [(536, .aload_n 0, 1, .null), (537, .getfield 9, 3, .null), (540, .bipush 31, 2, .int 31), (542, .aload_n 0, 1, .null)]
theorem e_X4_perform_34_k : e_X4_perform_34.all (fun q => xokB cX4_perform q && xokL q) = true := by decide +kernel
def e_X4_perform_35 : List xI := [(552, .aload_n 0, 1, .null), (553, .getfield 9, 3, .null), (556, .aload_n 0, 1, .null)]
theorem e_X4_perform_35_k : e_X4_perform_35.all (fun q => xokB cX4_perform q && xokL q) = true := by decide +kernel
def e_X4_perform_36 : List xI := [(566, .aload_n 0, 1, .null)]
theorem e_X4_perform_36_k : e_X4_perform_36.all (fun q => xokB cX4_perform q && xokL q) = true := by decide +kernel
def e_X4_perform_37 : List xI := [(573, .aload_n 0, 1, .null)]
theorem e_X4_perform_37_k : e_X4_perform_37.all (fun q => xokB cX4_perform q && xokL q) = true := by decide +kernel
def e_X4_perform_38 : List xI := [(580, .aload_n 0, 1, .null), (581, .getfield 21, 3, .null), (584, .bipush 8, 2, .int 8), (586, .aload_n 0, 1, .null), (587, .getfield 30, 3, .null)]
theorem e_X4_perform_38_k : e_X4_perform_38.all (fun q => xokB cX4_perform q && xokL q) = true := by decide +kernel
def e_X4_perform_39 : List xI := [(593, .iadd, 1, .null), (594, .aload_n 0, 1, .null)]
theorem e_X4_perform_39_k : e_X4_perform_39.all (fun q => xokB cX4_perform q && xokL q) = true := by decide +kernel
def e_X4_perform_40 : List xI := [(598, .iastore, 1, .null)]
theorem e_X4_perform_40_k : e_X4_perform_40.all (fun q => xokB cX4_perform q && xokL q) = true := by decide +kernel
def e_X4_perform_41 : List xI := [(602, .aload_n 0, 1, .null), (603, .getfield 26, 3, .null), (606, .iconst 2, 1, .int 2), (607, .aload_n 0, 1, .null)]
theorem e_X4_perform_41_k : e_X4_perform_41.all (fun q => xokB cX4_perform q && xokL q) = true := by decide +kernel
def e_X4_perform_42 : List xI := [(617, .aload_n 0, 1, .null), (618, .aload_n 0, 1, .null)]
theorem e_X4_perform_42_k : e_X4_perform_42.all (fun q => xokB cX4_perform q && xokL q) = true := by decide +kernel
def e_X4_perform_43 : List xI := [(628, .aload_n 0, 1, .null), (629, .getfield 21, 3, .null), (632, .bipush 17, 2, .int 17), (634, .aload_n 0, 1, .null)]
theorem e_X4_perform_43_k : e_X4_perform_43.all (fun q => xokB cX4_perform q && xokL q) = true := by decide +kernel
def e_X4_perform_44 : List xI := [(638, .iastore, 1, .null)]
theorem e_X4_perform_44_k : e_X4_perform_44.all (fun q => xokB cX4_perform q && xokL q) = true := by decide +kernel
def e_X4_perform_45 : List xI := [(642, .aload_n 0, 1, .null)]
theorem e_X4_perform_45_k : e_X4_perform_45.all (fun q => xokB cX4_perform q && xokL q) = true := by decide +kernel
def e_X4_perform_46 : List xI := [(649, .aload_n 0, 1, .null)]
theorem e_X4_perform_46_k : e_X4_perform_46.all (fun q => xokB cX4_perform q && xokL q) = true := by decide +kernel
def e_X4_perform_47 : List xI := [(656, .aload_n 0, 1, .null)]
theorem e_X4_perform_47_k : e_X4_perform_47.all (fun q => xokB cX4_perform q && xokL q) = true := by decide +kernel
def e_X4_perform_48 : List xI := [(663, .aload_n 0, 1, .null), (664, .aload_n 1, 1, .null)]
theorem e_X4_perform_48_k : e_X4_perform_48.all (fun q => xokB cX4_perform q && xokL q) = true := by decide +kernel
def e_X4_perform_49 : List xI := [(237, .aload_n 0, 1, .null), (238, .aload_n 1, 1, .null), (239, .aload_n 0, 1, .null)]
theorem e_X4_perform_49_k : e_X4_perform_49.all (fun q => xokB cX4_perform q && xokL q) = true := by decide +kernel
def e_X4_perform_50 : List xI := [(260, .aload_n 0, 1, .null), (261, .aload_n 1, 1, .null), (262, .aload_n 0, 1, .null)]
theorem e_X4_perform_50_k : e_X4_perform_50.all (fun q => xokB cX4_perform q && xokL q) = true := by decide +kernel
abbrev P_X4_perform (r : St) (L : Nat → Nat → Int64) : Option Value → xG → Prop := fun v σ' => PoV r L v σ' ∧ InvK INVC r
abbrev R_X4_perform : Room := { frames := 5, cells := 0, slots := 0, locals := 126 }
abbrev C_X4_perform (l : Launch) (r : St) (L : Nat → Nat → Int64) (V : XJ) : Prop := XC l yX4_perform.cls yX4_perform.name cX4_perform 2 R_X4_perform 0 0 fl_X4 kc_X4 LAY.length (xfin none LAY (P_X4_perform r L)) V
def f_X4_perform_237 (x1 : Nat) (M : St) : St := (xb (f_X4_readSource  M) fun q214 => (xb (f_X4_change x1 q214.1 q214.2) fun q217 => q217))
def f_X4_perform_260 (x1 : Nat) (M : St) : St := (xb (f_X4_readSource  M) fun q220 => (xb (f_X4_changeAddress x1 q220.1 q220.2) fun q223 => q223))
def f_X4_perform_516 (s0 : Int32) (M : St) : St := (xb (f_X4_overwrite s0 M) fun q226 => q226)
def f_X4_perform (a1 : Nat) (M : St) : St := (if (opS.getD a1 0) = 1 then f_X4_perform_237 a1 (xup (xup M 12 6 0) 12 7 0) else (if (opS.getD a1 0) = 2 then f_X4_perform_237 a1 (xup (xup M 12 6 0) 12 7 0) else (if (opS.getD a1 0) = 3 then f_X4_perform_237 a1 (xup (xup M 12 6 0) 12 7 0) else (if (opS.getD a1 0) = 4 then f_X4_perform_237 a1 (xup (xup M 12 6 0) 12 7 0) else (if (opS.getD a1 0) = 5 then f_X4_perform_237 a1 (xup (xup M 12 6 0) 12 7 0) else (if (opS.getD a1 0) = 6 then f_X4_perform_237 a1 (xup (xup M 12 6 0) 12 7 0) else (if (opS.getD a1 0) = 7 then (xb (f_X4_readSource  (xup (xup M 12 6 0) 12 7 0)) fun q9 => (xb (f_X4_compare q9.1 q9.2) fun q12 => q12)) else (if (opS.getD a1 0) = 8 then f_X4_perform_237 a1 (xup (xup M 12 6 0) 12 7 0) else (if (opS.getD a1 0) = 9 then f_X4_perform_237 a1 (xup (xup M 12 6 0) 12 7 0) else (if (opS.getD a1 0) = 10 then f_X4_perform_237 a1 (xup (xup M 12 6 0) 12 7 0) else (if (opS.getD a1 0) = 11 then (xb (f_X4_readSource  (xup (xup M 12 6 0) 12 7 0)) fun q19 => (xb (f_X1_tested q19.1 (q19.2 11 1) q19.2) fun q22 => (xb (f_X4_overwrite q22.1 q22.2) fun q25 => q25))) else (if (opS.getD a1 0) = 12 then f_X4_perform_260 a1 (xup (xup M 12 6 0) 12 7 0) else (if (opS.getD a1 0) = 13 then f_X4_perform_260 a1 (xup (xup M 12 6 0) 12 7 0) else (if (opS.getD a1 0) = 14 then f_X4_perform_260 a1 (xup (xup M 12 6 0) 12 7 0) else (if (opS.getD a1 0) = 15 then (xb (f_X4_readSource  (xup (xup M 12 6 0) 12 7 0)) fun q32 => (xb (f_X4_compareAddress q32.1 q32.2) fun q35 => q35)) else (if (opS.getD a1 0) = 16 then (xb (f_X4_readSource  (xup (xup M 12 6 0) 12 7 0)) fun q39 => (xb (f_X4_multiply q39.1 q39.2) fun q42 => q42)) else (if (opS.getD a1 0) = 17 then (xb (f_X4_readSource  (xup (xup M 12 6 0) 12 7 0)) fun q46 => (xb (f_X4_divide q46.1 q46.2) fun q49 => q49)) else (if (opS.getD a1 0) = 18 then (xb (f_X4_readSource  (xup (xup M 12 6 0) 12 7 0)) fun q53 => (xb (f_X4_checkBounds (f_X10_extended q53.1 1) q53.2) fun q59 => q59)) else (if (opS.getD a1 0) = 19 then (xb (f_X4_changeQuick 1 (f_X4_quickNumber  (xup (xup M 12 6 0) 12 7 0)) (xup (xup M 12 6 0) 12 7 0)) fun q66 => q66) else (if (opS.getD a1 0) = 20 then (xb (f_X4_changeQuick 4 (f_X4_quickNumber  (xup (xup M 12 6 0) 12 7 0)) (xup (xup M 12 6 0) 12 7 0)) fun q73 => q73) else (if (opS.getD a1 0) = 21 then (xb (f_X4_changeBit (M 2 (f_X3_upperRegister  (xup (xup M 12 6 0) 12 7 0)).toNatClampNeg) (xup (xup M 12 6 0) 12 7 0)) fun q80 => q80) else (if (opS.getD a1 0) = 22 then (xb (f_X6_fetch 1 (xup (xup M 12 6 0) 12 7 0)) fun q84 => (xb (f_X4_changeBit q84.1 q84.2) fun q87 => q87)) else (if (opS.getD a1 0) = 23 then (xb (f_X4_shiftRegister  (xup (xup M 12 6 0) 12 7 0)) fun q91 => q91) else (if (opS.getD a1 0) = 24 then (xb (f_X4_shiftMemory  (xup (xup M 12 6 0) 12 7 0)) fun q95 => q95) else (if (opS.getD a1 0) = 25 then (xb (f_X4_negate 4 (xup (xup M 12 6 0) 12 7 0)) fun q99 => q99) else (if (opS.getD a1 0) = 26 then (xb (f_X4_negate 5 (xup (xup M 12 6 0) 12 7 0)) fun q103 => q103) else (if (opS.getD a1 0) = 27 then (xb (f_X4_negate 6 (xup (xup M 12 6 0) 12 7 0)) fun q107 => q107) else (if (opS.getD a1 0) = 28 then (xb (f_X1_tested 0 (M 11 1) (xup (xup M 12 6 0) 12 7 0)) fun q111 => (xb (f_X4_overwrite q111.1 q111.2) fun q114 => q114)) else (if (opS.getD a1 0) = 29 then (xb (f_X4_turn  (xup (xup M 12 6 0) 12 7 0)) fun q118 => q118) else (if (opS.getD a1 0) = 30 then (xb (f_X4_extend  (xup (xup M 12 6 0) 12 7 0)) fun q122 => q122) else (if (opS.getD a1 0) = 31 then (xb (f_X4_readSource  (xup (xup M 12 6 0) 12 7 0)) fun q126 => (xb (f_X1_tested q126.1 (q126.2 11 1) q126.2) fun q129 => q129.2)) else (if (opS.getD a1 0) = 32 then (xb (f_X4_testAndSet  (xup (xup M 12 6 0) 12 7 0)) fun q133 => q133) else (if (opS.getD a1 0) = 33 then (xb (f_X8_holds (f_X3_condition  (xup (xup M 12 6 0) 12 7 0)) (xup (xup M 12 6 0) 12 7 0)) fun q140 => (if q140 = 0 then f_X4_perform_516 0 (xup (xup M 12 6 0) 12 7 0) else f_X4_perform_516 255 (xup (xup M 12 6 0) 12 7 0))) else (if (opS.getD a1 0) = 34 then (xb (f_X4_overwrite (M 2 18) (xup (xup M 12 6 0) 12 7 0)) fun q147 => q147) else (if (opS.getD a1 0) = 35 then (xb (f_X4_readSource  (xup (xup M 12 6 0) 12 7 0)) fun q151 => (xb (f_X8_changeFlags 31 q151.1 q151.2) fun q154 => q154)) else (if (opS.getD a1 0) = 36 then (xb (f_X4_readSource  (xup (xup M 12 6 0) 12 7 0)) fun q158 => (xb (f_X8_changeStatus q158.1 q158.2) fun q161 => q161)) else (if (opS.getD a1 0) = 37 then (xb (f_X4_storeMany  (xup (xup M 12 6 0) 12 7 0)) fun q165 => q165) else (if (opS.getD a1 0) = 38 then (xb (f_X4_loadMany  (xup (xup M 12 6 0) 12 7 0)) fun q169 => q169) else (if (opS.getD a1 0) = 39 then (xb (f_X4_address  (xup (xup M 12 6 0) 12 7 0)) fun q176 => (xup q176.2 2 (8 + (f_X3_upperRegister  (xup (xup M 12 6 0) 12 7 0))).toNatClampNeg q176.1)) else (if (opS.getD a1 0) = 40 then (xb (f_X4_address  (xup (xup M 12 6 0) 12 7 0)) fun q181 => (xb (f_X6_push 2 q181.1 q181.2) fun q184 => q184)) else (if (opS.getD a1 0) = 41 then (xb (f_X4_address  (xup (xup M 12 6 0) 12 7 0)) fun q188 => (xb (f_X4_call q188.1 q188.2) fun q191 => q191)) else (if (opS.getD a1 0) = 42 then (xb (f_X4_address  (xup (xup M 12 6 0) 12 7 0)) fun q195 => (xup q195.2 2 17 q195.1)) else (if (opS.getD a1 0) = 43 then (xb (f_X4_branch  (xup (xup M 12 6 0) 12 7 0)) fun q200 => q200) else (if (opS.getD a1 0) = 44 then (xb (f_X4_countDown  (xup (xup M 12 6 0) 12 7 0)) fun q204 => q204) else (if (opS.getD a1 0) = 45 then (xb (f_X4_moveBytes  (xup (xup M 12 6 0) 12 7 0)) fun q208 => q208) else (xb (f_X4_performRest a1 (xup (xup M 12 6 0) 12 7 0)) fun q211 => q211))))))))))))))))))))))))))))))))))))))))))))))
set_option maxRecDepth 20000 in
set_option maxHeartbeats 4000000 in
theorem b_X4_perform_237 {l : Launch} {L : Nat → Nat → Int64} {V : XJ} (r : St) (C : C_X4_perform l r L V) (x1 : Nat) (M : St) (bdx1 : x1 < 66) (hI : InvK INVC M) (h : f_X4_perform_237 x1 M = r) : V 0 0 237 [(0, .ref 12), (1, .ref (1000 + x1))] [] LAY (M, L) := by
  unfold f_X4_perform_237 at h
  refine x_run C e_X4_perform_49 e_X4_perform_49_k (pc' := 240) (lv' := [(0, .ref 12), (1, .ref (1000 + x1))]) (st' := [.ref 12, .ref (1000 + x1), .ref 12]) (σ' := (M, L)) rfl ⟨trivial, trivial, trivial, trivial⟩ ?_
  refine x_callV C (k := 12) (ci := 3) (rest := [.ref (1000 + x1), .ref 12]) (avs := []) (k_X4_readSource l  M L hI) yoX4_readSource ml_X4_62 rfl rfl rfl rfl ⟨Nat.zero_le _, Nat.zero_le _⟩ (show decode cX4_perform 240 = .ok (.invokevirtual 62, 3) from by decide +kernel) rfl (fun v σ' hPo => ?_)
  obtain ⟨⟨rfl, rfl⟩, g215, hI216⟩ := hPo
  generalize hq214 : f_X4_readSource  M = q214 at h g215 hI216 ⊢
  obtain ⟨r214, M214⟩ := q214
  have h := xb_eq h
  try dsimp only at h g215 hI216
  show V 0 0 243 [(0, .ref 12), (1, .ref (1000 + x1))] [.int r214, .ref (1000 + x1), .ref 12] LAY (M214, L)
  refine x_callV C (k := 12) (ci := 3) (rest := []) (avs := [.ref (1000 + x1), .int r214]) (k_X4_change l x1 r214 M214 L bdx1 hI216) yoX4_change ml_X4_78 rfl rfl rfl rfl ⟨Nat.zero_le _, Nat.zero_le _⟩ (show decode cX4_perform 243 = .ok (.invokevirtual 78, 3) from by decide +kernel) rfl (fun v σ' hPo => ?_)
  obtain ⟨⟨rfl, rfl⟩, hI219⟩ := hPo
  generalize hq217 : f_X4_change x1 r214 M214 = q217 at h hI219 ⊢
  have h := xb_eq h
  show V 0 0 246 [(0, .ref 12), (1, .ref (1000 + x1))] [] LAY (q217, L)
  refine x_goto C (show decode cX4_perform 246 = .ok (.goto 422, 3) from by decide +kernel) (tgt := 668) (by decide) ?_
  subst h
  exact x_vret C (show decode cX4_perform 668 = .ok (.return_, 1) from by decide +kernel) (x_finV ⟨⟨rfl, rfl⟩, hI219⟩) (Nat.le_refl 0) (Nat.le_refl 0)
set_option maxRecDepth 20000 in
set_option maxHeartbeats 4000000 in
theorem b_X4_perform_260 {l : Launch} {L : Nat → Nat → Int64} {V : XJ} (r : St) (C : C_X4_perform l r L V) (x1 : Nat) (M : St) (bdx1 : x1 < 66) (hI : InvK INVC M) (h : f_X4_perform_260 x1 M = r) : V 0 0 260 [(0, .ref 12), (1, .ref (1000 + x1))] [] LAY (M, L) := by
  unfold f_X4_perform_260 at h
  refine x_run C e_X4_perform_50 e_X4_perform_50_k (pc' := 263) (lv' := [(0, .ref 12), (1, .ref (1000 + x1))]) (st' := [.ref 12, .ref (1000 + x1), .ref 12]) (σ' := (M, L)) rfl ⟨trivial, trivial, trivial, trivial⟩ ?_
  refine x_callV C (k := 12) (ci := 3) (rest := [.ref (1000 + x1), .ref 12]) (avs := []) (k_X4_readSource l  M L hI) yoX4_readSource ml_X4_62 rfl rfl rfl rfl ⟨Nat.zero_le _, Nat.zero_le _⟩ (show decode cX4_perform 263 = .ok (.invokevirtual 62, 3) from by decide +kernel) rfl (fun v σ' hPo => ?_)
  obtain ⟨⟨rfl, rfl⟩, g221, hI222⟩ := hPo
  generalize hq220 : f_X4_readSource  M = q220 at h g221 hI222 ⊢
  obtain ⟨r220, M220⟩ := q220
  have h := xb_eq h
  try dsimp only at h g221 hI222
  show V 0 0 266 [(0, .ref 12), (1, .ref (1000 + x1))] [.int r220, .ref (1000 + x1), .ref 12] LAY (M220, L)
  refine x_callV C (k := 12) (ci := 3) (rest := []) (avs := [.ref (1000 + x1), .int r220]) (k_X4_changeAddress l x1 r220 M220 L bdx1 hI222) yoX4_changeAddress ml_X4_85 rfl rfl rfl rfl ⟨Nat.zero_le _, Nat.zero_le _⟩ (show decode cX4_perform 266 = .ok (.invokevirtual 85, 3) from by decide +kernel) rfl (fun v σ' hPo => ?_)
  obtain ⟨⟨rfl, rfl⟩, hI225⟩ := hPo
  generalize hq223 : f_X4_changeAddress x1 r220 M220 = q223 at h hI225 ⊢
  have h := xb_eq h
  show V 0 0 269 [(0, .ref 12), (1, .ref (1000 + x1))] [] LAY (q223, L)
  refine x_goto C (show decode cX4_perform 269 = .ok (.goto 399, 3) from by decide +kernel) (tgt := 668) (by decide) ?_
  subst h
  exact x_vret C (show decode cX4_perform 668 = .ok (.return_, 1) from by decide +kernel) (x_finV ⟨⟨rfl, rfl⟩, hI225⟩) (Nat.le_refl 0) (Nat.le_refl 0)
set_option maxRecDepth 20000 in
set_option maxHeartbeats 4000000 in
theorem b_X4_perform_516 {l : Launch} {L : Nat → Nat → Int64} {V : XJ} (r : St) (C : C_X4_perform l r L V) (s0 : Int32) (M : St) (ws0 : xrg 0 255 s0) (hI : InvK INVC M) (h : f_X4_perform_516 s0 M = r) : V 0 0 516 [] [.int s0, .ref 12] LAY (M, L) := by
  unfold f_X4_perform_516 at h
  refine x_callV C (k := 12) (ci := 3) (rest := []) (avs := [.int s0]) (k_X4_overwrite l s0 M L hI) yoX4_overwrite ml_X4_74 rfl rfl rfl rfl ⟨Nat.zero_le _, Nat.zero_le _⟩ (show decode cX4_perform 516 = .ok (.invokevirtual 74, 3) from by decide +kernel) rfl (fun v σ' hPo => ?_)
  obtain ⟨⟨rfl, rfl⟩, hI228⟩ := hPo
  generalize hq226 : f_X4_overwrite s0 M = q226 at h hI228 ⊢
  have h := xb_eq h
  show V 0 0 519 [] [] LAY (q226, L)
  refine x_goto C (show decode cX4_perform 519 = .ok (.goto 149, 3) from by decide +kernel) (tgt := 668) (by decide) ?_
  subst h
  exact x_vret C (show decode cX4_perform 668 = .ok (.return_, 1) from by decide +kernel) (x_finV ⟨⟨rfl, rfl⟩, hI228⟩) (Nat.le_refl 0) (Nat.le_refl 0)
set_option maxRecDepth 20000 in
set_option maxHeartbeats 4000000 in
theorem k_X4_perform (l : Launch) (a1 : Nat) (M : St) (L : Nat → Nat → Int64) (hb1 : a1 < 66) (hI : InvK INVC M) (hdv : a1 = 17 → M 11 1 = 1) : XM l yX4_perform cX4_perform 2 none R_X4_perform LAY [.ref 12, .ref (1000 + a1)] (M, L) (P_X4_perform (f_X4_perform a1 M) L) := by
  refine XM.of (by decide) (Nat.le_of_ble_eq_true rfl) LAY_in cl_ok fl_X4_ok kc_X4_ok (fun V C => ?_)
  obtain ⟨r, h⟩ : ∃ r, f_X4_perform a1 M = r := ⟨_, rfl⟩
  rw [h] at C
  change C_X4_perform l r L V at C
  unfold f_X4_perform at h
  show V 0 0 0 [(0, .ref 12), (1, .ref (1000 + a1))] [] LAY (M, L)
  refine x_run C e_X4_perform_1 e_X4_perform_1_k (pc' := 10) (lv' := [(0, .ref 12), (1, .ref (1000 + a1))]) (st' := []) (σ' := ((xup (xup M 12 6 0) 12 7 0), L)) rfl ⟨trivial, trivial, trivial, trivial, trivial, (x_rgb (x_rgw (x_rgc (x := 0) (k := 0) (by decide)) (lo' := 0) (hi' := 1) (by decide) (by decide))), trivial⟩ ?_
  have hI1 : InvK INVC (xup (xup M 12 6 0) 12 7 0) := ((hI.set 12 6 (x_rgc (x := 0) (k := 0) (by decide)) (by decide)).fld 12 7 0 (by decide))
  refine x_getSw C (x_in 919 (by decide +kernel) rfl) (show decode cX4_perform 10 = .ok (.getstatic 51, 3) from by decide +kernel) ?_
  refine x_run C e_X4_perform_2 e_X4_perform_2_k (pc' := 14) (lv' := [(0, .ref 12), (1, .ref (1000 + a1))]) (st' := [.ref (1000 + a1), .ref 2000]) (σ' := ((xup (xup M 12 6 0) 12 7 0), L)) rfl ⟨trivial, trivial⟩ ?_
  refine x_callU C hb1 (k_ord l a1 hb1 (xup (xup M 12 6 0) 12 7 0) L) ord_code ord_ws4 rfl (by decide +kernel) rfl ⟨Nat.zero_le _, Nat.zero_le _⟩ (show decode cX4_perform 14 = .ok (.invokevirtual 56, 3) from by decide +kernel) (fun v σ' hPo => ?_)
  obtain ⟨rfl, rfl⟩ := hPo
  show V 0 0 17 [(0, .ref 12), (1, .ref (1000 + a1))] [.int (nI a1), .ref 2000] LAY ((xup (xup M 12 6 0) 12 7 0), L)
  refine x_swld C hb1 (show decode cX4_perform 17 = .ok (.iaload, 1) from by decide +kernel) ?_
  by_cases c2 : (opS.getD a1 0) = 1
  · rw [if_pos c2] at h
    refine x_tin C (show decode cX4_perform 18 = .ok (.tableswitch 645 1 45 #[219, 219, 219, 219, 219, 219, 231, 219, 219, 219, 194, 242, 242, 242, 254, 265, 276, 287, 302, 316, 330, 349, 364, 371, 378, 388, 398, 408, 430, 437, 444, 466, 473, 504, 518, 534, 548, 555, 562, 584, 599, 610, 624, 631, 638], 194) from by decide +kernel) 1 c2 (off := 219) (tgt := 237) (by decide) ?_
    exact b_X4_perform_237 r C a1 (xup (xup M 12 6 0) 12 7 0) hb1 hI1 h
  rw [if_neg c2] at h
  by_cases c3 : (opS.getD a1 0) = 2
  · rw [if_pos c3] at h
    refine x_tin C (show decode cX4_perform 18 = .ok (.tableswitch 645 1 45 #[219, 219, 219, 219, 219, 219, 231, 219, 219, 219, 194, 242, 242, 242, 254, 265, 276, 287, 302, 316, 330, 349, 364, 371, 378, 388, 398, 408, 430, 437, 444, 466, 473, 504, 518, 534, 548, 555, 562, 584, 599, 610, 624, 631, 638], 194) from by decide +kernel) 2 c3 (off := 219) (tgt := 237) (by decide) ?_
    exact b_X4_perform_237 r C a1 (xup (xup M 12 6 0) 12 7 0) hb1 hI1 h
  rw [if_neg c3] at h
  by_cases c4 : (opS.getD a1 0) = 3
  · rw [if_pos c4] at h
    refine x_tin C (show decode cX4_perform 18 = .ok (.tableswitch 645 1 45 #[219, 219, 219, 219, 219, 219, 231, 219, 219, 219, 194, 242, 242, 242, 254, 265, 276, 287, 302, 316, 330, 349, 364, 371, 378, 388, 398, 408, 430, 437, 444, 466, 473, 504, 518, 534, 548, 555, 562, 584, 599, 610, 624, 631, 638], 194) from by decide +kernel) 3 c4 (off := 219) (tgt := 237) (by decide) ?_
    exact b_X4_perform_237 r C a1 (xup (xup M 12 6 0) 12 7 0) hb1 hI1 h
  rw [if_neg c4] at h
  by_cases c5 : (opS.getD a1 0) = 4
  · rw [if_pos c5] at h
    refine x_tin C (show decode cX4_perform 18 = .ok (.tableswitch 645 1 45 #[219, 219, 219, 219, 219, 219, 231, 219, 219, 219, 194, 242, 242, 242, 254, 265, 276, 287, 302, 316, 330, 349, 364, 371, 378, 388, 398, 408, 430, 437, 444, 466, 473, 504, 518, 534, 548, 555, 562, 584, 599, 610, 624, 631, 638], 194) from by decide +kernel) 4 c5 (off := 219) (tgt := 237) (by decide) ?_
    exact b_X4_perform_237 r C a1 (xup (xup M 12 6 0) 12 7 0) hb1 hI1 h
  rw [if_neg c5] at h
  by_cases c6 : (opS.getD a1 0) = 5
  · rw [if_pos c6] at h
    refine x_tin C (show decode cX4_perform 18 = .ok (.tableswitch 645 1 45 #[219, 219, 219, 219, 219, 219, 231, 219, 219, 219, 194, 242, 242, 242, 254, 265, 276, 287, 302, 316, 330, 349, 364, 371, 378, 388, 398, 408, 430, 437, 444, 466, 473, 504, 518, 534, 548, 555, 562, 584, 599, 610, 624, 631, 638], 194) from by decide +kernel) 5 c6 (off := 219) (tgt := 237) (by decide) ?_
    exact b_X4_perform_237 r C a1 (xup (xup M 12 6 0) 12 7 0) hb1 hI1 h
  rw [if_neg c6] at h
  by_cases c7 : (opS.getD a1 0) = 6
  · rw [if_pos c7] at h
    refine x_tin C (show decode cX4_perform 18 = .ok (.tableswitch 645 1 45 #[219, 219, 219, 219, 219, 219, 231, 219, 219, 219, 194, 242, 242, 242, 254, 265, 276, 287, 302, 316, 330, 349, 364, 371, 378, 388, 398, 408, 430, 437, 444, 466, 473, 504, 518, 534, 548, 555, 562, 584, 599, 610, 624, 631, 638], 194) from by decide +kernel) 6 c7 (off := 219) (tgt := 237) (by decide) ?_
    exact b_X4_perform_237 r C a1 (xup (xup M 12 6 0) 12 7 0) hb1 hI1 h
  rw [if_neg c7] at h
  by_cases c8 : (opS.getD a1 0) = 7
  · rw [if_pos c8] at h
    refine x_tin C (show decode cX4_perform 18 = .ok (.tableswitch 645 1 45 #[219, 219, 219, 219, 219, 219, 231, 219, 219, 219, 194, 242, 242, 242, 254, 265, 276, 287, 302, 316, 330, 349, 364, 371, 378, 388, 398, 408, 430, 437, 444, 466, 473, 504, 518, 534, 548, 555, 562, 584, 599, 610, 624, 631, 638], 194) from by decide +kernel) 7 c8 (off := 231) (tgt := 249) (by decide) ?_
    refine x_run C e_X4_perform_3 e_X4_perform_3_k (pc' := 251) (lv' := [(0, .ref 12), (1, .ref (1000 + a1))]) (st' := [.ref 12, .ref 12]) (σ' := ((xup (xup M 12 6 0) 12 7 0), L)) rfl ⟨trivial, trivial, trivial⟩ ?_
    refine x_callV C (k := 12) (ci := 3) (rest := [.ref 12]) (avs := []) (k_X4_readSource l  (xup (xup M 12 6 0) 12 7 0) L hI1) yoX4_readSource ml_X4_62 rfl rfl rfl rfl ⟨Nat.zero_le _, Nat.zero_le _⟩ (show decode cX4_perform 251 = .ok (.invokevirtual 62, 3) from by decide +kernel) rfl (fun v σ' hPo => ?_)
    obtain ⟨⟨rfl, rfl⟩, g10, hI11⟩ := hPo
    generalize hq9 : f_X4_readSource  (xup (xup M 12 6 0) 12 7 0) = q9 at h g10 hI11 ⊢
    obtain ⟨r9, M9⟩ := q9
    have h := xb_eq h
    try dsimp only at h g10 hI11
    show V 0 0 254 [(0, .ref 12), (1, .ref (1000 + a1))] [.int r9, .ref 12] LAY (M9, L)
    refine x_callV C (k := 12) (ci := 3) (rest := []) (avs := [.int r9]) (k_X4_compare l r9 M9 L hI11) yoX4_compare ml_X4_82 rfl rfl rfl rfl ⟨Nat.zero_le _, Nat.zero_le _⟩ (show decode cX4_perform 254 = .ok (.invokevirtual 82, 3) from by decide +kernel) rfl (fun v σ' hPo => ?_)
    obtain ⟨⟨rfl, rfl⟩, hI14⟩ := hPo
    generalize hq12 : f_X4_compare r9 M9 = q12 at h hI14 ⊢
    have h := xb_eq h
    show V 0 0 257 [(0, .ref 12), (1, .ref (1000 + a1))] [] LAY (q12, L)
    refine x_goto C (show decode cX4_perform 257 = .ok (.goto 411, 3) from by decide +kernel) (tgt := 668) (by decide) ?_
    subst h
    exact x_vret C (show decode cX4_perform 668 = .ok (.return_, 1) from by decide +kernel) (x_finV ⟨⟨rfl, rfl⟩, hI14⟩) (Nat.le_refl 0) (Nat.le_refl 0)
  rw [if_neg c8] at h
  by_cases c15 : (opS.getD a1 0) = 8
  · rw [if_pos c15] at h
    refine x_tin C (show decode cX4_perform 18 = .ok (.tableswitch 645 1 45 #[219, 219, 219, 219, 219, 219, 231, 219, 219, 219, 194, 242, 242, 242, 254, 265, 276, 287, 302, 316, 330, 349, 364, 371, 378, 388, 398, 408, 430, 437, 444, 466, 473, 504, 518, 534, 548, 555, 562, 584, 599, 610, 624, 631, 638], 194) from by decide +kernel) 8 c15 (off := 219) (tgt := 237) (by decide) ?_
    exact b_X4_perform_237 r C a1 (xup (xup M 12 6 0) 12 7 0) hb1 hI1 h
  rw [if_neg c15] at h
  by_cases c16 : (opS.getD a1 0) = 9
  · rw [if_pos c16] at h
    refine x_tin C (show decode cX4_perform 18 = .ok (.tableswitch 645 1 45 #[219, 219, 219, 219, 219, 219, 231, 219, 219, 219, 194, 242, 242, 242, 254, 265, 276, 287, 302, 316, 330, 349, 364, 371, 378, 388, 398, 408, 430, 437, 444, 466, 473, 504, 518, 534, 548, 555, 562, 584, 599, 610, 624, 631, 638], 194) from by decide +kernel) 9 c16 (off := 219) (tgt := 237) (by decide) ?_
    exact b_X4_perform_237 r C a1 (xup (xup M 12 6 0) 12 7 0) hb1 hI1 h
  rw [if_neg c16] at h
  by_cases c17 : (opS.getD a1 0) = 10
  · rw [if_pos c17] at h
    refine x_tin C (show decode cX4_perform 18 = .ok (.tableswitch 645 1 45 #[219, 219, 219, 219, 219, 219, 231, 219, 219, 219, 194, 242, 242, 242, 254, 265, 276, 287, 302, 316, 330, 349, 364, 371, 378, 388, 398, 408, 430, 437, 444, 466, 473, 504, 518, 534, 548, 555, 562, 584, 599, 610, 624, 631, 638], 194) from by decide +kernel) 10 c17 (off := 219) (tgt := 237) (by decide) ?_
    exact b_X4_perform_237 r C a1 (xup (xup M 12 6 0) 12 7 0) hb1 hI1 h
  rw [if_neg c17] at h
  by_cases c18 : (opS.getD a1 0) = 11
  · rw [if_pos c18] at h
    refine x_tin C (show decode cX4_perform 18 = .ok (.tableswitch 645 1 45 #[219, 219, 219, 219, 219, 219, 231, 219, 219, 219, 194, 242, 242, 242, 254, 265, 276, 287, 302, 316, 330, 349, 364, 371, 378, 388, 398, 408, 430, 437, 444, 466, 473, 504, 518, 534, 548, 555, 562, 584, 599, 610, 624, 631, 638], 194) from by decide +kernel) 11 c18 (off := 194) (tgt := 212) (by decide) ?_
    refine x_run C e_X4_perform_4 e_X4_perform_4_k (pc' := 218) (lv' := [(0, .ref 12), (1, .ref (1000 + a1))]) (st' := [.ref 12, .ref 13, .ref 12]) (σ' := ((xup (xup M 12 6 0) 12 7 0), L)) rfl ⟨trivial, trivial, trivial, trivial, trivial⟩ ?_
    refine x_callV C (k := 12) (ci := 3) (rest := [.ref 13, .ref 12]) (avs := []) (k_X4_readSource l  (xup (xup M 12 6 0) 12 7 0) L hI1) yoX4_readSource ml_X4_62 rfl rfl rfl rfl ⟨Nat.zero_le _, Nat.zero_le _⟩ (show decode cX4_perform 218 = .ok (.invokevirtual 62, 3) from by decide +kernel) rfl (fun v σ' hPo => ?_)
    obtain ⟨⟨rfl, rfl⟩, g20, hI21⟩ := hPo
    generalize hq19 : f_X4_readSource  (xup (xup M 12 6 0) 12 7 0) = q19 at h g20 hI21 ⊢
    obtain ⟨r19, M19⟩ := q19
    have h := xb_eq h
    try dsimp only at h g20 hI21
    show V 0 0 221 [(0, .ref 12), (1, .ref (1000 + a1))] [.int r19, .ref 13, .ref 12] LAY (M19, L)
    refine x_run C e_X4_perform_5 e_X4_perform_5_k (pc' := 228) (lv' := [(0, .ref 12), (1, .ref (1000 + a1))]) (st' := [.int (M19 11 1), .int r19, .ref 13, .ref 12]) (σ' := (M19, L)) rfl ⟨trivial, trivial, trivial, trivial⟩ ?_
    refine x_callV C (k := 13) (ci := 0) (rest := [.ref 12]) (avs := [.int r19, .int (M19 11 1)]) (k_X1_tested l r19 (M19 11 1) M19 L hI21) yoX1_tested ml_X4_70 rfl rfl rfl rfl ⟨Nat.zero_le _, Nat.zero_le _⟩ (show decode cX4_perform 228 = .ok (.invokevirtual 70, 3) from by decide +kernel) rfl (fun v σ' hPo => ?_)
    obtain ⟨⟨rfl, rfl⟩, g23, hI24⟩ := hPo
    generalize hq22 : f_X1_tested r19 (M19 11 1) M19 = q22 at h g23 hI24 ⊢
    obtain ⟨r22, M22⟩ := q22
    have h := xb_eq h
    try dsimp only at h g23 hI24
    show V 0 0 231 [(0, .ref 12), (1, .ref (1000 + a1))] [.int r22, .ref 12] LAY (M22, L)
    refine x_callV C (k := 12) (ci := 3) (rest := []) (avs := [.int r22]) (k_X4_overwrite l r22 M22 L hI24) yoX4_overwrite ml_X4_74 rfl rfl rfl rfl ⟨Nat.zero_le _, Nat.zero_le _⟩ (show decode cX4_perform 231 = .ok (.invokevirtual 74, 3) from by decide +kernel) rfl (fun v σ' hPo => ?_)
    obtain ⟨⟨rfl, rfl⟩, hI27⟩ := hPo
    generalize hq25 : f_X4_overwrite r22 M22 = q25 at h hI27 ⊢
    have h := xb_eq h
    show V 0 0 234 [(0, .ref 12), (1, .ref (1000 + a1))] [] LAY (q25, L)
    refine x_goto C (show decode cX4_perform 234 = .ok (.goto 434, 3) from by decide +kernel) (tgt := 668) (by decide) ?_
    subst h
    exact x_vret C (show decode cX4_perform 668 = .ok (.return_, 1) from by decide +kernel) (x_finV ⟨⟨rfl, rfl⟩, hI27⟩) (Nat.le_refl 0) (Nat.le_refl 0)
  rw [if_neg c18] at h
  by_cases c28 : (opS.getD a1 0) = 12
  · rw [if_pos c28] at h
    refine x_tin C (show decode cX4_perform 18 = .ok (.tableswitch 645 1 45 #[219, 219, 219, 219, 219, 219, 231, 219, 219, 219, 194, 242, 242, 242, 254, 265, 276, 287, 302, 316, 330, 349, 364, 371, 378, 388, 398, 408, 430, 437, 444, 466, 473, 504, 518, 534, 548, 555, 562, 584, 599, 610, 624, 631, 638], 194) from by decide +kernel) 12 c28 (off := 242) (tgt := 260) (by decide) ?_
    exact b_X4_perform_260 r C a1 (xup (xup M 12 6 0) 12 7 0) hb1 hI1 h
  rw [if_neg c28] at h
  by_cases c29 : (opS.getD a1 0) = 13
  · rw [if_pos c29] at h
    refine x_tin C (show decode cX4_perform 18 = .ok (.tableswitch 645 1 45 #[219, 219, 219, 219, 219, 219, 231, 219, 219, 219, 194, 242, 242, 242, 254, 265, 276, 287, 302, 316, 330, 349, 364, 371, 378, 388, 398, 408, 430, 437, 444, 466, 473, 504, 518, 534, 548, 555, 562, 584, 599, 610, 624, 631, 638], 194) from by decide +kernel) 13 c29 (off := 242) (tgt := 260) (by decide) ?_
    exact b_X4_perform_260 r C a1 (xup (xup M 12 6 0) 12 7 0) hb1 hI1 h
  rw [if_neg c29] at h
  by_cases c30 : (opS.getD a1 0) = 14
  · rw [if_pos c30] at h
    refine x_tin C (show decode cX4_perform 18 = .ok (.tableswitch 645 1 45 #[219, 219, 219, 219, 219, 219, 231, 219, 219, 219, 194, 242, 242, 242, 254, 265, 276, 287, 302, 316, 330, 349, 364, 371, 378, 388, 398, 408, 430, 437, 444, 466, 473, 504, 518, 534, 548, 555, 562, 584, 599, 610, 624, 631, 638], 194) from by decide +kernel) 14 c30 (off := 242) (tgt := 260) (by decide) ?_
    exact b_X4_perform_260 r C a1 (xup (xup M 12 6 0) 12 7 0) hb1 hI1 h
  rw [if_neg c30] at h
  by_cases c31 : (opS.getD a1 0) = 15
  · rw [if_pos c31] at h
    refine x_tin C (show decode cX4_perform 18 = .ok (.tableswitch 645 1 45 #[219, 219, 219, 219, 219, 219, 231, 219, 219, 219, 194, 242, 242, 242, 254, 265, 276, 287, 302, 316, 330, 349, 364, 371, 378, 388, 398, 408, 430, 437, 444, 466, 473, 504, 518, 534, 548, 555, 562, 584, 599, 610, 624, 631, 638], 194) from by decide +kernel) 15 c31 (off := 254) (tgt := 272) (by decide) ?_
    refine x_run C e_X4_perform_6 e_X4_perform_6_k (pc' := 274) (lv' := [(0, .ref 12), (1, .ref (1000 + a1))]) (st' := [.ref 12, .ref 12]) (σ' := ((xup (xup M 12 6 0) 12 7 0), L)) rfl ⟨trivial, trivial, trivial⟩ ?_
    refine x_callV C (k := 12) (ci := 3) (rest := [.ref 12]) (avs := []) (k_X4_readSource l  (xup (xup M 12 6 0) 12 7 0) L hI1) yoX4_readSource ml_X4_62 rfl rfl rfl rfl ⟨Nat.zero_le _, Nat.zero_le _⟩ (show decode cX4_perform 274 = .ok (.invokevirtual 62, 3) from by decide +kernel) rfl (fun v σ' hPo => ?_)
    obtain ⟨⟨rfl, rfl⟩, g33, hI34⟩ := hPo
    generalize hq32 : f_X4_readSource  (xup (xup M 12 6 0) 12 7 0) = q32 at h g33 hI34 ⊢
    obtain ⟨r32, M32⟩ := q32
    have h := xb_eq h
    try dsimp only at h g33 hI34
    show V 0 0 277 [(0, .ref 12), (1, .ref (1000 + a1))] [.int r32, .ref 12] LAY (M32, L)
    refine x_callV C (k := 12) (ci := 3) (rest := []) (avs := [.int r32]) (k_X4_compareAddress l r32 M32 L hI34) yoX4_compareAddress ml_X4_88 rfl rfl rfl rfl ⟨Nat.zero_le _, Nat.zero_le _⟩ (show decode cX4_perform 277 = .ok (.invokevirtual 88, 3) from by decide +kernel) rfl (fun v σ' hPo => ?_)
    obtain ⟨⟨rfl, rfl⟩, hI37⟩ := hPo
    generalize hq35 : f_X4_compareAddress r32 M32 = q35 at h hI37 ⊢
    have h := xb_eq h
    show V 0 0 280 [(0, .ref 12), (1, .ref (1000 + a1))] [] LAY (q35, L)
    refine x_goto C (show decode cX4_perform 280 = .ok (.goto 388, 3) from by decide +kernel) (tgt := 668) (by decide) ?_
    subst h
    exact x_vret C (show decode cX4_perform 668 = .ok (.return_, 1) from by decide +kernel) (x_finV ⟨⟨rfl, rfl⟩, hI37⟩) (Nat.le_refl 0) (Nat.le_refl 0)
  rw [if_neg c31] at h
  by_cases c38 : (opS.getD a1 0) = 16
  · rw [if_pos c38] at h
    refine x_tin C (show decode cX4_perform 18 = .ok (.tableswitch 645 1 45 #[219, 219, 219, 219, 219, 219, 231, 219, 219, 219, 194, 242, 242, 242, 254, 265, 276, 287, 302, 316, 330, 349, 364, 371, 378, 388, 398, 408, 430, 437, 444, 466, 473, 504, 518, 534, 548, 555, 562, 584, 599, 610, 624, 631, 638], 194) from by decide +kernel) 16 c38 (off := 265) (tgt := 283) (by decide) ?_
    refine x_run C e_X4_perform_7 e_X4_perform_7_k (pc' := 285) (lv' := [(0, .ref 12), (1, .ref (1000 + a1))]) (st' := [.ref 12, .ref 12]) (σ' := ((xup (xup M 12 6 0) 12 7 0), L)) rfl ⟨trivial, trivial, trivial⟩ ?_
    refine x_callV C (k := 12) (ci := 3) (rest := [.ref 12]) (avs := []) (k_X4_readSource l  (xup (xup M 12 6 0) 12 7 0) L hI1) yoX4_readSource ml_X4_62 rfl rfl rfl rfl ⟨Nat.zero_le _, Nat.zero_le _⟩ (show decode cX4_perform 285 = .ok (.invokevirtual 62, 3) from by decide +kernel) rfl (fun v σ' hPo => ?_)
    obtain ⟨⟨rfl, rfl⟩, g40, hI41⟩ := hPo
    generalize hq39 : f_X4_readSource  (xup (xup M 12 6 0) 12 7 0) = q39 at h g40 hI41 ⊢
    obtain ⟨r39, M39⟩ := q39
    have h := xb_eq h
    try dsimp only at h g40 hI41
    show V 0 0 288 [(0, .ref 12), (1, .ref (1000 + a1))] [.int r39, .ref 12] LAY (M39, L)
    refine x_callV C (k := 12) (ci := 3) (rest := []) (avs := [.int r39]) (k_X4_multiply l r39 M39 L hI41) yoX4_multiply ml_X4_91 rfl rfl rfl rfl ⟨Nat.zero_le _, Nat.zero_le _⟩ (show decode cX4_perform 288 = .ok (.invokevirtual 91, 3) from by decide +kernel) rfl (fun v σ' hPo => ?_)
    obtain ⟨⟨rfl, rfl⟩, hI44⟩ := hPo
    generalize hq42 : f_X4_multiply r39 M39 = q42 at h hI44 ⊢
    have h := xb_eq h
    show V 0 0 291 [(0, .ref 12), (1, .ref (1000 + a1))] [] LAY (q42, L)
    refine x_goto C (show decode cX4_perform 291 = .ok (.goto 377, 3) from by decide +kernel) (tgt := 668) (by decide) ?_
    subst h
    exact x_vret C (show decode cX4_perform 668 = .ok (.return_, 1) from by decide +kernel) (x_finV ⟨⟨rfl, rfl⟩, hI44⟩) (Nat.le_refl 0) (Nat.le_refl 0)
  rw [if_neg c38] at h
  by_cases c45 : (opS.getD a1 0) = 17
  · rw [if_pos c45] at h
    refine x_tin C (show decode cX4_perform 18 = .ok (.tableswitch 645 1 45 #[219, 219, 219, 219, 219, 219, 231, 219, 219, 219, 194, 242, 242, 242, 254, 265, 276, 287, 302, 316, 330, 349, 364, 371, 378, 388, 398, 408, 430, 437, 444, 466, 473, 504, 518, 534, 548, 555, 562, 584, 599, 610, 624, 631, 638], 194) from by decide +kernel) 17 c45 (off := 276) (tgt := 294) (by decide) ?_
    refine x_run C e_X4_perform_8 e_X4_perform_8_k (pc' := 296) (lv' := [(0, .ref 12), (1, .ref (1000 + a1))]) (st' := [.ref 12, .ref 12]) (σ' := ((xup (xup M 12 6 0) 12 7 0), L)) rfl ⟨trivial, trivial, trivial⟩ ?_
    refine x_callV C (k := 12) (ci := 3) (rest := [.ref 12]) (avs := []) (k_X4_readSource l  (xup (xup M 12 6 0) 12 7 0) L hI1) yoX4_readSource ml_X4_62 rfl rfl rfl rfl ⟨Nat.zero_le _, Nat.zero_le _⟩ (show decode cX4_perform 296 = .ok (.invokevirtual 62, 3) from by decide +kernel) rfl (fun v σ' hPo => ?_)
    obtain ⟨⟨rfl, rfl⟩, g47, hI48⟩ := hPo
    generalize hq46 : f_X4_readSource  (xup (xup M 12 6 0) 12 7 0) = q46 at h g47 hI48 ⊢
    obtain ⟨r46, M46⟩ := q46
    have h := xb_eq h
    try dsimp only at h g47 hI48
    show V 0 0 299 [(0, .ref 12), (1, .ref (1000 + a1))] [.int r46, .ref 12] LAY (M46, L)
    refine x_callV C (k := 12) (ci := 3) (rest := []) (avs := [.int r46]) (k_X4_divide l r46 M46 L (rs_rng hI (hdv (dv_op hb1 c45)) hq46) hI48) yoX4_divide ml_X4_94 rfl rfl rfl rfl ⟨Nat.zero_le _, Nat.zero_le _⟩ (show decode cX4_perform 299 = .ok (.invokevirtual 94, 3) from by decide +kernel) rfl (fun v σ' hPo => ?_)
    obtain ⟨⟨rfl, rfl⟩, hI51⟩ := hPo
    generalize hq49 : f_X4_divide r46 M46 = q49 at h hI51 ⊢
    have h := xb_eq h
    show V 0 0 302 [(0, .ref 12), (1, .ref (1000 + a1))] [] LAY (q49, L)
    refine x_goto C (show decode cX4_perform 302 = .ok (.goto 366, 3) from by decide +kernel) (tgt := 668) (by decide) ?_
    subst h
    exact x_vret C (show decode cX4_perform 668 = .ok (.return_, 1) from by decide +kernel) (x_finV ⟨⟨rfl, rfl⟩, hI51⟩) (Nat.le_refl 0) (Nat.le_refl 0)
  rw [if_neg c45] at h
  by_cases c52 : (opS.getD a1 0) = 18
  · rw [if_pos c52] at h
    refine x_tin C (show decode cX4_perform 18 = .ok (.tableswitch 645 1 45 #[219, 219, 219, 219, 219, 219, 231, 219, 219, 219, 194, 242, 242, 242, 254, 265, 276, 287, 302, 316, 330, 349, 364, 371, 378, 388, 398, 408, 430, 437, 444, 466, 473, 504, 518, 534, 548, 555, 562, 584, 599, 610, 624, 631, 638], 194) from by decide +kernel) 18 c52 (off := 287) (tgt := 305) (by decide) ?_
    refine x_run C e_X4_perform_9 e_X4_perform_9_k (pc' := 307) (lv' := [(0, .ref 12), (1, .ref (1000 + a1))]) (st' := [.ref 12, .ref 12]) (σ' := ((xup (xup M 12 6 0) 12 7 0), L)) rfl ⟨trivial, trivial, trivial⟩ ?_
    refine x_callV C (k := 12) (ci := 3) (rest := [.ref 12]) (avs := []) (k_X4_readSource l  (xup (xup M 12 6 0) 12 7 0) L hI1) yoX4_readSource ml_X4_62 rfl rfl rfl rfl ⟨Nat.zero_le _, Nat.zero_le _⟩ (show decode cX4_perform 307 = .ok (.invokevirtual 62, 3) from by decide +kernel) rfl (fun v σ' hPo => ?_)
    obtain ⟨⟨rfl, rfl⟩, g54, hI55⟩ := hPo
    generalize hq53 : f_X4_readSource  (xup (xup M 12 6 0) 12 7 0) = q53 at h g54 hI55 ⊢
    obtain ⟨r53, M53⟩ := q53
    have h := xb_eq h
    try dsimp only at h g54 hI55
    show V 0 0 310 [(0, .ref 12), (1, .ref (1000 + a1))] [.int r53, .ref 12] LAY (M53, L)
    refine x_run C e_X4_perform_10 e_X4_perform_10_k (pc' := 311) (lv' := [(0, .ref 12), (1, .ref (1000 + a1))]) (st' := [.int 1, .int r53, .ref 12]) (σ' := (M53, L)) rfl ⟨trivial, trivial⟩ ?_
    refine x_callSN C (rest := [.ref 12]) (avs := [.int r53, .int 1]) (k_X10_extended l r53 1 M53 L) yoX10_extended ml_X4_97 rfl ⟨Nat.zero_le _, Nat.zero_le _⟩ (show decode cX4_perform 311 = .ok (.invokestatic 97, 3) from by decide +kernel) rfl (fun v σ' hPo => ?_)
    obtain ⟨⟨rfl, rfl⟩, g57, -⟩ := hPo
    show V 0 0 314 [(0, .ref 12), (1, .ref (1000 + a1))] [.int (f_X10_extended r53 1), .ref 12] LAY (M53, L)
    refine x_callV C (k := 12) (ci := 3) (rest := []) (avs := [.int (f_X10_extended r53 1)]) (k_X4_checkBounds l (f_X10_extended r53 1) M53 L hI55) yoX4_checkBounds ml_X4_100 rfl rfl rfl rfl ⟨Nat.zero_le _, Nat.zero_le _⟩ (show decode cX4_perform 314 = .ok (.invokevirtual 100, 3) from by decide +kernel) rfl (fun v σ' hPo => ?_)
    obtain ⟨⟨rfl, rfl⟩, hI61⟩ := hPo
    generalize hq59 : f_X4_checkBounds (f_X10_extended r53 1) M53 = q59 at h hI61 ⊢
    have h := xb_eq h
    show V 0 0 317 [(0, .ref 12), (1, .ref (1000 + a1))] [] LAY (q59, L)
    refine x_goto C (show decode cX4_perform 317 = .ok (.goto 351, 3) from by decide +kernel) (tgt := 668) (by decide) ?_
    subst h
    exact x_vret C (show decode cX4_perform 668 = .ok (.return_, 1) from by decide +kernel) (x_finV ⟨⟨rfl, rfl⟩, hI61⟩) (Nat.le_refl 0) (Nat.le_refl 0)
  rw [if_neg c52] at h
  by_cases c62 : (opS.getD a1 0) = 19
  · rw [if_pos c62] at h
    refine x_tin C (show decode cX4_perform 18 = .ok (.tableswitch 645 1 45 #[219, 219, 219, 219, 219, 219, 231, 219, 219, 219, 194, 242, 242, 242, 254, 265, 276, 287, 302, 316, 330, 349, 364, 371, 378, 388, 398, 408, 430, 437, 444, 466, 473, 504, 518, 534, 548, 555, 562, 584, 599, 610, 624, 631, 638], 194) from by decide +kernel) 19 c62 (off := 302) (tgt := 320) (by decide) ?_
    refine x_run C e_X4_perform_11 e_X4_perform_11_k (pc' := 321) (lv' := [(0, .ref 12), (1, .ref (1000 + a1))]) (st' := [.ref 12]) (σ' := ((xup (xup M 12 6 0) 12 7 0), L)) rfl ⟨trivial, trivial⟩ ?_
    refine x_getE C 1 (by decide) (x_in 1048 (by decide +kernel) rfl) (show decode cX4_perform 321 = .ok (.getstatic 103, 3) from by decide +kernel) ?_
    refine x_run C e_X4_perform_12 e_X4_perform_12_k (pc' := 325) (lv' := [(0, .ref 12), (1, .ref (1000 + a1))]) (st' := [.ref 12, .ref (1000 + 1), .ref 12]) (σ' := ((xup (xup M 12 6 0) 12 7 0), L)) rfl ⟨trivial, trivial⟩ ?_
    refine x_callV C (k := 12) (ci := 3) (rest := [.ref (1000 + 1), .ref 12]) (avs := []) (k_X4_quickNumber l  (xup (xup M 12 6 0) 12 7 0) L hI1) yoX4_quickNumber ml_X4_107 rfl rfl rfl rfl ⟨Nat.zero_le _, Nat.zero_le _⟩ (show decode cX4_perform 325 = .ok (.invokevirtual 107, 3) from by decide +kernel) rfl (fun v σ' hPo => ?_)
    obtain ⟨⟨rfl, rfl⟩, g64, hI65⟩ := hPo
    show V 0 0 328 [(0, .ref 12), (1, .ref (1000 + a1))] [.int (f_X4_quickNumber  (xup (xup M 12 6 0) 12 7 0)), .ref (1000 + 1), .ref 12] LAY ((xup (xup M 12 6 0) 12 7 0), L)
    refine x_callV C (k := 12) (ci := 3) (rest := []) (avs := [.ref (1000 + 1), .int (f_X4_quickNumber  (xup (xup M 12 6 0) 12 7 0))]) (k_X4_changeQuick l 1 (f_X4_quickNumber  (xup (xup M 12 6 0) 12 7 0)) (xup (xup M 12 6 0) 12 7 0) L (show 1 < 66 by decide) hI1) yoX4_changeQuick ml_X4_110 rfl rfl rfl rfl ⟨Nat.zero_le _, Nat.zero_le _⟩ (show decode cX4_perform 328 = .ok (.invokevirtual 110, 3) from by decide +kernel) rfl (fun v σ' hPo => ?_)
    obtain ⟨⟨rfl, rfl⟩, hI68⟩ := hPo
    generalize hq66 : f_X4_changeQuick 1 (f_X4_quickNumber  (xup (xup M 12 6 0) 12 7 0)) (xup (xup M 12 6 0) 12 7 0) = q66 at h hI68 ⊢
    have h := xb_eq h
    show V 0 0 331 [(0, .ref 12), (1, .ref (1000 + a1))] [] LAY (q66, L)
    refine x_goto C (show decode cX4_perform 331 = .ok (.goto 337, 3) from by decide +kernel) (tgt := 668) (by decide) ?_
    subst h
    exact x_vret C (show decode cX4_perform 668 = .ok (.return_, 1) from by decide +kernel) (x_finV ⟨⟨rfl, rfl⟩, hI68⟩) (Nat.le_refl 0) (Nat.le_refl 0)
  rw [if_neg c62] at h
  by_cases c69 : (opS.getD a1 0) = 20
  · rw [if_pos c69] at h
    refine x_tin C (show decode cX4_perform 18 = .ok (.tableswitch 645 1 45 #[219, 219, 219, 219, 219, 219, 231, 219, 219, 219, 194, 242, 242, 242, 254, 265, 276, 287, 302, 316, 330, 349, 364, 371, 378, 388, 398, 408, 430, 437, 444, 466, 473, 504, 518, 534, 548, 555, 562, 584, 599, 610, 624, 631, 638], 194) from by decide +kernel) 20 c69 (off := 316) (tgt := 334) (by decide) ?_
    refine x_run C e_X4_perform_13 e_X4_perform_13_k (pc' := 335) (lv' := [(0, .ref 12), (1, .ref (1000 + a1))]) (st' := [.ref 12]) (σ' := ((xup (xup M 12 6 0) 12 7 0), L)) rfl ⟨trivial, trivial⟩ ?_
    refine x_getE C 4 (by decide) (x_in 1058 (by decide +kernel) rfl) (show decode cX4_perform 335 = .ok (.getstatic 113, 3) from by decide +kernel) ?_
    refine x_run C e_X4_perform_14 e_X4_perform_14_k (pc' := 339) (lv' := [(0, .ref 12), (1, .ref (1000 + a1))]) (st' := [.ref 12, .ref (1000 + 4), .ref 12]) (σ' := ((xup (xup M 12 6 0) 12 7 0), L)) rfl ⟨trivial, trivial⟩ ?_
    refine x_callV C (k := 12) (ci := 3) (rest := [.ref (1000 + 4), .ref 12]) (avs := []) (k_X4_quickNumber l  (xup (xup M 12 6 0) 12 7 0) L hI1) yoX4_quickNumber ml_X4_107 rfl rfl rfl rfl ⟨Nat.zero_le _, Nat.zero_le _⟩ (show decode cX4_perform 339 = .ok (.invokevirtual 107, 3) from by decide +kernel) rfl (fun v σ' hPo => ?_)
    obtain ⟨⟨rfl, rfl⟩, g71, hI72⟩ := hPo
    show V 0 0 342 [(0, .ref 12), (1, .ref (1000 + a1))] [.int (f_X4_quickNumber  (xup (xup M 12 6 0) 12 7 0)), .ref (1000 + 4), .ref 12] LAY ((xup (xup M 12 6 0) 12 7 0), L)
    refine x_callV C (k := 12) (ci := 3) (rest := []) (avs := [.ref (1000 + 4), .int (f_X4_quickNumber  (xup (xup M 12 6 0) 12 7 0))]) (k_X4_changeQuick l 4 (f_X4_quickNumber  (xup (xup M 12 6 0) 12 7 0)) (xup (xup M 12 6 0) 12 7 0) L (show 4 < 66 by decide) hI1) yoX4_changeQuick ml_X4_110 rfl rfl rfl rfl ⟨Nat.zero_le _, Nat.zero_le _⟩ (show decode cX4_perform 342 = .ok (.invokevirtual 110, 3) from by decide +kernel) rfl (fun v σ' hPo => ?_)
    obtain ⟨⟨rfl, rfl⟩, hI75⟩ := hPo
    generalize hq73 : f_X4_changeQuick 4 (f_X4_quickNumber  (xup (xup M 12 6 0) 12 7 0)) (xup (xup M 12 6 0) 12 7 0) = q73 at h hI75 ⊢
    have h := xb_eq h
    show V 0 0 345 [(0, .ref 12), (1, .ref (1000 + a1))] [] LAY (q73, L)
    refine x_goto C (show decode cX4_perform 345 = .ok (.goto 323, 3) from by decide +kernel) (tgt := 668) (by decide) ?_
    subst h
    exact x_vret C (show decode cX4_perform 668 = .ok (.return_, 1) from by decide +kernel) (x_finV ⟨⟨rfl, rfl⟩, hI75⟩) (Nat.le_refl 0) (Nat.le_refl 0)
  rw [if_neg c69] at h
  by_cases c76 : (opS.getD a1 0) = 21
  · rw [if_pos c76] at h
    refine x_tin C (show decode cX4_perform 18 = .ok (.tableswitch 645 1 45 #[219, 219, 219, 219, 219, 219, 231, 219, 219, 219, 194, 242, 242, 242, 254, 265, 276, 287, 302, 316, 330, 349, 364, 371, 378, 388, 398, 408, 430, 437, 444, 466, 473, 504, 518, 534, 548, 555, 562, 584, 599, 610, 624, 631, 638], 194) from by decide +kernel) 21 c76 (off := 330) (tgt := 348) (by decide) ?_
    refine x_run C e_X4_perform_15 e_X4_perform_15_k (pc' := 357) (lv' := [(0, .ref 12), (1, .ref (1000 + a1))]) (st' := [.ref 11, .ref 2, .ref 12]) (σ' := ((xup (xup M 12 6 0) 12 7 0), L)) rfl ⟨trivial, trivial, trivial, trivial, trivial, trivial⟩ ?_
    refine x_callV C (k := 11) (ci := 2) (rest := [.ref 2, .ref 12]) (avs := []) (k_X3_upperRegister l  (xup (xup M 12 6 0) 12 7 0) L hI1) yoX3_upperRegister ml_X4_116 rfl rfl rfl rfl ⟨Nat.zero_le _, Nat.zero_le _⟩ (show decode cX4_perform 357 = .ok (.invokevirtual 116, 3) from by decide +kernel) rfl (fun v σ' hPo => ?_)
    obtain ⟨⟨rfl, rfl⟩, g78, hI79⟩ := hPo
    show V 0 0 360 [(0, .ref 12), (1, .ref (1000 + a1))] [.int (f_X3_upperRegister  (xup (xup M 12 6 0) 12 7 0)), .ref 2, .ref 12] LAY ((xup (xup M 12 6 0) 12 7 0), L)
    refine x_run C e_X4_perform_16 e_X4_perform_16_k (pc' := 361) (lv' := [(0, .ref 12), (1, .ref (1000 + a1))]) (st' := [.int (M 2 (f_X3_upperRegister  (xup (xup M 12 6 0) 12 7 0)).toNatClampNeg), .ref 12]) (σ' := ((xup (xup M 12 6 0) 12 7 0), L)) rfl ⟨(x_rgv g78 (by decide) (by decide)), trivial⟩ ?_
    refine x_callV C (k := 12) (ci := 3) (rest := []) (avs := [.int (M 2 (f_X3_upperRegister  (xup (xup M 12 6 0) 12 7 0)).toNatClampNeg)]) (k_X4_changeBit l (M 2 (f_X3_upperRegister  (xup (xup M 12 6 0) 12 7 0)).toNatClampNeg) (xup (xup M 12 6 0) 12 7 0) L hI1) yoX4_changeBit ml_X4_119 rfl rfl rfl rfl ⟨Nat.zero_le _, Nat.zero_le _⟩ (show decode cX4_perform 361 = .ok (.invokevirtual 119, 3) from by decide +kernel) rfl (fun v σ' hPo => ?_)
    obtain ⟨⟨rfl, rfl⟩, hI82⟩ := hPo
    generalize hq80 : f_X4_changeBit (M 2 (f_X3_upperRegister  (xup (xup M 12 6 0) 12 7 0)).toNatClampNeg) (xup (xup M 12 6 0) 12 7 0) = q80 at h hI82 ⊢
    have h := xb_eq h
    show V 0 0 364 [(0, .ref 12), (1, .ref (1000 + a1))] [] LAY (q80, L)
    refine x_goto C (show decode cX4_perform 364 = .ok (.goto 304, 3) from by decide +kernel) (tgt := 668) (by decide) ?_
    subst h
    exact x_vret C (show decode cX4_perform 668 = .ok (.return_, 1) from by decide +kernel) (x_finV ⟨⟨rfl, rfl⟩, hI82⟩) (Nat.le_refl 0) (Nat.le_refl 0)
  rw [if_neg c76] at h
  by_cases c83 : (opS.getD a1 0) = 22
  · rw [if_pos c83] at h
    refine x_tin C (show decode cX4_perform 18 = .ok (.tableswitch 645 1 45 #[219, 219, 219, 219, 219, 219, 231, 219, 219, 219, 194, 242, 242, 242, 254, 265, 276, 287, 302, 316, 330, 349, 364, 371, 378, 388, 398, 408, 430, 437, 444, 466, 473, 504, 518, 534, 548, 555, 562, 584, 599, 610, 624, 631, 638], 194) from by decide +kernel) 22 c83 (off := 349) (tgt := 367) (by decide) ?_
    refine x_run C e_X4_perform_17 e_X4_perform_17_k (pc' := 373) (lv' := [(0, .ref 12), (1, .ref (1000 + a1))]) (st' := [.int 1, .ref 10, .ref 12]) (σ' := ((xup (xup M 12 6 0) 12 7 0), L)) rfl ⟨trivial, trivial, trivial, trivial, trivial⟩ ?_
    refine x_callV C (k := 10) (ci := 4) (rest := [.ref 12]) (avs := [.int 1]) (k_X6_fetch l 1 (xup (xup M 12 6 0) 12 7 0) L hI1) yoX6_fetch ml_X4_122 rfl rfl rfl rfl ⟨Nat.zero_le _, Nat.zero_le _⟩ (show decode cX4_perform 373 = .ok (.invokevirtual 122, 3) from by decide +kernel) rfl (fun v σ' hPo => ?_)
    obtain ⟨⟨rfl, rfl⟩, g85, hI86⟩ := hPo
    generalize hq84 : f_X6_fetch 1 (xup (xup M 12 6 0) 12 7 0) = q84 at h g85 hI86 ⊢
    obtain ⟨r84, M84⟩ := q84
    have h := xb_eq h
    try dsimp only at h g85 hI86
    show V 0 0 376 [(0, .ref 12), (1, .ref (1000 + a1))] [.int r84, .ref 12] LAY (M84, L)
    refine x_callV C (k := 12) (ci := 3) (rest := []) (avs := [.int r84]) (k_X4_changeBit l r84 M84 L hI86) yoX4_changeBit ml_X4_119 rfl rfl rfl rfl ⟨Nat.zero_le _, Nat.zero_le _⟩ (show decode cX4_perform 376 = .ok (.invokevirtual 119, 3) from by decide +kernel) rfl (fun v σ' hPo => ?_)
    obtain ⟨⟨rfl, rfl⟩, hI89⟩ := hPo
    generalize hq87 : f_X4_changeBit r84 M84 = q87 at h hI89 ⊢
    have h := xb_eq h
    show V 0 0 379 [(0, .ref 12), (1, .ref (1000 + a1))] [] LAY (q87, L)
    refine x_goto C (show decode cX4_perform 379 = .ok (.goto 289, 3) from by decide +kernel) (tgt := 668) (by decide) ?_
    subst h
    exact x_vret C (show decode cX4_perform 668 = .ok (.return_, 1) from by decide +kernel) (x_finV ⟨⟨rfl, rfl⟩, hI89⟩) (Nat.le_refl 0) (Nat.le_refl 0)
  rw [if_neg c83] at h
  by_cases c90 : (opS.getD a1 0) = 23
  · rw [if_pos c90] at h
    refine x_tin C (show decode cX4_perform 18 = .ok (.tableswitch 645 1 45 #[219, 219, 219, 219, 219, 219, 231, 219, 219, 219, 194, 242, 242, 242, 254, 265, 276, 287, 302, 316, 330, 349, 364, 371, 378, 388, 398, 408, 430, 437, 444, 466, 473, 504, 518, 534, 548, 555, 562, 584, 599, 610, 624, 631, 638], 194) from by decide +kernel) 23 c90 (off := 364) (tgt := 382) (by decide) ?_
    refine x_run C e_X4_perform_18 e_X4_perform_18_k (pc' := 383) (lv' := [(0, .ref 12), (1, .ref (1000 + a1))]) (st' := [.ref 12]) (σ' := ((xup (xup M 12 6 0) 12 7 0), L)) rfl ⟨trivial, trivial⟩ ?_
    refine x_callV C (k := 12) (ci := 3) (rest := []) (avs := []) (k_X4_shiftRegister l  (xup (xup M 12 6 0) 12 7 0) L hI1) yoX4_shiftRegister ml_X4_128 rfl rfl rfl rfl ⟨Nat.zero_le _, Nat.zero_le _⟩ (show decode cX4_perform 383 = .ok (.invokevirtual 128, 3) from by decide +kernel) rfl (fun v σ' hPo => ?_)
    obtain ⟨⟨rfl, rfl⟩, hI93⟩ := hPo
    generalize hq91 : f_X4_shiftRegister  (xup (xup M 12 6 0) 12 7 0) = q91 at h hI93 ⊢
    have h := xb_eq h
    show V 0 0 386 [(0, .ref 12), (1, .ref (1000 + a1))] [] LAY (q91, L)
    refine x_goto C (show decode cX4_perform 386 = .ok (.goto 282, 3) from by decide +kernel) (tgt := 668) (by decide) ?_
    subst h
    exact x_vret C (show decode cX4_perform 668 = .ok (.return_, 1) from by decide +kernel) (x_finV ⟨⟨rfl, rfl⟩, hI93⟩) (Nat.le_refl 0) (Nat.le_refl 0)
  rw [if_neg c90] at h
  by_cases c94 : (opS.getD a1 0) = 24
  · rw [if_pos c94] at h
    refine x_tin C (show decode cX4_perform 18 = .ok (.tableswitch 645 1 45 #[219, 219, 219, 219, 219, 219, 231, 219, 219, 219, 194, 242, 242, 242, 254, 265, 276, 287, 302, 316, 330, 349, 364, 371, 378, 388, 398, 408, 430, 437, 444, 466, 473, 504, 518, 534, 548, 555, 562, 584, 599, 610, 624, 631, 638], 194) from by decide +kernel) 24 c94 (off := 371) (tgt := 389) (by decide) ?_
    refine x_run C e_X4_perform_19 e_X4_perform_19_k (pc' := 390) (lv' := [(0, .ref 12), (1, .ref (1000 + a1))]) (st' := [.ref 12]) (σ' := ((xup (xup M 12 6 0) 12 7 0), L)) rfl ⟨trivial, trivial⟩ ?_
    refine x_callV C (k := 12) (ci := 3) (rest := []) (avs := []) (k_X4_shiftMemory l  (xup (xup M 12 6 0) 12 7 0) L hI1) yoX4_shiftMemory ml_X4_131 rfl rfl rfl rfl ⟨Nat.zero_le _, Nat.zero_le _⟩ (show decode cX4_perform 390 = .ok (.invokevirtual 131, 3) from by decide +kernel) rfl (fun v σ' hPo => ?_)
    obtain ⟨⟨rfl, rfl⟩, hI97⟩ := hPo
    generalize hq95 : f_X4_shiftMemory  (xup (xup M 12 6 0) 12 7 0) = q95 at h hI97 ⊢
    have h := xb_eq h
    show V 0 0 393 [(0, .ref 12), (1, .ref (1000 + a1))] [] LAY (q95, L)
    refine x_goto C (show decode cX4_perform 393 = .ok (.goto 275, 3) from by decide +kernel) (tgt := 668) (by decide) ?_
    subst h
    exact x_vret C (show decode cX4_perform 668 = .ok (.return_, 1) from by decide +kernel) (x_finV ⟨⟨rfl, rfl⟩, hI97⟩) (Nat.le_refl 0) (Nat.le_refl 0)
  rw [if_neg c94] at h
  by_cases c98 : (opS.getD a1 0) = 25
  · rw [if_pos c98] at h
    refine x_tin C (show decode cX4_perform 18 = .ok (.tableswitch 645 1 45 #[219, 219, 219, 219, 219, 219, 231, 219, 219, 219, 194, 242, 242, 242, 254, 265, 276, 287, 302, 316, 330, 349, 364, 371, 378, 388, 398, 408, 430, 437, 444, 466, 473, 504, 518, 534, 548, 555, 562, 584, 599, 610, 624, 631, 638], 194) from by decide +kernel) 25 c98 (off := 378) (tgt := 396) (by decide) ?_
    refine x_run C e_X4_perform_20 e_X4_perform_20_k (pc' := 397) (lv' := [(0, .ref 12), (1, .ref (1000 + a1))]) (st' := [.ref 12]) (σ' := ((xup (xup M 12 6 0) 12 7 0), L)) rfl ⟨trivial, trivial⟩ ?_
    refine x_getE C 4 (by decide) (x_in 1058 (by decide +kernel) rfl) (show decode cX4_perform 397 = .ok (.getstatic 113, 3) from by decide +kernel) ?_
    refine x_callV C (k := 12) (ci := 3) (rest := []) (avs := [.ref (1000 + 4)]) (k_X4_negate l 4 (xup (xup M 12 6 0) 12 7 0) L (show 4 < 66 by decide) hI1) yoX4_negate ml_X4_134 rfl rfl rfl rfl ⟨Nat.zero_le _, Nat.zero_le _⟩ (show decode cX4_perform 400 = .ok (.invokevirtual 134, 3) from by decide +kernel) rfl (fun v σ' hPo => ?_)
    obtain ⟨⟨rfl, rfl⟩, hI101⟩ := hPo
    generalize hq99 : f_X4_negate 4 (xup (xup M 12 6 0) 12 7 0) = q99 at h hI101 ⊢
    have h := xb_eq h
    show V 0 0 403 [(0, .ref 12), (1, .ref (1000 + a1))] [] LAY (q99, L)
    refine x_goto C (show decode cX4_perform 403 = .ok (.goto 265, 3) from by decide +kernel) (tgt := 668) (by decide) ?_
    subst h
    exact x_vret C (show decode cX4_perform 668 = .ok (.return_, 1) from by decide +kernel) (x_finV ⟨⟨rfl, rfl⟩, hI101⟩) (Nat.le_refl 0) (Nat.le_refl 0)
  rw [if_neg c98] at h
  by_cases c102 : (opS.getD a1 0) = 26
  · rw [if_pos c102] at h
    refine x_tin C (show decode cX4_perform 18 = .ok (.tableswitch 645 1 45 #[219, 219, 219, 219, 219, 219, 231, 219, 219, 219, 194, 242, 242, 242, 254, 265, 276, 287, 302, 316, 330, 349, 364, 371, 378, 388, 398, 408, 430, 437, 444, 466, 473, 504, 518, 534, 548, 555, 562, 584, 599, 610, 624, 631, 638], 194) from by decide +kernel) 26 c102 (off := 388) (tgt := 406) (by decide) ?_
    refine x_run C e_X4_perform_21 e_X4_perform_21_k (pc' := 407) (lv' := [(0, .ref 12), (1, .ref (1000 + a1))]) (st' := [.ref 12]) (σ' := ((xup (xup M 12 6 0) 12 7 0), L)) rfl ⟨trivial, trivial⟩ ?_
    refine x_getE C 5 (by decide) (x_in 1085 (by decide +kernel) rfl) (show decode cX4_perform 407 = .ok (.getstatic 138, 3) from by decide +kernel) ?_
    refine x_callV C (k := 12) (ci := 3) (rest := []) (avs := [.ref (1000 + 5)]) (k_X4_negate l 5 (xup (xup M 12 6 0) 12 7 0) L (show 5 < 66 by decide) hI1) yoX4_negate ml_X4_134 rfl rfl rfl rfl ⟨Nat.zero_le _, Nat.zero_le _⟩ (show decode cX4_perform 410 = .ok (.invokevirtual 134, 3) from by decide +kernel) rfl (fun v σ' hPo => ?_)
    obtain ⟨⟨rfl, rfl⟩, hI105⟩ := hPo
    generalize hq103 : f_X4_negate 5 (xup (xup M 12 6 0) 12 7 0) = q103 at h hI105 ⊢
    have h := xb_eq h
    show V 0 0 413 [(0, .ref 12), (1, .ref (1000 + a1))] [] LAY (q103, L)
    refine x_goto C (show decode cX4_perform 413 = .ok (.goto 255, 3) from by decide +kernel) (tgt := 668) (by decide) ?_
    subst h
    exact x_vret C (show decode cX4_perform 668 = .ok (.return_, 1) from by decide +kernel) (x_finV ⟨⟨rfl, rfl⟩, hI105⟩) (Nat.le_refl 0) (Nat.le_refl 0)
  rw [if_neg c102] at h
  by_cases c106 : (opS.getD a1 0) = 27
  · rw [if_pos c106] at h
    refine x_tin C (show decode cX4_perform 18 = .ok (.tableswitch 645 1 45 #[219, 219, 219, 219, 219, 219, 231, 219, 219, 219, 194, 242, 242, 242, 254, 265, 276, 287, 302, 316, 330, 349, 364, 371, 378, 388, 398, 408, 430, 437, 444, 466, 473, 504, 518, 534, 548, 555, 562, 584, 599, 610, 624, 631, 638], 194) from by decide +kernel) 27 c106 (off := 398) (tgt := 416) (by decide) ?_
    refine x_run C e_X4_perform_22 e_X4_perform_22_k (pc' := 417) (lv' := [(0, .ref 12), (1, .ref (1000 + a1))]) (st' := [.ref 12]) (σ' := ((xup (xup M 12 6 0) 12 7 0), L)) rfl ⟨trivial, trivial⟩ ?_
    refine x_getE C 6 (by decide) (x_in 1086 (by decide +kernel) rfl) (show decode cX4_perform 417 = .ok (.getstatic 141, 3) from by decide +kernel) ?_
    refine x_callV C (k := 12) (ci := 3) (rest := []) (avs := [.ref (1000 + 6)]) (k_X4_negate l 6 (xup (xup M 12 6 0) 12 7 0) L (show 6 < 66 by decide) hI1) yoX4_negate ml_X4_134 rfl rfl rfl rfl ⟨Nat.zero_le _, Nat.zero_le _⟩ (show decode cX4_perform 420 = .ok (.invokevirtual 134, 3) from by decide +kernel) rfl (fun v σ' hPo => ?_)
    obtain ⟨⟨rfl, rfl⟩, hI109⟩ := hPo
    generalize hq107 : f_X4_negate 6 (xup (xup M 12 6 0) 12 7 0) = q107 at h hI109 ⊢
    have h := xb_eq h
    show V 0 0 423 [(0, .ref 12), (1, .ref (1000 + a1))] [] LAY (q107, L)
    refine x_goto C (show decode cX4_perform 423 = .ok (.goto 245, 3) from by decide +kernel) (tgt := 668) (by decide) ?_
    subst h
    exact x_vret C (show decode cX4_perform 668 = .ok (.return_, 1) from by decide +kernel) (x_finV ⟨⟨rfl, rfl⟩, hI109⟩) (Nat.le_refl 0) (Nat.le_refl 0)
  rw [if_neg c106] at h
  by_cases c110 : (opS.getD a1 0) = 28
  · rw [if_pos c110] at h
    refine x_tin C (show decode cX4_perform 18 = .ok (.tableswitch 645 1 45 #[219, 219, 219, 219, 219, 219, 231, 219, 219, 219, 194, 242, 242, 242, 254, 265, 276, 287, 302, 316, 330, 349, 364, 371, 378, 388, 398, 408, 430, 437, 444, 466, 473, 504, 518, 534, 548, 555, 562, 584, 599, 610, 624, 631, 638], 194) from by decide +kernel) 28 c110 (off := 408) (tgt := 426) (by decide) ?_
    refine x_run C e_X4_perform_23 e_X4_perform_23_k (pc' := 439) (lv' := [(0, .ref 12), (1, .ref (1000 + a1))]) (st' := [.int (M 11 1), .int 0, .ref 13, .ref 12]) (σ' := ((xup (xup M 12 6 0) 12 7 0), L)) rfl ⟨trivial, trivial, trivial, trivial, trivial, trivial, trivial, trivial⟩ ?_
    refine x_callV C (k := 13) (ci := 0) (rest := [.ref 12]) (avs := [.int 0, .int (M 11 1)]) (k_X1_tested l 0 (M 11 1) (xup (xup M 12 6 0) 12 7 0) L hI1) yoX1_tested ml_X4_70 rfl rfl rfl rfl ⟨Nat.zero_le _, Nat.zero_le _⟩ (show decode cX4_perform 439 = .ok (.invokevirtual 70, 3) from by decide +kernel) rfl (fun v σ' hPo => ?_)
    obtain ⟨⟨rfl, rfl⟩, g112, hI113⟩ := hPo
    generalize hq111 : f_X1_tested 0 (M 11 1) (xup (xup M 12 6 0) 12 7 0) = q111 at h g112 hI113 ⊢
    obtain ⟨r111, M111⟩ := q111
    have h := xb_eq h
    try dsimp only at h g112 hI113
    show V 0 0 442 [(0, .ref 12), (1, .ref (1000 + a1))] [.int r111, .ref 12] LAY (M111, L)
    refine x_callV C (k := 12) (ci := 3) (rest := []) (avs := [.int r111]) (k_X4_overwrite l r111 M111 L hI113) yoX4_overwrite ml_X4_74 rfl rfl rfl rfl ⟨Nat.zero_le _, Nat.zero_le _⟩ (show decode cX4_perform 442 = .ok (.invokevirtual 74, 3) from by decide +kernel) rfl (fun v σ' hPo => ?_)
    obtain ⟨⟨rfl, rfl⟩, hI116⟩ := hPo
    generalize hq114 : f_X4_overwrite r111 M111 = q114 at h hI116 ⊢
    have h := xb_eq h
    show V 0 0 445 [(0, .ref 12), (1, .ref (1000 + a1))] [] LAY (q114, L)
    refine x_goto C (show decode cX4_perform 445 = .ok (.goto 223, 3) from by decide +kernel) (tgt := 668) (by decide) ?_
    subst h
    exact x_vret C (show decode cX4_perform 668 = .ok (.return_, 1) from by decide +kernel) (x_finV ⟨⟨rfl, rfl⟩, hI116⟩) (Nat.le_refl 0) (Nat.le_refl 0)
  rw [if_neg c110] at h
  by_cases c117 : (opS.getD a1 0) = 29
  · rw [if_pos c117] at h
    refine x_tin C (show decode cX4_perform 18 = .ok (.tableswitch 645 1 45 #[219, 219, 219, 219, 219, 219, 231, 219, 219, 219, 194, 242, 242, 242, 254, 265, 276, 287, 302, 316, 330, 349, 364, 371, 378, 388, 398, 408, 430, 437, 444, 466, 473, 504, 518, 534, 548, 555, 562, 584, 599, 610, 624, 631, 638], 194) from by decide +kernel) 29 c117 (off := 430) (tgt := 448) (by decide) ?_
    refine x_run C e_X4_perform_24 e_X4_perform_24_k (pc' := 449) (lv' := [(0, .ref 12), (1, .ref (1000 + a1))]) (st' := [.ref 12]) (σ' := ((xup (xup M 12 6 0) 12 7 0), L)) rfl ⟨trivial, trivial⟩ ?_
    refine x_callV C (k := 12) (ci := 3) (rest := []) (avs := []) (k_X4_turn l  (xup (xup M 12 6 0) 12 7 0) L hI1) yoX4_turn ml_X4_144 rfl rfl rfl rfl ⟨Nat.zero_le _, Nat.zero_le _⟩ (show decode cX4_perform 449 = .ok (.invokevirtual 144, 3) from by decide +kernel) rfl (fun v σ' hPo => ?_)
    obtain ⟨⟨rfl, rfl⟩, hI120⟩ := hPo
    generalize hq118 : f_X4_turn  (xup (xup M 12 6 0) 12 7 0) = q118 at h hI120 ⊢
    have h := xb_eq h
    show V 0 0 452 [(0, .ref 12), (1, .ref (1000 + a1))] [] LAY (q118, L)
    refine x_goto C (show decode cX4_perform 452 = .ok (.goto 216, 3) from by decide +kernel) (tgt := 668) (by decide) ?_
    subst h
    exact x_vret C (show decode cX4_perform 668 = .ok (.return_, 1) from by decide +kernel) (x_finV ⟨⟨rfl, rfl⟩, hI120⟩) (Nat.le_refl 0) (Nat.le_refl 0)
  rw [if_neg c117] at h
  by_cases c121 : (opS.getD a1 0) = 30
  · rw [if_pos c121] at h
    refine x_tin C (show decode cX4_perform 18 = .ok (.tableswitch 645 1 45 #[219, 219, 219, 219, 219, 219, 231, 219, 219, 219, 194, 242, 242, 242, 254, 265, 276, 287, 302, 316, 330, 349, 364, 371, 378, 388, 398, 408, 430, 437, 444, 466, 473, 504, 518, 534, 548, 555, 562, 584, 599, 610, 624, 631, 638], 194) from by decide +kernel) 30 c121 (off := 437) (tgt := 455) (by decide) ?_
    refine x_run C e_X4_perform_25 e_X4_perform_25_k (pc' := 456) (lv' := [(0, .ref 12), (1, .ref (1000 + a1))]) (st' := [.ref 12]) (σ' := ((xup (xup M 12 6 0) 12 7 0), L)) rfl ⟨trivial, trivial⟩ ?_
    refine x_callV C (k := 12) (ci := 3) (rest := []) (avs := []) (k_X4_extend l  (xup (xup M 12 6 0) 12 7 0) L hI1) yoX4_extend ml_X4_147 rfl rfl rfl rfl ⟨Nat.zero_le _, Nat.zero_le _⟩ (show decode cX4_perform 456 = .ok (.invokevirtual 147, 3) from by decide +kernel) rfl (fun v σ' hPo => ?_)
    obtain ⟨⟨rfl, rfl⟩, hI124⟩ := hPo
    generalize hq122 : f_X4_extend  (xup (xup M 12 6 0) 12 7 0) = q122 at h hI124 ⊢
    have h := xb_eq h
    show V 0 0 459 [(0, .ref 12), (1, .ref (1000 + a1))] [] LAY (q122, L)
    refine x_goto C (show decode cX4_perform 459 = .ok (.goto 209, 3) from by decide +kernel) (tgt := 668) (by decide) ?_
    subst h
    exact x_vret C (show decode cX4_perform 668 = .ok (.return_, 1) from by decide +kernel) (x_finV ⟨⟨rfl, rfl⟩, hI124⟩) (Nat.le_refl 0) (Nat.le_refl 0)
  rw [if_neg c121] at h
  by_cases c125 : (opS.getD a1 0) = 31
  · rw [if_pos c125] at h
    refine x_tin C (show decode cX4_perform 18 = .ok (.tableswitch 645 1 45 #[219, 219, 219, 219, 219, 219, 231, 219, 219, 219, 194, 242, 242, 242, 254, 265, 276, 287, 302, 316, 330, 349, 364, 371, 378, 388, 398, 408, 430, 437, 444, 466, 473, 504, 518, 534, 548, 555, 562, 584, 599, 610, 624, 631, 638], 194) from by decide +kernel) 31 c125 (off := 444) (tgt := 462) (by decide) ?_
    refine x_run C e_X4_perform_26 e_X4_perform_26_k (pc' := 467) (lv' := [(0, .ref 12), (1, .ref (1000 + a1))]) (st' := [.ref 12, .ref 13]) (σ' := ((xup (xup M 12 6 0) 12 7 0), L)) rfl ⟨trivial, trivial, trivial, trivial⟩ ?_
    refine x_callV C (k := 12) (ci := 3) (rest := [.ref 13]) (avs := []) (k_X4_readSource l  (xup (xup M 12 6 0) 12 7 0) L hI1) yoX4_readSource ml_X4_62 rfl rfl rfl rfl ⟨Nat.zero_le _, Nat.zero_le _⟩ (show decode cX4_perform 467 = .ok (.invokevirtual 62, 3) from by decide +kernel) rfl (fun v σ' hPo => ?_)
    obtain ⟨⟨rfl, rfl⟩, g127, hI128⟩ := hPo
    generalize hq126 : f_X4_readSource  (xup (xup M 12 6 0) 12 7 0) = q126 at h g127 hI128 ⊢
    obtain ⟨r126, M126⟩ := q126
    have h := xb_eq h
    try dsimp only at h g127 hI128
    show V 0 0 470 [(0, .ref 12), (1, .ref (1000 + a1))] [.int r126, .ref 13] LAY (M126, L)
    refine x_run C e_X4_perform_27 e_X4_perform_27_k (pc' := 477) (lv' := [(0, .ref 12), (1, .ref (1000 + a1))]) (st' := [.int (M126 11 1), .int r126, .ref 13]) (σ' := (M126, L)) rfl ⟨trivial, trivial, trivial, trivial⟩ ?_
    refine x_callV C (k := 13) (ci := 0) (rest := []) (avs := [.int r126, .int (M126 11 1)]) (k_X1_tested l r126 (M126 11 1) M126 L hI128) yoX1_tested ml_X4_70 rfl rfl rfl rfl ⟨Nat.zero_le _, Nat.zero_le _⟩ (show decode cX4_perform 477 = .ok (.invokevirtual 70, 3) from by decide +kernel) rfl (fun v σ' hPo => ?_)
    obtain ⟨⟨rfl, rfl⟩, g130, hI131⟩ := hPo
    generalize hq129 : f_X1_tested r126 (M126 11 1) M126 = q129 at h g130 hI131 ⊢
    obtain ⟨r129, M129⟩ := q129
    have h := xb_eq h
    try dsimp only at h g130 hI131
    show V 0 0 480 [(0, .ref 12), (1, .ref (1000 + a1))] [.int r129] LAY (M129, L)
    refine x_run C e_X4_perform_28 e_X4_perform_28_k (pc' := 481) (lv' := [(0, .ref 12), (1, .ref (1000 + a1))]) (st' := []) (σ' := (M129, L)) rfl ⟨trivial, trivial⟩ ?_
    refine x_goto C (show decode cX4_perform 481 = .ok (.goto 187, 3) from by decide +kernel) (tgt := 668) (by decide) ?_
    subst h
    exact x_vret C (show decode cX4_perform 668 = .ok (.return_, 1) from by decide +kernel) (x_finV ⟨⟨rfl, rfl⟩, hI131⟩) (Nat.le_refl 0) (Nat.le_refl 0)
  rw [if_neg c125] at h
  by_cases c132 : (opS.getD a1 0) = 32
  · rw [if_pos c132] at h
    refine x_tin C (show decode cX4_perform 18 = .ok (.tableswitch 645 1 45 #[219, 219, 219, 219, 219, 219, 231, 219, 219, 219, 194, 242, 242, 242, 254, 265, 276, 287, 302, 316, 330, 349, 364, 371, 378, 388, 398, 408, 430, 437, 444, 466, 473, 504, 518, 534, 548, 555, 562, 584, 599, 610, 624, 631, 638], 194) from by decide +kernel) 32 c132 (off := 466) (tgt := 484) (by decide) ?_
    refine x_run C e_X4_perform_29 e_X4_perform_29_k (pc' := 485) (lv' := [(0, .ref 12), (1, .ref (1000 + a1))]) (st' := [.ref 12]) (σ' := ((xup (xup M 12 6 0) 12 7 0), L)) rfl ⟨trivial, trivial⟩ ?_
    refine x_callV C (k := 12) (ci := 3) (rest := []) (avs := []) (k_X4_testAndSet l  (xup (xup M 12 6 0) 12 7 0) L hI1) yoX4_testAndSet ml_X4_150 rfl rfl rfl rfl ⟨Nat.zero_le _, Nat.zero_le _⟩ (show decode cX4_perform 485 = .ok (.invokevirtual 150, 3) from by decide +kernel) rfl (fun v σ' hPo => ?_)
    obtain ⟨⟨rfl, rfl⟩, hI135⟩ := hPo
    generalize hq133 : f_X4_testAndSet  (xup (xup M 12 6 0) 12 7 0) = q133 at h hI135 ⊢
    have h := xb_eq h
    show V 0 0 488 [(0, .ref 12), (1, .ref (1000 + a1))] [] LAY (q133, L)
    refine x_goto C (show decode cX4_perform 488 = .ok (.goto 180, 3) from by decide +kernel) (tgt := 668) (by decide) ?_
    subst h
    exact x_vret C (show decode cX4_perform 668 = .ok (.return_, 1) from by decide +kernel) (x_finV ⟨⟨rfl, rfl⟩, hI135⟩) (Nat.le_refl 0) (Nat.le_refl 0)
  rw [if_neg c132] at h
  by_cases c136 : (opS.getD a1 0) = 33
  · rw [if_pos c136] at h
    refine x_tin C (show decode cX4_perform 18 = .ok (.tableswitch 645 1 45 #[219, 219, 219, 219, 219, 219, 231, 219, 219, 219, 194, 242, 242, 242, 254, 265, 276, 287, 302, 316, 330, 349, 364, 371, 378, 388, 398, 408, 430, 437, 444, 466, 473, 504, 518, 534, 548, 555, 562, 584, 599, 610, 624, 631, 638], 194) from by decide +kernel) 33 c136 (off := 473) (tgt := 491) (by decide) ?_
    refine x_run C e_X4_perform_30 e_X4_perform_30_k (pc' := 500) (lv' := [(0, .ref 12), (1, .ref (1000 + a1))]) (st' := [.ref 11, .ref 1, .ref 12]) (σ' := ((xup (xup M 12 6 0) 12 7 0), L)) rfl ⟨trivial, trivial, trivial, trivial, trivial, trivial⟩ ?_
    refine x_callV C (k := 11) (ci := 2) (rest := [.ref 1, .ref 12]) (avs := []) (k_X3_condition l  (xup (xup M 12 6 0) 12 7 0) L hI1) yoX3_condition ml_X4_153 rfl rfl rfl rfl ⟨Nat.zero_le _, Nat.zero_le _⟩ (show decode cX4_perform 500 = .ok (.invokevirtual 153, 3) from by decide +kernel) rfl (fun v σ' hPo => ?_)
    obtain ⟨⟨rfl, rfl⟩, g138, hI139⟩ := hPo
    show V 0 0 503 [(0, .ref 12), (1, .ref (1000 + a1))] [.int (f_X3_condition  (xup (xup M 12 6 0) 12 7 0)), .ref 1, .ref 12] LAY ((xup (xup M 12 6 0) 12 7 0), L)
    refine x_callV C (k := 1) (ci := 6) (rest := [.ref 12]) (avs := [.int (f_X3_condition  (xup (xup M 12 6 0) 12 7 0))]) (k_X8_holds l (f_X3_condition  (xup (xup M 12 6 0) 12 7 0)) (xup (xup M 12 6 0) 12 7 0) L hI1) yoX8_holds ml_X4_156 rfl rfl rfl rfl ⟨Nat.zero_le _, Nat.zero_le _⟩ (show decode cX4_perform 503 = .ok (.invokevirtual 156, 3) from by decide +kernel) rfl (fun v σ' hPo => ?_)
    obtain ⟨⟨rfl, rfl⟩, g141, hI142⟩ := hPo
    generalize hq140 : f_X8_holds (f_X3_condition  (xup (xup M 12 6 0) 12 7 0)) (xup (xup M 12 6 0) 12 7 0) = q140 at h g141 ⊢
    have h := xb_eq h
    show V 0 0 506 [(0, .ref 12), (1, .ref (1000 + a1))] [.int q140, .ref 12] LAY ((xup (xup M 12 6 0) 12 7 0), L)
    refine x_if_eq C (show decode cX4_perform 506 = .ok (.ifCond .eq 9, 3) from by decide +kernel) (tgt := 515) (by decide) (fun c143 => ?_) (fun c143 => ?_)
    · rw [if_pos c143] at h
      have g144 : xrg 0 0 q140 := (x_c_eq g141 (x_rgc (x := 0) (k := 0) (by decide)) c143).1
      refine x_run C e_X4_perform_31 e_X4_perform_31_k (pc' := 516) (lv' := [(0, .ref 12), (1, .ref (1000 + a1))]) (st' := [.int 0, .ref 12]) (σ' := ((xup (xup M 12 6 0) 12 7 0), L)) rfl ⟨trivial, trivial⟩ ?_
      refine x_lv C [] rfl ?_
      exact b_X4_perform_516 r C 0 (xup (xup M 12 6 0) 12 7 0) (x_rgw (x_rgc (x := 0) (k := 0) (by decide)) (lo' := 0) (hi' := 255) (by decide) (by decide)) hI1 h
    · rw [if_neg c143] at h
      have g145 : xrg 1 1 q140 := (x_c_ne g141 (by decide) c143)
      refine x_run C e_X4_perform_32 e_X4_perform_32_k (pc' := 512) (lv' := [(0, .ref 12), (1, .ref (1000 + a1))]) (st' := [.int 255, .ref 12]) (σ' := ((xup (xup M 12 6 0) 12 7 0), L)) rfl ⟨trivial, trivial⟩ ?_
      refine x_goto C (show decode cX4_perform 512 = .ok (.goto 4, 3) from by decide +kernel) (tgt := 516) (by decide) ?_
      refine x_lv C [] rfl ?_
      exact b_X4_perform_516 r C 255 (xup (xup M 12 6 0) 12 7 0) (x_rgw (x_rgc (x := 255) (k := 255) (by decide)) (lo' := 0) (hi' := 255) (by decide) (by decide)) hI1 h
  rw [if_neg c136] at h
  by_cases c146 : (opS.getD a1 0) = 34
  · rw [if_pos c146] at h
    refine x_tin C (show decode cX4_perform 18 = .ok (.tableswitch 645 1 45 #[219, 219, 219, 219, 219, 219, 231, 219, 219, 219, 194, 242, 242, 242, 254, 265, 276, 287, 302, 316, 330, 349, 364, 371, 378, 388, 398, 408, 430, 437, 444, 466, 473, 504, 518, 534, 548, 555, 562, 584, 599, 610, 624, 631, 638], 194) from by decide +kernel) 34 c146 (off := 504) (tgt := 522) (by decide) ?_
    refine x_run C e_X4_perform_33 e_X4_perform_33_k (pc' := 530) (lv' := [(0, .ref 12), (1, .ref (1000 + a1))]) (st' := [.int (M 2 18), .ref 12]) (σ' := ((xup (xup M 12 6 0) 12 7 0), L)) rfl ⟨trivial, trivial, trivial, trivial, (x_rgv (x_rgc (x := 18) (k := 18) (by decide)) (by decide) (by decide)), trivial⟩ ?_
    refine x_callV C (k := 12) (ci := 3) (rest := []) (avs := [.int (M 2 18)]) (k_X4_overwrite l (M 2 18) (xup (xup M 12 6 0) 12 7 0) L hI1) yoX4_overwrite ml_X4_74 rfl rfl rfl rfl ⟨Nat.zero_le _, Nat.zero_le _⟩ (show decode cX4_perform 530 = .ok (.invokevirtual 74, 3) from by decide +kernel) rfl (fun v σ' hPo => ?_)
    obtain ⟨⟨rfl, rfl⟩, hI149⟩ := hPo
    generalize hq147 : f_X4_overwrite (M 2 18) (xup (xup M 12 6 0) 12 7 0) = q147 at h hI149 ⊢
    have h := xb_eq h
    show V 0 0 533 [(0, .ref 12), (1, .ref (1000 + a1))] [] LAY (q147, L)
    refine x_goto C (show decode cX4_perform 533 = .ok (.goto 135, 3) from by decide +kernel) (tgt := 668) (by decide) ?_
    subst h
    exact x_vret C (show decode cX4_perform 668 = .ok (.return_, 1) from by decide +kernel) (x_finV ⟨⟨rfl, rfl⟩, hI149⟩) (Nat.le_refl 0) (Nat.le_refl 0)
  rw [if_neg c146] at h
  by_cases c150 : (opS.getD a1 0) = 35
  · rw [if_pos c150] at h
    refine x_tin C (show decode cX4_perform 18 = .ok (.tableswitch 645 1 45 #[219, 219, 219, 219, 219, 219, 231, 219, 219, 219, 194, 242, 242, 242, 254, 265, 276, 287, 302, 316, 330, 349, 364, 371, 378, 388, 398, 408, 430, 437, 444, 466, 473, 504, 518, 534, 548, 555, 562, 584, 599, 610, 624, 631, 638], 194) from by decide +kernel) 35 c150 (off := 518) (tgt := 536) (by decide) ?_
    refine x_run C e_X4_perform_34 e_X4_perform_34_k (pc' := 543) (lv' := [(0, .ref 12), (1, .ref (1000 + a1))]) (st' := [.ref 12, .int 31, .ref 1]) (σ' := ((xup (xup M 12 6 0) 12 7 0), L)) rfl ⟨trivial, trivial, trivial, trivial, trivial⟩ ?_
    refine x_callV C (k := 12) (ci := 3) (rest := [.int 31, .ref 1]) (avs := []) (k_X4_readSource l  (xup (xup M 12 6 0) 12 7 0) L hI1) yoX4_readSource ml_X4_62 rfl rfl rfl rfl ⟨Nat.zero_le _, Nat.zero_le _⟩ (show decode cX4_perform 543 = .ok (.invokevirtual 62, 3) from by decide +kernel) rfl (fun v σ' hPo => ?_)
    obtain ⟨⟨rfl, rfl⟩, g152, hI153⟩ := hPo
    generalize hq151 : f_X4_readSource  (xup (xup M 12 6 0) 12 7 0) = q151 at h g152 hI153 ⊢
    obtain ⟨r151, M151⟩ := q151
    have h := xb_eq h
    try dsimp only at h g152 hI153
    show V 0 0 546 [(0, .ref 12), (1, .ref (1000 + a1))] [.int r151, .int 31, .ref 1] LAY (M151, L)
    refine x_callV C (k := 1) (ci := 6) (rest := []) (avs := [.int 31, .int r151]) (k_X8_changeFlags l 31 r151 M151 L hI153) yoX8_changeFlags ml_X4_160 rfl rfl rfl rfl ⟨Nat.zero_le _, Nat.zero_le _⟩ (show decode cX4_perform 546 = .ok (.invokevirtual 160, 3) from by decide +kernel) rfl (fun v σ' hPo => ?_)
    obtain ⟨⟨rfl, rfl⟩, hI156⟩ := hPo
    generalize hq154 : f_X8_changeFlags 31 r151 M151 = q154 at h hI156 ⊢
    have h := xb_eq h
    show V 0 0 549 [(0, .ref 12), (1, .ref (1000 + a1))] [] LAY (q154, L)
    refine x_goto C (show decode cX4_perform 549 = .ok (.goto 119, 3) from by decide +kernel) (tgt := 668) (by decide) ?_
    subst h
    exact x_vret C (show decode cX4_perform 668 = .ok (.return_, 1) from by decide +kernel) (x_finV ⟨⟨rfl, rfl⟩, hI156⟩) (Nat.le_refl 0) (Nat.le_refl 0)
  rw [if_neg c150] at h
  by_cases c157 : (opS.getD a1 0) = 36
  · rw [if_pos c157] at h
    refine x_tin C (show decode cX4_perform 18 = .ok (.tableswitch 645 1 45 #[219, 219, 219, 219, 219, 219, 231, 219, 219, 219, 194, 242, 242, 242, 254, 265, 276, 287, 302, 316, 330, 349, 364, 371, 378, 388, 398, 408, 430, 437, 444, 466, 473, 504, 518, 534, 548, 555, 562, 584, 599, 610, 624, 631, 638], 194) from by decide +kernel) 36 c157 (off := 534) (tgt := 552) (by decide) ?_
    refine x_run C e_X4_perform_35 e_X4_perform_35_k (pc' := 557) (lv' := [(0, .ref 12), (1, .ref (1000 + a1))]) (st' := [.ref 12, .ref 1]) (σ' := ((xup (xup M 12 6 0) 12 7 0), L)) rfl ⟨trivial, trivial, trivial, trivial⟩ ?_
    refine x_callV C (k := 12) (ci := 3) (rest := [.ref 1]) (avs := []) (k_X4_readSource l  (xup (xup M 12 6 0) 12 7 0) L hI1) yoX4_readSource ml_X4_62 rfl rfl rfl rfl ⟨Nat.zero_le _, Nat.zero_le _⟩ (show decode cX4_perform 557 = .ok (.invokevirtual 62, 3) from by decide +kernel) rfl (fun v σ' hPo => ?_)
    obtain ⟨⟨rfl, rfl⟩, g159, hI160⟩ := hPo
    generalize hq158 : f_X4_readSource  (xup (xup M 12 6 0) 12 7 0) = q158 at h g159 hI160 ⊢
    obtain ⟨r158, M158⟩ := q158
    have h := xb_eq h
    try dsimp only at h g159 hI160
    show V 0 0 560 [(0, .ref 12), (1, .ref (1000 + a1))] [.int r158, .ref 1] LAY (M158, L)
    refine x_callV C (k := 1) (ci := 6) (rest := []) (avs := [.int r158]) (k_X8_changeStatus l r158 M158 L hI160) yoX8_changeStatus ml_X4_164 rfl rfl rfl rfl ⟨Nat.zero_le _, Nat.zero_le _⟩ (show decode cX4_perform 560 = .ok (.invokevirtual 164, 3) from by decide +kernel) rfl (fun v σ' hPo => ?_)
    obtain ⟨⟨rfl, rfl⟩, hI163⟩ := hPo
    generalize hq161 : f_X8_changeStatus r158 M158 = q161 at h hI163 ⊢
    have h := xb_eq h
    show V 0 0 563 [(0, .ref 12), (1, .ref (1000 + a1))] [] LAY (q161, L)
    refine x_goto C (show decode cX4_perform 563 = .ok (.goto 105, 3) from by decide +kernel) (tgt := 668) (by decide) ?_
    subst h
    exact x_vret C (show decode cX4_perform 668 = .ok (.return_, 1) from by decide +kernel) (x_finV ⟨⟨rfl, rfl⟩, hI163⟩) (Nat.le_refl 0) (Nat.le_refl 0)
  rw [if_neg c157] at h
  by_cases c164 : (opS.getD a1 0) = 37
  · rw [if_pos c164] at h
    refine x_tin C (show decode cX4_perform 18 = .ok (.tableswitch 645 1 45 #[219, 219, 219, 219, 219, 219, 231, 219, 219, 219, 194, 242, 242, 242, 254, 265, 276, 287, 302, 316, 330, 349, 364, 371, 378, 388, 398, 408, 430, 437, 444, 466, 473, 504, 518, 534, 548, 555, 562, 584, 599, 610, 624, 631, 638], 194) from by decide +kernel) 37 c164 (off := 548) (tgt := 566) (by decide) ?_
    refine x_run C e_X4_perform_36 e_X4_perform_36_k (pc' := 567) (lv' := [(0, .ref 12), (1, .ref (1000 + a1))]) (st' := [.ref 12]) (σ' := ((xup (xup M 12 6 0) 12 7 0), L)) rfl ⟨trivial, trivial⟩ ?_
    refine x_callV C (k := 12) (ci := 3) (rest := []) (avs := []) (k_X4_storeMany l  (xup (xup M 12 6 0) 12 7 0) L hI1) yoX4_storeMany ml_X4_167 rfl rfl rfl rfl ⟨Nat.zero_le _, Nat.zero_le _⟩ (show decode cX4_perform 567 = .ok (.invokevirtual 167, 3) from by decide +kernel) rfl (fun v σ' hPo => ?_)
    obtain ⟨⟨rfl, rfl⟩, hI167⟩ := hPo
    generalize hq165 : f_X4_storeMany  (xup (xup M 12 6 0) 12 7 0) = q165 at h hI167 ⊢
    have h := xb_eq h
    show V 0 0 570 [(0, .ref 12), (1, .ref (1000 + a1))] [] LAY (q165, L)
    refine x_goto C (show decode cX4_perform 570 = .ok (.goto 98, 3) from by decide +kernel) (tgt := 668) (by decide) ?_
    subst h
    exact x_vret C (show decode cX4_perform 668 = .ok (.return_, 1) from by decide +kernel) (x_finV ⟨⟨rfl, rfl⟩, hI167⟩) (Nat.le_refl 0) (Nat.le_refl 0)
  rw [if_neg c164] at h
  by_cases c168 : (opS.getD a1 0) = 38
  · rw [if_pos c168] at h
    refine x_tin C (show decode cX4_perform 18 = .ok (.tableswitch 645 1 45 #[219, 219, 219, 219, 219, 219, 231, 219, 219, 219, 194, 242, 242, 242, 254, 265, 276, 287, 302, 316, 330, 349, 364, 371, 378, 388, 398, 408, 430, 437, 444, 466, 473, 504, 518, 534, 548, 555, 562, 584, 599, 610, 624, 631, 638], 194) from by decide +kernel) 38 c168 (off := 555) (tgt := 573) (by decide) ?_
    refine x_run C e_X4_perform_37 e_X4_perform_37_k (pc' := 574) (lv' := [(0, .ref 12), (1, .ref (1000 + a1))]) (st' := [.ref 12]) (σ' := ((xup (xup M 12 6 0) 12 7 0), L)) rfl ⟨trivial, trivial⟩ ?_
    refine x_callV C (k := 12) (ci := 3) (rest := []) (avs := []) (k_X4_loadMany l  (xup (xup M 12 6 0) 12 7 0) L hI1) yoX4_loadMany ml_X4_170 rfl rfl rfl rfl ⟨Nat.zero_le _, Nat.zero_le _⟩ (show decode cX4_perform 574 = .ok (.invokevirtual 170, 3) from by decide +kernel) rfl (fun v σ' hPo => ?_)
    obtain ⟨⟨rfl, rfl⟩, hI171⟩ := hPo
    generalize hq169 : f_X4_loadMany  (xup (xup M 12 6 0) 12 7 0) = q169 at h hI171 ⊢
    have h := xb_eq h
    show V 0 0 577 [(0, .ref 12), (1, .ref (1000 + a1))] [] LAY (q169, L)
    refine x_goto C (show decode cX4_perform 577 = .ok (.goto 91, 3) from by decide +kernel) (tgt := 668) (by decide) ?_
    subst h
    exact x_vret C (show decode cX4_perform 668 = .ok (.return_, 1) from by decide +kernel) (x_finV ⟨⟨rfl, rfl⟩, hI171⟩) (Nat.le_refl 0) (Nat.le_refl 0)
  rw [if_neg c168] at h
  by_cases c172 : (opS.getD a1 0) = 39
  · rw [if_pos c172] at h
    refine x_tin C (show decode cX4_perform 18 = .ok (.tableswitch 645 1 45 #[219, 219, 219, 219, 219, 219, 231, 219, 219, 219, 194, 242, 242, 242, 254, 265, 276, 287, 302, 316, 330, 349, 364, 371, 378, 388, 398, 408, 430, 437, 444, 466, 473, 504, 518, 534, 548, 555, 562, 584, 599, 610, 624, 631, 638], 194) from by decide +kernel) 39 c172 (off := 562) (tgt := 580) (by decide) ?_
    refine x_run C e_X4_perform_38 e_X4_perform_38_k (pc' := 590) (lv' := [(0, .ref 12), (1, .ref (1000 + a1))]) (st' := [.ref 11, .int 8, .ref 2]) (σ' := ((xup (xup M 12 6 0) 12 7 0), L)) rfl ⟨trivial, trivial, trivial, trivial, trivial, trivial⟩ ?_
    refine x_callV C (k := 11) (ci := 2) (rest := [.int 8, .ref 2]) (avs := []) (k_X3_upperRegister l  (xup (xup M 12 6 0) 12 7 0) L hI1) yoX3_upperRegister ml_X4_116 rfl rfl rfl rfl ⟨Nat.zero_le _, Nat.zero_le _⟩ (show decode cX4_perform 590 = .ok (.invokevirtual 116, 3) from by decide +kernel) rfl (fun v σ' hPo => ?_)
    obtain ⟨⟨rfl, rfl⟩, g174, hI175⟩ := hPo
    show V 0 0 593 [(0, .ref 12), (1, .ref (1000 + a1))] [.int (f_X3_upperRegister  (xup (xup M 12 6 0) 12 7 0)), .int 8, .ref 2] LAY ((xup (xup M 12 6 0) 12 7 0), L)
    refine x_run C e_X4_perform_39 e_X4_perform_39_k (pc' := 595) (lv' := [(0, .ref 12), (1, .ref (1000 + a1))]) (st' := [.ref 12, .int (8 + (f_X3_upperRegister  (xup (xup M 12 6 0) 12 7 0))), .ref 2]) (σ' := ((xup (xup M 12 6 0) 12 7 0), L)) rfl ⟨trivial, trivial, trivial⟩ ?_
    refine x_callV C (k := 12) (ci := 3) (rest := [.int (8 + (f_X3_upperRegister  (xup (xup M 12 6 0) 12 7 0))), .ref 2]) (avs := []) (k_X4_address l  (xup (xup M 12 6 0) 12 7 0) L hI1) yoX4_address ml_X4_173 rfl rfl rfl rfl ⟨Nat.zero_le _, Nat.zero_le _⟩ (show decode cX4_perform 595 = .ok (.invokevirtual 173, 3) from by decide +kernel) rfl (fun v σ' hPo => ?_)
    obtain ⟨⟨rfl, rfl⟩, g177, hI178⟩ := hPo
    generalize hq176 : f_X4_address  (xup (xup M 12 6 0) 12 7 0) = q176 at h g177 hI178 ⊢
    obtain ⟨r176, M176⟩ := q176
    have h := xb_eq h
    try dsimp only at h g177 hI178
    show V 0 0 598 [(0, .ref 12), (1, .ref (1000 + a1))] [.int r176, .int (8 + (f_X3_upperRegister  (xup (xup M 12 6 0) 12 7 0))), .ref 2] LAY (M176, L)
    refine x_run C e_X4_perform_40 e_X4_perform_40_k (pc' := 599) (lv' := [(0, .ref 12), (1, .ref (1000 + a1))]) (st' := []) (σ' := ((xup M176 2 (8 + (f_X3_upperRegister  (xup (xup M 12 6 0) 12 7 0))).toNatClampNeg r176), L)) rfl ⟨(x_rgv (x_rg_add (x_rgc (x := 8) (k := 8) (by decide)) g174 (by decide) (by decide)) (by decide) (by decide)), trivial⟩ ?_
    have hI179 : InvK INVC (xup M176 2 (8 + (f_X3_upperRegister  (xup (xup M 12 6 0) 12 7 0))).toNatClampNeg r176) := (hI178.arr 2 ((8 + (f_X3_upperRegister  (xup (xup M 12 6 0) 12 7 0))).toNatClampNeg) r176 (by decide))
    refine x_goto C (show decode cX4_perform 599 = .ok (.goto 69, 3) from by decide +kernel) (tgt := 668) (by decide) ?_
    subst h
    exact x_vret C (show decode cX4_perform 668 = .ok (.return_, 1) from by decide +kernel) (x_finV ⟨⟨rfl, rfl⟩, hI179⟩) (Nat.le_refl 0) (Nat.le_refl 0)
  rw [if_neg c172] at h
  by_cases c180 : (opS.getD a1 0) = 40
  · rw [if_pos c180] at h
    refine x_tin C (show decode cX4_perform 18 = .ok (.tableswitch 645 1 45 #[219, 219, 219, 219, 219, 219, 231, 219, 219, 219, 194, 242, 242, 242, 254, 265, 276, 287, 302, 316, 330, 349, 364, 371, 378, 388, 398, 408, 430, 437, 444, 466, 473, 504, 518, 534, 548, 555, 562, 584, 599, 610, 624, 631, 638], 194) from by decide +kernel) 40 c180 (off := 584) (tgt := 602) (by decide) ?_
    refine x_run C e_X4_perform_41 e_X4_perform_41_k (pc' := 608) (lv' := [(0, .ref 12), (1, .ref (1000 + a1))]) (st' := [.ref 12, .int 2, .ref 10]) (σ' := ((xup (xup M 12 6 0) 12 7 0), L)) rfl ⟨trivial, trivial, trivial, trivial, trivial⟩ ?_
    refine x_callV C (k := 12) (ci := 3) (rest := [.int 2, .ref 10]) (avs := []) (k_X4_address l  (xup (xup M 12 6 0) 12 7 0) L hI1) yoX4_address ml_X4_173 rfl rfl rfl rfl ⟨Nat.zero_le _, Nat.zero_le _⟩ (show decode cX4_perform 608 = .ok (.invokevirtual 173, 3) from by decide +kernel) rfl (fun v σ' hPo => ?_)
    obtain ⟨⟨rfl, rfl⟩, g182, hI183⟩ := hPo
    generalize hq181 : f_X4_address  (xup (xup M 12 6 0) 12 7 0) = q181 at h g182 hI183 ⊢
    obtain ⟨r181, M181⟩ := q181
    have h := xb_eq h
    try dsimp only at h g182 hI183
    show V 0 0 611 [(0, .ref 12), (1, .ref (1000 + a1))] [.int r181, .int 2, .ref 10] LAY (M181, L)
    refine x_callV C (k := 10) (ci := 4) (rest := []) (avs := [.int 2, .int r181]) (k_X6_push l 2 r181 M181 L hI183) yoX6_push ml_X4_176 rfl rfl rfl rfl ⟨Nat.zero_le _, Nat.zero_le _⟩ (show decode cX4_perform 611 = .ok (.invokevirtual 176, 3) from by decide +kernel) rfl (fun v σ' hPo => ?_)
    obtain ⟨⟨rfl, rfl⟩, hI186⟩ := hPo
    generalize hq184 : f_X6_push 2 r181 M181 = q184 at h hI186 ⊢
    have h := xb_eq h
    show V 0 0 614 [(0, .ref 12), (1, .ref (1000 + a1))] [] LAY (q184, L)
    refine x_goto C (show decode cX4_perform 614 = .ok (.goto 54, 3) from by decide +kernel) (tgt := 668) (by decide) ?_
    subst h
    exact x_vret C (show decode cX4_perform 668 = .ok (.return_, 1) from by decide +kernel) (x_finV ⟨⟨rfl, rfl⟩, hI186⟩) (Nat.le_refl 0) (Nat.le_refl 0)
  rw [if_neg c180] at h
  by_cases c187 : (opS.getD a1 0) = 41
  · rw [if_pos c187] at h
    refine x_tin C (show decode cX4_perform 18 = .ok (.tableswitch 645 1 45 #[219, 219, 219, 219, 219, 219, 231, 219, 219, 219, 194, 242, 242, 242, 254, 265, 276, 287, 302, 316, 330, 349, 364, 371, 378, 388, 398, 408, 430, 437, 444, 466, 473, 504, 518, 534, 548, 555, 562, 584, 599, 610, 624, 631, 638], 194) from by decide +kernel) 41 c187 (off := 599) (tgt := 617) (by decide) ?_
    refine x_run C e_X4_perform_42 e_X4_perform_42_k (pc' := 619) (lv' := [(0, .ref 12), (1, .ref (1000 + a1))]) (st' := [.ref 12, .ref 12]) (σ' := ((xup (xup M 12 6 0) 12 7 0), L)) rfl ⟨trivial, trivial, trivial⟩ ?_
    refine x_callV C (k := 12) (ci := 3) (rest := [.ref 12]) (avs := []) (k_X4_address l  (xup (xup M 12 6 0) 12 7 0) L hI1) yoX4_address ml_X4_173 rfl rfl rfl rfl ⟨Nat.zero_le _, Nat.zero_le _⟩ (show decode cX4_perform 619 = .ok (.invokevirtual 173, 3) from by decide +kernel) rfl (fun v σ' hPo => ?_)
    obtain ⟨⟨rfl, rfl⟩, g189, hI190⟩ := hPo
    generalize hq188 : f_X4_address  (xup (xup M 12 6 0) 12 7 0) = q188 at h g189 hI190 ⊢
    obtain ⟨r188, M188⟩ := q188
    have h := xb_eq h
    try dsimp only at h g189 hI190
    show V 0 0 622 [(0, .ref 12), (1, .ref (1000 + a1))] [.int r188, .ref 12] LAY (M188, L)
    refine x_callV C (k := 12) (ci := 3) (rest := []) (avs := [.int r188]) (k_X4_call l r188 M188 L hI190) yoX4_call ml_X4_179 rfl rfl rfl rfl ⟨Nat.zero_le _, Nat.zero_le _⟩ (show decode cX4_perform 622 = .ok (.invokevirtual 179, 3) from by decide +kernel) rfl (fun v σ' hPo => ?_)
    obtain ⟨⟨rfl, rfl⟩, hI193⟩ := hPo
    generalize hq191 : f_X4_call r188 M188 = q191 at h hI193 ⊢
    have h := xb_eq h
    show V 0 0 625 [(0, .ref 12), (1, .ref (1000 + a1))] [] LAY (q191, L)
    refine x_goto C (show decode cX4_perform 625 = .ok (.goto 43, 3) from by decide +kernel) (tgt := 668) (by decide) ?_
    subst h
    exact x_vret C (show decode cX4_perform 668 = .ok (.return_, 1) from by decide +kernel) (x_finV ⟨⟨rfl, rfl⟩, hI193⟩) (Nat.le_refl 0) (Nat.le_refl 0)
  rw [if_neg c187] at h
  by_cases c194 : (opS.getD a1 0) = 42
  · rw [if_pos c194] at h
    refine x_tin C (show decode cX4_perform 18 = .ok (.tableswitch 645 1 45 #[219, 219, 219, 219, 219, 219, 231, 219, 219, 219, 194, 242, 242, 242, 254, 265, 276, 287, 302, 316, 330, 349, 364, 371, 378, 388, 398, 408, 430, 437, 444, 466, 473, 504, 518, 534, 548, 555, 562, 584, 599, 610, 624, 631, 638], 194) from by decide +kernel) 42 c194 (off := 610) (tgt := 628) (by decide) ?_
    refine x_run C e_X4_perform_43 e_X4_perform_43_k (pc' := 635) (lv' := [(0, .ref 12), (1, .ref (1000 + a1))]) (st' := [.ref 12, .int 17, .ref 2]) (σ' := ((xup (xup M 12 6 0) 12 7 0), L)) rfl ⟨trivial, trivial, trivial, trivial, trivial⟩ ?_
    refine x_callV C (k := 12) (ci := 3) (rest := [.int 17, .ref 2]) (avs := []) (k_X4_address l  (xup (xup M 12 6 0) 12 7 0) L hI1) yoX4_address ml_X4_173 rfl rfl rfl rfl ⟨Nat.zero_le _, Nat.zero_le _⟩ (show decode cX4_perform 635 = .ok (.invokevirtual 173, 3) from by decide +kernel) rfl (fun v σ' hPo => ?_)
    obtain ⟨⟨rfl, rfl⟩, g196, hI197⟩ := hPo
    generalize hq195 : f_X4_address  (xup (xup M 12 6 0) 12 7 0) = q195 at h g196 hI197 ⊢
    obtain ⟨r195, M195⟩ := q195
    have h := xb_eq h
    try dsimp only at h g196 hI197
    show V 0 0 638 [(0, .ref 12), (1, .ref (1000 + a1))] [.int r195, .int 17, .ref 2] LAY (M195, L)
    refine x_run C e_X4_perform_44 e_X4_perform_44_k (pc' := 639) (lv' := [(0, .ref 12), (1, .ref (1000 + a1))]) (st' := []) (σ' := ((xup M195 2 17 r195), L)) rfl ⟨(x_rgv (x_rgc (x := 17) (k := 17) (by decide)) (by decide) (by decide)), trivial⟩ ?_
    have hI198 : InvK INVC (xup M195 2 17 r195) := (hI197.arr 2 17 r195 (by decide))
    refine x_goto C (show decode cX4_perform 639 = .ok (.goto 29, 3) from by decide +kernel) (tgt := 668) (by decide) ?_
    subst h
    exact x_vret C (show decode cX4_perform 668 = .ok (.return_, 1) from by decide +kernel) (x_finV ⟨⟨rfl, rfl⟩, hI198⟩) (Nat.le_refl 0) (Nat.le_refl 0)
  rw [if_neg c194] at h
  by_cases c199 : (opS.getD a1 0) = 43
  · rw [if_pos c199] at h
    refine x_tin C (show decode cX4_perform 18 = .ok (.tableswitch 645 1 45 #[219, 219, 219, 219, 219, 219, 231, 219, 219, 219, 194, 242, 242, 242, 254, 265, 276, 287, 302, 316, 330, 349, 364, 371, 378, 388, 398, 408, 430, 437, 444, 466, 473, 504, 518, 534, 548, 555, 562, 584, 599, 610, 624, 631, 638], 194) from by decide +kernel) 43 c199 (off := 624) (tgt := 642) (by decide) ?_
    refine x_run C e_X4_perform_45 e_X4_perform_45_k (pc' := 643) (lv' := [(0, .ref 12), (1, .ref (1000 + a1))]) (st' := [.ref 12]) (σ' := ((xup (xup M 12 6 0) 12 7 0), L)) rfl ⟨trivial, trivial⟩ ?_
    refine x_callV C (k := 12) (ci := 3) (rest := []) (avs := []) (k_X4_branch l  (xup (xup M 12 6 0) 12 7 0) L hI1) yoX4_branch ml_X4_182 rfl rfl rfl rfl ⟨Nat.zero_le _, Nat.zero_le _⟩ (show decode cX4_perform 643 = .ok (.invokevirtual 182, 3) from by decide +kernel) rfl (fun v σ' hPo => ?_)
    obtain ⟨⟨rfl, rfl⟩, hI202⟩ := hPo
    generalize hq200 : f_X4_branch  (xup (xup M 12 6 0) 12 7 0) = q200 at h hI202 ⊢
    have h := xb_eq h
    show V 0 0 646 [(0, .ref 12), (1, .ref (1000 + a1))] [] LAY (q200, L)
    refine x_goto C (show decode cX4_perform 646 = .ok (.goto 22, 3) from by decide +kernel) (tgt := 668) (by decide) ?_
    subst h
    exact x_vret C (show decode cX4_perform 668 = .ok (.return_, 1) from by decide +kernel) (x_finV ⟨⟨rfl, rfl⟩, hI202⟩) (Nat.le_refl 0) (Nat.le_refl 0)
  rw [if_neg c199] at h
  by_cases c203 : (opS.getD a1 0) = 44
  · rw [if_pos c203] at h
    refine x_tin C (show decode cX4_perform 18 = .ok (.tableswitch 645 1 45 #[219, 219, 219, 219, 219, 219, 231, 219, 219, 219, 194, 242, 242, 242, 254, 265, 276, 287, 302, 316, 330, 349, 364, 371, 378, 388, 398, 408, 430, 437, 444, 466, 473, 504, 518, 534, 548, 555, 562, 584, 599, 610, 624, 631, 638], 194) from by decide +kernel) 44 c203 (off := 631) (tgt := 649) (by decide) ?_
    refine x_run C e_X4_perform_46 e_X4_perform_46_k (pc' := 650) (lv' := [(0, .ref 12), (1, .ref (1000 + a1))]) (st' := [.ref 12]) (σ' := ((xup (xup M 12 6 0) 12 7 0), L)) rfl ⟨trivial, trivial⟩ ?_
    refine x_callV C (k := 12) (ci := 3) (rest := []) (avs := []) (k_X4_countDown l  (xup (xup M 12 6 0) 12 7 0) L hI1) yoX4_countDown ml_X4_185 rfl rfl rfl rfl ⟨Nat.zero_le _, Nat.zero_le _⟩ (show decode cX4_perform 650 = .ok (.invokevirtual 185, 3) from by decide +kernel) rfl (fun v σ' hPo => ?_)
    obtain ⟨⟨rfl, rfl⟩, hI206⟩ := hPo
    generalize hq204 : f_X4_countDown  (xup (xup M 12 6 0) 12 7 0) = q204 at h hI206 ⊢
    have h := xb_eq h
    show V 0 0 653 [(0, .ref 12), (1, .ref (1000 + a1))] [] LAY (q204, L)
    refine x_goto C (show decode cX4_perform 653 = .ok (.goto 15, 3) from by decide +kernel) (tgt := 668) (by decide) ?_
    subst h
    exact x_vret C (show decode cX4_perform 668 = .ok (.return_, 1) from by decide +kernel) (x_finV ⟨⟨rfl, rfl⟩, hI206⟩) (Nat.le_refl 0) (Nat.le_refl 0)
  rw [if_neg c203] at h
  by_cases c207 : (opS.getD a1 0) = 45
  · rw [if_pos c207] at h
    refine x_tin C (show decode cX4_perform 18 = .ok (.tableswitch 645 1 45 #[219, 219, 219, 219, 219, 219, 231, 219, 219, 219, 194, 242, 242, 242, 254, 265, 276, 287, 302, 316, 330, 349, 364, 371, 378, 388, 398, 408, 430, 437, 444, 466, 473, 504, 518, 534, 548, 555, 562, 584, 599, 610, 624, 631, 638], 194) from by decide +kernel) 45 c207 (off := 638) (tgt := 656) (by decide) ?_
    refine x_run C e_X4_perform_47 e_X4_perform_47_k (pc' := 657) (lv' := [(0, .ref 12), (1, .ref (1000 + a1))]) (st' := [.ref 12]) (σ' := ((xup (xup M 12 6 0) 12 7 0), L)) rfl ⟨trivial, trivial⟩ ?_
    refine x_callV C (k := 12) (ci := 3) (rest := []) (avs := []) (k_X4_moveBytes l  (xup (xup M 12 6 0) 12 7 0) L hI1) yoX4_moveBytes ml_X4_188 rfl rfl rfl rfl ⟨Nat.zero_le _, Nat.zero_le _⟩ (show decode cX4_perform 657 = .ok (.invokevirtual 188, 3) from by decide +kernel) rfl (fun v σ' hPo => ?_)
    obtain ⟨⟨rfl, rfl⟩, hI210⟩ := hPo
    generalize hq208 : f_X4_moveBytes  (xup (xup M 12 6 0) 12 7 0) = q208 at h hI210 ⊢
    have h := xb_eq h
    show V 0 0 660 [(0, .ref 12), (1, .ref (1000 + a1))] [] LAY (q208, L)
    refine x_goto C (show decode cX4_perform 660 = .ok (.goto 8, 3) from by decide +kernel) (tgt := 668) (by decide) ?_
    subst h
    exact x_vret C (show decode cX4_perform 668 = .ok (.return_, 1) from by decide +kernel) (x_finV ⟨⟨rfl, rfl⟩, hI210⟩) (Nat.le_refl 0) (Nat.le_refl 0)
  rw [if_neg c207] at h
  have hz : (opS.getD a1 0).toInt < 1 ∨ 45 < (opS.getD a1 0).toInt := by
    have zc2 := lv_neT (a := 1) c2 (by decide)
    have zc3 := lv_neT (a := 2) c3 (by decide)
    have zc4 := lv_neT (a := 3) c4 (by decide)
    have zc5 := lv_neT (a := 4) c5 (by decide)
    have zc6 := lv_neT (a := 5) c6 (by decide)
    have zc7 := lv_neT (a := 6) c7 (by decide)
    have zc8 := lv_neT (a := 7) c8 (by decide)
    have zc15 := lv_neT (a := 8) c15 (by decide)
    have zc16 := lv_neT (a := 9) c16 (by decide)
    have zc17 := lv_neT (a := 10) c17 (by decide)
    have zc18 := lv_neT (a := 11) c18 (by decide)
    have zc28 := lv_neT (a := 12) c28 (by decide)
    have zc29 := lv_neT (a := 13) c29 (by decide)
    have zc30 := lv_neT (a := 14) c30 (by decide)
    have zc31 := lv_neT (a := 15) c31 (by decide)
    have zc38 := lv_neT (a := 16) c38 (by decide)
    have zc45 := lv_neT (a := 17) c45 (by decide)
    have zc52 := lv_neT (a := 18) c52 (by decide)
    have zc62 := lv_neT (a := 19) c62 (by decide)
    have zc69 := lv_neT (a := 20) c69 (by decide)
    have zc76 := lv_neT (a := 21) c76 (by decide)
    have zc83 := lv_neT (a := 22) c83 (by decide)
    have zc90 := lv_neT (a := 23) c90 (by decide)
    have zc94 := lv_neT (a := 24) c94 (by decide)
    have zc98 := lv_neT (a := 25) c98 (by decide)
    have zc102 := lv_neT (a := 26) c102 (by decide)
    have zc106 := lv_neT (a := 27) c106 (by decide)
    have zc110 := lv_neT (a := 28) c110 (by decide)
    have zc117 := lv_neT (a := 29) c117 (by decide)
    have zc121 := lv_neT (a := 30) c121 (by decide)
    have zc125 := lv_neT (a := 31) c125 (by decide)
    have zc132 := lv_neT (a := 32) c132 (by decide)
    have zc136 := lv_neT (a := 33) c136 (by decide)
    have zc146 := lv_neT (a := 34) c146 (by decide)
    have zc150 := lv_neT (a := 35) c150 (by decide)
    have zc157 := lv_neT (a := 36) c157 (by decide)
    have zc164 := lv_neT (a := 37) c164 (by decide)
    have zc168 := lv_neT (a := 38) c168 (by decide)
    have zc172 := lv_neT (a := 39) c172 (by decide)
    have zc180 := lv_neT (a := 40) c180 (by decide)
    have zc187 := lv_neT (a := 41) c187 (by decide)
    have zc194 := lv_neT (a := 42) c194 (by decide)
    have zc199 := lv_neT (a := 43) c199 (by decide)
    have zc203 := lv_neT (a := 44) c203 (by decide)
    have zc207 := lv_neT (a := 45) c207 (by decide)
    omega
  refine x_tout C (show decode cX4_perform 18 = .ok (.tableswitch 645 1 45 #[219, 219, 219, 219, 219, 219, 231, 219, 219, 219, 194, 242, 242, 242, 254, 265, 276, 287, 302, 316, 330, 349, 364, 371, 378, 388, 398, 408, 430, 437, 444, 466, 473, 504, 518, 534, 548, 555, 562, 584, 599, 610, 624, 631, 638], 194) from by decide +kernel) hz (tgt := 663) (by decide) ?_
  refine x_run C e_X4_perform_48 e_X4_perform_48_k (pc' := 665) (lv' := [(0, .ref 12), (1, .ref (1000 + a1))]) (st' := [.ref (1000 + a1), .ref 12]) (σ' := ((xup (xup M 12 6 0) 12 7 0), L)) rfl ⟨trivial, trivial, trivial⟩ ?_
  refine x_callV C (k := 12) (ci := 3) (rest := []) (avs := [.ref (1000 + a1)]) (k_X4_performRest l a1 (xup (xup M 12 6 0) 12 7 0) L hb1 hI1) yoX4_performRest ml_X4_191 rfl rfl rfl rfl ⟨Nat.zero_le _, Nat.zero_le _⟩ (show decode cX4_perform 665 = .ok (.invokevirtual 191, 3) from by decide +kernel) rfl (fun v σ' hPo => ?_)
  obtain ⟨⟨rfl, rfl⟩, hI213⟩ := hPo
  generalize hq211 : f_X4_performRest a1 (xup (xup M 12 6 0) 12 7 0) = q211 at h hI213 ⊢
  have h := xb_eq h
  show V 0 0 668 [(0, .ref 12), (1, .ref (1000 + a1))] [] LAY (q211, L)
  subst h
  exact x_vret C (show decode cX4_perform 668 = .ok (.return_, 1) from by decide +kernel) (x_finV ⟨⟨rfl, rfl⟩, hI213⟩) (Nat.le_refl 0) (Nat.le_refl 0)
-- X7_isOfInstruction
def e_X7_isOfInstruction_1 : List xI := [(0, .iload_n 0, 1, .null)]
theorem e_X7_isOfInstruction_1_k : e_X7_isOfInstruction_1.all (fun q => xokB cX7_isOfInstruction q && xokL q) = true := by decide +kernel
def e_X7_isOfInstruction_2 : List xI := [(30, .iconst 1, 1, .int 1)]
theorem e_X7_isOfInstruction_2_k : e_X7_isOfInstruction_2.all (fun q => xokB cX7_isOfInstruction q && xokL q) = true := by decide +kernel
def e_X7_isOfInstruction_3 : List xI := [(7, .iload_n 0, 1, .null), (8, .iconst 4, 1, .int 4)]
theorem e_X7_isOfInstruction_3_k : e_X7_isOfInstruction_3.all (fun q => xokB cX7_isOfInstruction q && xokL q) = true := by decide +kernel
def e_X7_isOfInstruction_4 : List xI := [(12, .iload_n 0, 1, .null), (13, .bipush 8, 2, .int 8)]
theorem e_X7_isOfInstruction_4_k : e_X7_isOfInstruction_4.all (fun q => xokB cX7_isOfInstruction q && xokL q) = true := by decide +kernel
def e_X7_isOfInstruction_5 : List xI := [(18, .iload_n 0, 1, .null), (19, .bipush 10, 2, .int 10)]
theorem e_X7_isOfInstruction_5_k : e_X7_isOfInstruction_5.all (fun q => xokB cX7_isOfInstruction q && xokL q) = true := by decide +kernel
def e_X7_isOfInstruction_6 : List xI := [(24, .iload_n 0, 1, .null), (25, .bipush 11, 2, .int 11)]
theorem e_X7_isOfInstruction_6_k : e_X7_isOfInstruction_6.all (fun q => xokB cX7_isOfInstruction q && xokL q) = true := by decide +kernel
def e_X7_isOfInstruction_7 : List xI := [(34, .iconst 0, 1, .int 0)]
theorem e_X7_isOfInstruction_7_k : e_X7_isOfInstruction_7.all (fun q => xokB cX7_isOfInstruction q && xokL q) = true := by decide +kernel
abbrev P_X7_isOfInstruction (r : Int32) (M0 : St) (L : Nat → Nat → Int64) : Option Value → xG → Prop := fun v σ' => PoI r M0 L v σ' ∧ xrg 0 1 r ∧ True
abbrev R_X7_isOfInstruction : Room := { frames := 1, cells := 0, slots := 0, locals := 20 }
abbrev C_X7_isOfInstruction (l : Launch) (r : Int32) (M0 : St) (L : Nat → Nat → Int64) (V : XJ) : Prop := XC l yX7_isOfInstruction.cls yX7_isOfInstruction.name cX7_isOfInstruction 1 R_X7_isOfInstruction 0 0 fl_X7 kc_X7 LAY.length (xfin (some .boolean) LAY (P_X7_isOfInstruction r M0 L)) V
def f_X7_isOfInstruction (a1 : Int32) : Int32 := (if (f_X7_isOfGroupZero a1) = 0 then (if a1 = 4 then 1 else (if a1 = 8 then 1 else (if a1 = 10 then 1 else (if a1 = 11 then 1 else 0)))) else 1)
set_option maxRecDepth 20000 in
set_option maxHeartbeats 4000000 in
theorem k_X7_isOfInstruction (l : Launch) (a1 : Int32) (M : St) (L : Nat → Nat → Int64) : XM l yX7_isOfInstruction cX7_isOfInstruction 1 (some .boolean) R_X7_isOfInstruction LAY [.int a1] (M, L) (P_X7_isOfInstruction (f_X7_isOfInstruction a1) M L) := by
  refine XM.of (by decide) (Nat.le_of_ble_eq_true rfl) LAY_in cl_ok fl_X7_ok kc_X7_ok (fun V C => ?_)
  obtain ⟨r, h⟩ : ∃ r, f_X7_isOfInstruction a1 = r := ⟨_, rfl⟩
  rw [h] at C
  change C_X7_isOfInstruction l r M L V at C
  unfold f_X7_isOfInstruction at h
  show V 0 0 0 [(0, .int a1)] [] LAY (M, L)
  refine x_run C e_X7_isOfInstruction_1 e_X7_isOfInstruction_1_k (pc' := 1) (lv' := [(0, .int a1)]) (st' := [.int a1]) (σ' := (M, L)) rfl ⟨trivial, trivial⟩ ?_
  refine x_callS C (rest := []) (avs := [.int a1]) (k_X7_isOfGroupZero l a1 M L) yoX7_isOfGroupZero ml_X7_169 rfl ⟨Nat.zero_le _, Nat.zero_le _⟩ (show decode cX7_isOfInstruction 1 = .ok (.invokestatic 169, 3) from by decide +kernel) rfl (fun v σ' hPo => ?_)
  obtain ⟨⟨rfl, rfl⟩, g2, -⟩ := hPo
  show V 0 0 4 [(0, .int a1)] [.int (f_X7_isOfGroupZero a1)] LAY (M, L)
  refine x_if_ne C (show decode cX7_isOfInstruction 4 = .ok (.ifCond .ne 26, 3) from by decide +kernel) (tgt := 30) (by decide) (fun c4 => ?_) (fun c4 => ?_)
  · rw [if_neg c4] at h
    have g5 : xrg 1 1 (f_X7_isOfGroupZero a1) := (x_c_ne g2 (by decide) c4)
    refine x_run C e_X7_isOfInstruction_2 e_X7_isOfInstruction_2_k (pc' := 31) (lv' := [(0, .int a1)]) (st' := [.int 1]) (σ' := (M, L)) rfl ⟨trivial, trivial⟩ ?_
    refine x_goto C (show decode cX7_isOfInstruction 31 = .ok (.goto 4, 3) from by decide +kernel) (tgt := 35) (by decide) ?_
    subst h
    exact x_iret C (show decode cX7_isOfInstruction 35 = .ok (.ireturn, 1) from by decide +kernel) (x_finI (x_nb (x_rgw (x_rgc (x := 1) (k := 1) (by decide)) (lo' := 0) (hi' := 1) (by decide) (by decide))) ⟨⟨rfl, rfl⟩, (x_rgw (x_rgc (x := 1) (k := 1) (by decide)) (lo' := 0) (hi' := 1) (by decide) (by decide)), trivial⟩) (Nat.le_refl 0) (Nat.le_refl 0)
  · rw [if_pos c4] at h
    have g6 : xrg 0 0 (f_X7_isOfGroupZero a1) := (x_c_eq g2 (x_rgc (x := 0) (k := 0) (by decide)) c4).1
    refine x_run C e_X7_isOfInstruction_3 e_X7_isOfInstruction_3_k (pc' := 9) (lv' := [(0, .int a1)]) (st' := [.int 4, .int a1]) (σ' := (M, L)) rfl ⟨trivial, trivial, trivial⟩ ?_
    refine x_icmp_eq C (show decode cX7_isOfInstruction 9 = .ok (.if_icmp .eq 21, 3) from by decide +kernel) (tgt := 30) (by decide) (fun c7 => ?_) (fun c7 => ?_)
    · rw [if_pos c7] at h
      have g8 : xrg 4 4 a1 := (x_c_eq (x_rgt a1) (x_rgc (x := 4) (k := 4) (by decide)) c7).1
      refine x_run C e_X7_isOfInstruction_2 e_X7_isOfInstruction_2_k (pc' := 31) (lv' := [(0, .int a1)]) (st' := [.int 1]) (σ' := (M, L)) rfl ⟨trivial, trivial⟩ ?_
      refine x_goto C (show decode cX7_isOfInstruction 31 = .ok (.goto 4, 3) from by decide +kernel) (tgt := 35) (by decide) ?_
      subst h
      exact x_iret C (show decode cX7_isOfInstruction 35 = .ok (.ireturn, 1) from by decide +kernel) (x_finI (x_nb (x_rgw (x_rgc (x := 1) (k := 1) (by decide)) (lo' := 0) (hi' := 1) (by decide) (by decide))) ⟨⟨rfl, rfl⟩, (x_rgw (x_rgc (x := 1) (k := 1) (by decide)) (lo' := 0) (hi' := 1) (by decide) (by decide)), trivial⟩) (Nat.le_refl 0) (Nat.le_refl 0)
    · rw [if_neg c7] at h
      refine x_run C e_X7_isOfInstruction_4 e_X7_isOfInstruction_4_k (pc' := 15) (lv' := [(0, .int a1)]) (st' := [.int 8, .int a1]) (σ' := (M, L)) rfl ⟨trivial, trivial, trivial⟩ ?_
      refine x_icmp_eq C (show decode cX7_isOfInstruction 15 = .ok (.if_icmp .eq 15, 3) from by decide +kernel) (tgt := 30) (by decide) (fun c9 => ?_) (fun c9 => ?_)
      · rw [if_pos c9] at h
        have g10 : xrg 8 8 a1 := (x_c_eq (x_rgt a1) (x_rgc (x := 8) (k := 8) (by decide)) c9).1
        refine x_run C e_X7_isOfInstruction_2 e_X7_isOfInstruction_2_k (pc' := 31) (lv' := [(0, .int a1)]) (st' := [.int 1]) (σ' := (M, L)) rfl ⟨trivial, trivial⟩ ?_
        refine x_goto C (show decode cX7_isOfInstruction 31 = .ok (.goto 4, 3) from by decide +kernel) (tgt := 35) (by decide) ?_
        subst h
        exact x_iret C (show decode cX7_isOfInstruction 35 = .ok (.ireturn, 1) from by decide +kernel) (x_finI (x_nb (x_rgw (x_rgc (x := 1) (k := 1) (by decide)) (lo' := 0) (hi' := 1) (by decide) (by decide))) ⟨⟨rfl, rfl⟩, (x_rgw (x_rgc (x := 1) (k := 1) (by decide)) (lo' := 0) (hi' := 1) (by decide) (by decide)), trivial⟩) (Nat.le_refl 0) (Nat.le_refl 0)
      · rw [if_neg c9] at h
        refine x_run C e_X7_isOfInstruction_5 e_X7_isOfInstruction_5_k (pc' := 21) (lv' := [(0, .int a1)]) (st' := [.int 10, .int a1]) (σ' := (M, L)) rfl ⟨trivial, trivial, trivial⟩ ?_
        refine x_icmp_eq C (show decode cX7_isOfInstruction 21 = .ok (.if_icmp .eq 9, 3) from by decide +kernel) (tgt := 30) (by decide) (fun c11 => ?_) (fun c11 => ?_)
        · rw [if_pos c11] at h
          have g12 : xrg 10 10 a1 := (x_c_eq (x_rgt a1) (x_rgc (x := 10) (k := 10) (by decide)) c11).1
          refine x_run C e_X7_isOfInstruction_2 e_X7_isOfInstruction_2_k (pc' := 31) (lv' := [(0, .int a1)]) (st' := [.int 1]) (σ' := (M, L)) rfl ⟨trivial, trivial⟩ ?_
          refine x_goto C (show decode cX7_isOfInstruction 31 = .ok (.goto 4, 3) from by decide +kernel) (tgt := 35) (by decide) ?_
          subst h
          exact x_iret C (show decode cX7_isOfInstruction 35 = .ok (.ireturn, 1) from by decide +kernel) (x_finI (x_nb (x_rgw (x_rgc (x := 1) (k := 1) (by decide)) (lo' := 0) (hi' := 1) (by decide) (by decide))) ⟨⟨rfl, rfl⟩, (x_rgw (x_rgc (x := 1) (k := 1) (by decide)) (lo' := 0) (hi' := 1) (by decide) (by decide)), trivial⟩) (Nat.le_refl 0) (Nat.le_refl 0)
        · rw [if_neg c11] at h
          refine x_run C e_X7_isOfInstruction_6 e_X7_isOfInstruction_6_k (pc' := 27) (lv' := [(0, .int a1)]) (st' := [.int 11, .int a1]) (σ' := (M, L)) rfl ⟨trivial, trivial, trivial⟩ ?_
          refine x_icmp_ne C (show decode cX7_isOfInstruction 27 = .ok (.if_icmp .ne 7, 3) from by decide +kernel) (tgt := 34) (by decide) (fun c13 => ?_) (fun c13 => ?_)
          · rw [if_neg c13] at h
            refine x_run C e_X7_isOfInstruction_7 e_X7_isOfInstruction_7_k (pc' := 35) (lv' := [(0, .int a1)]) (st' := [.int 0]) (σ' := (M, L)) rfl ⟨trivial, trivial⟩ ?_
            subst h
            exact x_iret C (show decode cX7_isOfInstruction 35 = .ok (.ireturn, 1) from by decide +kernel) (x_finI (x_nb (x_rgw (x_rgc (x := 0) (k := 0) (by decide)) (lo' := 0) (hi' := 1) (by decide) (by decide))) ⟨⟨rfl, rfl⟩, (x_rgw (x_rgc (x := 0) (k := 0) (by decide)) (lo' := 0) (hi' := 1) (by decide) (by decide)), trivial⟩) (Nat.le_refl 0) (Nat.le_refl 0)
          · rw [if_pos c13] at h
            have g14 : xrg 11 11 a1 := (x_c_eq (x_rgt a1) (x_rgc (x := 11) (k := 11) (by decide)) c13).1
            refine x_run C e_X7_isOfInstruction_2 e_X7_isOfInstruction_2_k (pc' := 31) (lv' := [(0, .int a1)]) (st' := [.int 1]) (σ' := (M, L)) rfl ⟨trivial, trivial⟩ ?_
            refine x_goto C (show decode cX7_isOfInstruction 31 = .ok (.goto 4, 3) from by decide +kernel) (tgt := 35) (by decide) ?_
            subst h
            exact x_iret C (show decode cX7_isOfInstruction 35 = .ok (.ireturn, 1) from by decide +kernel) (x_finI (x_nb (x_rgw (x_rgc (x := 1) (k := 1) (by decide)) (lo' := 0) (hi' := 1) (by decide) (by decide))) ⟨⟨rfl, rfl⟩, (x_rgw (x_rgc (x := 1) (k := 1) (by decide)) (lo' := 0) (hi' := 1) (by decide) (by decide)), trivial⟩) (Nat.le_refl 0) (Nat.le_refl 0)
-- X7_end
def e_X7_end_1 : List xI := [(0, .aload_n 0, 1, .null), (1, .getfield 29, 3, .null), (4, .getfield 138, 3, .null)]
theorem e_X7_end_1_k : e_X7_end_1.all (fun q => xokB cX7_end q && xokL q) = true := by decide +kernel
def e_X7_end_2 : List xI := [(20, .aload_n 0, 1, .null), (21, .getfield 54, 3, .null), (24, .getfield 157, 3, .null)]
theorem e_X7_end_2_k : e_X7_end_2.all (fun q => xokB cX7_end q && xokL q) = true := by decide +kernel
def e_X7_end_3 : List xI := [(10, .aload_n 0, 1, .null), (11, .getfield 29, 3, .null), (14, .getfield 138, 3, .null)]
theorem e_X7_end_3_k : e_X7_end_3.all (fun q => xokB cX7_end q && xokL q) = true := by decide +kernel
def e_X7_end_4 : List xI := [(27, .istore_n 1, 1, .null), (28, .iload_n 1, 1, .null)]
theorem e_X7_end_4_k : e_X7_end_4.all (fun q => xokB cX7_end q && xokL q) = true := by decide +kernel
def e_X7_end_5 : List xI := [(49, .iload_n 1, 1, .null)]
theorem e_X7_end_5_k : e_X7_end_5.all (fun q => xokB cX7_end q && xokL q) = true := by decide +kernel
def e_X7_end_6 : List xI := [(53, .aload_n 0, 1, .null), (54, .iload_n 1, 1, .null)]
theorem e_X7_end_6_k : e_X7_end_6.all (fun q => xokB cX7_end q && xokL q) = true := by decide +kernel
def e_X7_end_7 : List xI := [(35, .aload_n 0, 1, .null), (36, .getfield 19, 3, .null)]
theorem e_X7_end_7_k : e_X7_end_7.all (fun q => xokB cX7_end q && xokL q) = true := by decide +kernel
def e_X7_end_8 : List xI := [(42, .aload_n 0, 1, .null), (43, .iload_n 1, 1, .null)]
theorem e_X7_end_8_k : e_X7_end_8.all (fun q => xokB cX7_end q && xokL q) = true := by decide +kernel
def e_X7_end_9 : List xI := [(47, .iload_n 1, 1, .null)]
theorem e_X7_end_9_k : e_X7_end_9.all (fun q => xokB cX7_end q && xokL q) = true := by decide +kernel
def e_X7_end_10 : List xI := [(58, .aload_n 0, 1, .null), (59, .aload_n 0, 1, .null), (60, .getfield 54, 3, .null), (63, .getfield 166, 3, .null)]
theorem e_X7_end_10_k : e_X7_end_10.all (fun q => xokB cX7_end q && xokL q) = true := by decide +kernel
def e_X7_end_11 : List xI := [(69, .aload_n 0, 1, .null), (70, .getfield 132, 3, .null)]
theorem e_X7_end_11_k : e_X7_end_11.all (fun q => xokB cX7_end q && xokL q) = true := by decide +kernel
def e_X7_end_12 : List xI := [(76, .iconst 1, 1, .int 1)]
theorem e_X7_end_12_k : e_X7_end_12.all (fun q => xokB cX7_end q && xokL q) = true := by decide +kernel
def e_X7_end_13 : List xI := [(80, .iconst 0, 1, .int 0)]
theorem e_X7_end_13_k : e_X7_end_13.all (fun q => xokB cX7_end q && xokL q) = true := by decide +kernel
def e_X7_end_14 : List xI := [(81, .putfield 74, 3, .null), (84, .aload_n 0, 1, .null), (85, .getfield 132, 3, .null)]
theorem e_X7_end_14_k : e_X7_end_14.all (fun q => xokB cX7_end q && xokL q) = true := by decide +kernel
def e_X7_end_15 : List xI := [(115, .iload_n 1, 1, .null)]
theorem e_X7_end_15_k : e_X7_end_15.all (fun q => xokB cX7_end q && xokL q) = true := by decide +kernel
def e_X7_end_16 : List xI := [(91, .aload_n 0, 1, .null), (92, .getfield 15, 3, .null)]
theorem e_X7_end_16_k : e_X7_end_16.all (fun q => xokB cX7_end q && xokL q) = true := by decide +kernel
def e_X7_end_17 : List xI := [(98, .aload_n 0, 1, .null), (99, .bipush 9, 2, .int 9)]
theorem e_X7_end_17_k : e_X7_end_17.all (fun q => xokB cX7_end q && xokL q) = true := by decide +kernel
def e_X7_end_18 : List xI := [(104, .iload_n 1, 1, .null)]
theorem e_X7_end_18_k : e_X7_end_18.all (fun q => xokB cX7_end q && xokL q) = true := by decide +kernel
def e_X7_end_19 : List xI := [(113, .iload_n 1, 1, .null)]
theorem e_X7_end_19_k : e_X7_end_19.all (fun q => xokB cX7_end q && xokL q) = true := by decide +kernel
def e_X7_end_20 : List xI := [(108, .bipush 9, 2, .int 9)]
theorem e_X7_end_20_k : e_X7_end_20.all (fun q => xokB cX7_end q && xokL q) = true := by decide +kernel
abbrev P_X7_end (r : Int32 × St) (L : Nat → Nat → Int64) : Option Value → xG → Prop := fun v σ' => PoI r.1 r.2 L v σ' ∧ xrg 0 47 r.1 ∧ InvK INVC r.2
abbrev R_X7_end : Room := { frames := 5, cells := 0, slots := 0, locals := 130 }
abbrev C_X7_end (l : Launch) (r : Int32 × St) (L : Nat → Nat → Int64) (V : XJ) : Prop := XC l yX7_end.cls yX7_end.name cX7_end 2 R_X7_end 0 0 fl_X7 kc_X7 LAY.length (xfin (some .int) LAY (P_X7_end r L)) V
def f_X7_end_81 (x1 : Int32) (s0 : Int32) (M : St) : Int32 × St := (if (M 8 12) = 0 then (x1, (xup M 8 8 s0)) else (if (M 8 7) = 0 then (xb (f_X7_workOff 9 (xup M 8 8 s0)) fun q31 => (if x1 = 0 then (9, q31) else (x1, q31))) else (x1, (xup M 8 8 s0))))
def f_X7_end_80 (x1 : Int32) (M : St) : Int32 × St := f_X7_end_81 x1 0 M
def f_X7_end_58 (x1 : Int32) (M : St) : Int32 × St := (if (M 12 7) = 0 then f_X7_end_80 x1 M else (if (M 8 12) = 0 then f_X7_end_81 x1 1 M else f_X7_end_80 x1 M))
def f_X7_end_27 (s0 : Int32) (M : St) : Int32 × St := (if (f_X7_isOfInstruction s0) = 0 then (if s0 = 0 then f_X7_end_58 s0 M else (xb (f_X7_workOff s0 M) fun q12 => f_X7_end_58 s0 q12)) else (xb (f_X8_takeBack  M) fun q16 => (xb (f_X7_workOff s0 q16) fun q19 => (s0, q19))))
def f_X7_end (M : St) : Int32 × St := (if (M 4 10) = 0 then f_X7_end_27 (M 12 6) M else f_X7_end_27 (M 4 10) M)
set_option maxRecDepth 20000 in
set_option maxHeartbeats 4000000 in
theorem b_X7_end_81 {l : Launch} {L : Nat → Nat → Int64} {V : XJ} (r : Int32 × St) (C : C_X7_end l r L V) (x1 : Int32) (s0 : Int32) (M : St) (wx1 : xrg 0 47 x1) (ws0 : xrg 0 1 s0) (hI : InvK INVC M) (h : f_X7_end_81 x1 s0 M = r) : V 0 0 81 [(0, .ref 8), (1, .int x1)] [.int s0, .ref 8] LAY (M, L) := by
  unfold f_X7_end_81 at h
  refine x_run C e_X7_end_14 e_X7_end_14_k (pc' := 88) (lv' := [(0, .ref 8), (1, .int x1)]) (st' := [.int (M 8 12)]) (σ' := ((xup M 8 8 s0), L)) rfl ⟨(x_rgb ws0), trivial, trivial, trivial⟩ ?_
  have hI26 : InvK INVC (xup M 8 8 s0) := (hI.fld 8 8 s0 (by decide))
  refine x_if_eq C (show decode cX7_end 88 = .ok (.ifCond .eq 27, 3) from by decide +kernel) (tgt := 115) (by decide) (fun c27 => ?_) (fun c27 => ?_)
  · rw [if_pos c27] at h
    have g28 : xrg 0 0 (M 8 12) := (x_c_eq (x_rgt (M 8 12)) (x_rgc (x := 0) (k := 0) (by decide)) c27).1
    refine x_run C e_X7_end_15 e_X7_end_15_k (pc' := 116) (lv' := [(0, .ref 8), (1, .int x1)]) (st' := [.int x1]) (σ' := ((xup M 8 8 s0), L)) rfl ⟨trivial, trivial⟩ ?_
    subst h
    exact x_iret C (show decode cX7_end 116 = .ok (.ireturn, 1) from by decide +kernel) (x_finI rfl ⟨⟨rfl, rfl⟩, wx1, hI26⟩) (Nat.le_refl 0) (Nat.le_refl 0)
  · rw [if_neg c27] at h
    refine x_run C e_X7_end_16 e_X7_end_16_k (pc' := 95) (lv' := [(0, .ref 8), (1, .int x1)]) (st' := [.int (M 8 7)]) (σ' := ((xup M 8 8 s0), L)) rfl ⟨trivial, trivial, trivial⟩ ?_
    refine x_if_ne C (show decode cX7_end 95 = .ok (.ifCond .ne 20, 3) from by decide +kernel) (tgt := 115) (by decide) (fun c29 => ?_) (fun c29 => ?_)
    · rw [if_neg c29] at h
      refine x_run C e_X7_end_15 e_X7_end_15_k (pc' := 116) (lv' := [(0, .ref 8), (1, .int x1)]) (st' := [.int x1]) (σ' := ((xup M 8 8 s0), L)) rfl ⟨trivial, trivial⟩ ?_
      subst h
      exact x_iret C (show decode cX7_end 116 = .ok (.ireturn, 1) from by decide +kernel) (x_finI rfl ⟨⟨rfl, rfl⟩, wx1, hI26⟩) (Nat.le_refl 0) (Nat.le_refl 0)
    · rw [if_pos c29] at h
      have g30 : xrg 0 0 (M 8 7) := (x_c_eq (x_rgt (M 8 7)) (x_rgc (x := 0) (k := 0) (by decide)) c29).1
      refine x_run C e_X7_end_17 e_X7_end_17_k (pc' := 101) (lv' := [(0, .ref 8), (1, .int x1)]) (st' := [.int 9, .ref 8]) (σ' := ((xup M 8 8 s0), L)) rfl ⟨trivial, trivial, trivial⟩ ?_
      refine x_callV C (k := 8) (ci := 5) (rest := []) (avs := [.int 9]) (k_X7_workOff l 9 (xup M 8 8 s0) L (x_rgw (x_rgc (x := 9) (k := 9) (by decide)) (lo' := 0) (hi' := 47) (by decide) (by decide)) hI26) yoX7_workOff ml_X7_121 rfl rfl rfl rfl ⟨Nat.zero_le _, Nat.zero_le _⟩ (show decode cX7_end 101 = .ok (.invokevirtual 121, 3) from by decide +kernel) rfl (fun v σ' hPo => ?_)
      obtain ⟨⟨rfl, rfl⟩, hI33⟩ := hPo
      generalize hq31 : f_X7_workOff 9 (xup M 8 8 s0) = q31 at h hI33 ⊢
      have h := xb_eq h
      show V 0 0 104 [(0, .ref 8), (1, .int x1)] [] LAY (q31, L)
      refine x_run C e_X7_end_18 e_X7_end_18_k (pc' := 105) (lv' := [(0, .ref 8), (1, .int x1)]) (st' := [.int x1]) (σ' := (q31, L)) rfl ⟨trivial, trivial⟩ ?_
      refine x_if_ne C (show decode cX7_end 105 = .ok (.ifCond .ne 8, 3) from by decide +kernel) (tgt := 113) (by decide) (fun c34 => ?_) (fun c34 => ?_)
      · rw [if_neg c34] at h
        have g35 : xrg 1 47 x1 := (x_c_ne wx1 (by decide) c34)
        refine x_run C e_X7_end_19 e_X7_end_19_k (pc' := 114) (lv' := [(0, .ref 8), (1, .int x1)]) (st' := [.int x1]) (σ' := (q31, L)) rfl ⟨trivial, trivial⟩ ?_
        subst h
        exact x_iret C (show decode cX7_end 114 = .ok (.ireturn, 1) from by decide +kernel) (x_finI rfl ⟨⟨rfl, rfl⟩, (x_rgw g35 (lo' := 0) (hi' := 47) (by decide) (by decide)), hI33⟩) (Nat.le_refl 0) (Nat.le_refl 0)
      · rw [if_pos c34] at h
        have g36 : xrg 0 0 x1 := (x_c_eq wx1 (x_rgc (x := 0) (k := 0) (by decide)) c34).1
        refine x_run C e_X7_end_20 e_X7_end_20_k (pc' := 110) (lv' := [(0, .ref 8), (1, .int x1)]) (st' := [.int 9]) (σ' := (q31, L)) rfl ⟨trivial, trivial⟩ ?_
        refine x_goto C (show decode cX7_end 110 = .ok (.goto 4, 3) from by decide +kernel) (tgt := 114) (by decide) ?_
        subst h
        exact x_iret C (show decode cX7_end 114 = .ok (.ireturn, 1) from by decide +kernel) (x_finI rfl ⟨⟨rfl, rfl⟩, (x_rgw (x_rgc (x := 9) (k := 9) (by decide)) (lo' := 0) (hi' := 47) (by decide) (by decide)), hI33⟩) (Nat.le_refl 0) (Nat.le_refl 0)
set_option maxRecDepth 20000 in
set_option maxHeartbeats 4000000 in
theorem b_X7_end_80 {l : Launch} {L : Nat → Nat → Int64} {V : XJ} (r : Int32 × St) (C : C_X7_end l r L V) (x1 : Int32) (M : St) (wx1 : xrg 0 47 x1) (hI : InvK INVC M) (h : f_X7_end_80 x1 M = r) : V 0 0 80 [(0, .ref 8), (1, .int x1)] [.ref 8] LAY (M, L) := by
  unfold f_X7_end_80 at h
  refine x_run C e_X7_end_13 e_X7_end_13_k (pc' := 81) (lv' := [(0, .ref 8), (1, .int x1)]) (st' := [.int 0, .ref 8]) (σ' := (M, L)) rfl ⟨trivial, trivial⟩ ?_
  exact b_X7_end_81 r C x1 0 M wx1 (x_rgw (x_rgc (x := 0) (k := 0) (by decide)) (lo' := 0) (hi' := 1) (by decide) (by decide)) hI h
set_option maxRecDepth 20000 in
set_option maxHeartbeats 4000000 in
theorem b_X7_end_58 {l : Launch} {L : Nat → Nat → Int64} {V : XJ} (r : Int32 × St) (C : C_X7_end l r L V) (x1 : Int32) (M : St) (wx1 : xrg 0 47 x1) (hI : InvK INVC M) (h : f_X7_end_58 x1 M = r) : V 0 0 58 [(0, .ref 8), (1, .int x1)] [] LAY (M, L) := by
  unfold f_X7_end_58 at h
  refine x_run C e_X7_end_10 e_X7_end_10_k (pc' := 66) (lv' := [(0, .ref 8), (1, .int x1)]) (st' := [.int (M 12 7), .ref 8]) (σ' := (M, L)) rfl ⟨trivial, trivial, trivial, trivial, trivial⟩ ?_
  refine x_if_eq C (show decode cX7_end 66 = .ok (.ifCond .eq 14, 3) from by decide +kernel) (tgt := 80) (by decide) (fun c22 => ?_) (fun c22 => ?_)
  · rw [if_pos c22] at h
    have g23 : xrg 0 0 (M 12 7) := (x_c_eq (x_rgt (M 12 7)) (x_rgc (x := 0) (k := 0) (by decide)) c22).1
    exact b_X7_end_80 r C x1 M wx1 hI h
  · rw [if_neg c22] at h
    refine x_run C e_X7_end_11 e_X7_end_11_k (pc' := 73) (lv' := [(0, .ref 8), (1, .int x1)]) (st' := [.int (M 8 12), .ref 8]) (σ' := (M, L)) rfl ⟨trivial, trivial, trivial⟩ ?_
    refine x_if_ne C (show decode cX7_end 73 = .ok (.ifCond .ne 7, 3) from by decide +kernel) (tgt := 80) (by decide) (fun c24 => ?_) (fun c24 => ?_)
    · rw [if_neg c24] at h
      exact b_X7_end_80 r C x1 M wx1 hI h
    · rw [if_pos c24] at h
      have g25 : xrg 0 0 (M 8 12) := (x_c_eq (x_rgt (M 8 12)) (x_rgc (x := 0) (k := 0) (by decide)) c24).1
      refine x_run C e_X7_end_12 e_X7_end_12_k (pc' := 77) (lv' := [(0, .ref 8), (1, .int x1)]) (st' := [.int 1, .ref 8]) (σ' := (M, L)) rfl ⟨trivial, trivial⟩ ?_
      refine x_goto C (show decode cX7_end 77 = .ok (.goto 4, 3) from by decide +kernel) (tgt := 81) (by decide) ?_
      exact b_X7_end_81 r C x1 1 M wx1 (x_rgw (x_rgc (x := 1) (k := 1) (by decide)) (lo' := 0) (hi' := 1) (by decide) (by decide)) hI h
set_option maxRecDepth 20000 in
set_option maxHeartbeats 4000000 in
theorem b_X7_end_27 {l : Launch} {L : Nat → Nat → Int64} {V : XJ} (r : Int32 × St) (C : C_X7_end l r L V) (s0 : Int32) (M : St) (ws0 : xrg 0 47 s0) (hI : InvK INVC M) (h : f_X7_end_27 s0 M = r) : V 0 0 27 [(0, .ref 8)] [.int s0] LAY (M, L) := by
  unfold f_X7_end_27 at h
  refine x_run C e_X7_end_4 e_X7_end_4_k (pc' := 29) (lv' := [(1, .int s0), (0, .ref 8)]) (st' := [.int s0]) (σ' := (M, L)) rfl ⟨trivial, trivial, trivial⟩ ?_
  refine x_callS C (rest := []) (avs := [.int s0]) (k_X7_isOfInstruction l s0 M L) yoX7_isOfInstruction ml_X7_160 rfl ⟨Nat.zero_le _, Nat.zero_le _⟩ (show decode cX7_end 29 = .ok (.invokestatic 160, 3) from by decide +kernel) rfl (fun v σ' hPo => ?_)
  obtain ⟨⟨rfl, rfl⟩, g5, -⟩ := hPo
  show V 0 0 32 [(1, .int s0), (0, .ref 8)] [.int (f_X7_isOfInstruction s0)] LAY (M, L)
  refine x_if_eq C (show decode cX7_end 32 = .ok (.ifCond .eq 17, 3) from by decide +kernel) (tgt := 49) (by decide) (fun c7 => ?_) (fun c7 => ?_)
  · rw [if_pos c7] at h
    have g8 : xrg 0 0 (f_X7_isOfInstruction s0) := (x_c_eq g5 (x_rgc (x := 0) (k := 0) (by decide)) c7).1
    refine x_run C e_X7_end_5 e_X7_end_5_k (pc' := 50) (lv' := [(1, .int s0), (0, .ref 8)]) (st' := [.int s0]) (σ' := (M, L)) rfl ⟨trivial, trivial⟩ ?_
    refine x_if_eq C (show decode cX7_end 50 = .ok (.ifCond .eq 8, 3) from by decide +kernel) (tgt := 58) (by decide) (fun c9 => ?_) (fun c9 => ?_)
    · rw [if_pos c9] at h
      have g10 : xrg 0 0 s0 := (x_c_eq ws0 (x_rgc (x := 0) (k := 0) (by decide)) c9).1
      refine x_lv C [1, 0] rfl ?_
      exact b_X7_end_58 r C s0 M (x_rgw g10 (lo' := 0) (hi' := 47) (by decide) (by decide)) hI h
    · rw [if_neg c9] at h
      have g11 : xrg 1 47 s0 := (x_c_ne ws0 (by decide) c9)
      refine x_run C e_X7_end_6 e_X7_end_6_k (pc' := 55) (lv' := [(1, .int s0), (0, .ref 8)]) (st' := [.int s0, .ref 8]) (σ' := (M, L)) rfl ⟨trivial, trivial, trivial⟩ ?_
      refine x_callV C (k := 8) (ci := 5) (rest := []) (avs := [.int s0]) (k_X7_workOff l s0 M L (x_rgw g11 (lo' := 0) (hi' := 47) (by decide) (by decide)) hI) yoX7_workOff ml_X7_121 rfl rfl rfl rfl ⟨Nat.zero_le _, Nat.zero_le _⟩ (show decode cX7_end 55 = .ok (.invokevirtual 121, 3) from by decide +kernel) rfl (fun v σ' hPo => ?_)
      obtain ⟨⟨rfl, rfl⟩, hI14⟩ := hPo
      generalize hq12 : f_X7_workOff s0 M = q12 at h hI14 ⊢
      have h := xb_eq h
      show V 0 0 58 [(1, .int s0), (0, .ref 8)] [] LAY (q12, L)
      refine x_lv C [1, 0] rfl ?_
      exact b_X7_end_58 r C s0 q12 (x_rgw g11 (lo' := 0) (hi' := 47) (by decide) (by decide)) hI14 h
  · rw [if_neg c7] at h
    have g15 : xrg 1 1 (f_X7_isOfInstruction s0) := (x_c_ne g5 (by decide) c7)
    refine x_run C e_X7_end_7 e_X7_end_7_k (pc' := 39) (lv' := [(1, .int s0), (0, .ref 8)]) (st' := [.ref 1]) (σ' := (M, L)) rfl ⟨trivial, trivial, trivial⟩ ?_
    refine x_callV C (k := 1) (ci := 6) (rest := []) (avs := []) (k_X8_takeBack l  M L hI) yoX8_takeBack ml_X7_163 rfl rfl rfl rfl ⟨Nat.zero_le _, Nat.zero_le _⟩ (show decode cX7_end 39 = .ok (.invokevirtual 163, 3) from by decide +kernel) rfl (fun v σ' hPo => ?_)
    obtain ⟨⟨rfl, rfl⟩, hI18⟩ := hPo
    generalize hq16 : f_X8_takeBack  M = q16 at h hI18 ⊢
    have h := xb_eq h
    show V 0 0 42 [(1, .int s0), (0, .ref 8)] [] LAY (q16, L)
    refine x_run C e_X7_end_8 e_X7_end_8_k (pc' := 44) (lv' := [(1, .int s0), (0, .ref 8)]) (st' := [.int s0, .ref 8]) (σ' := (q16, L)) rfl ⟨trivial, trivial, trivial⟩ ?_
    refine x_callV C (k := 8) (ci := 5) (rest := []) (avs := [.int s0]) (k_X7_workOff l s0 q16 L ws0 hI18) yoX7_workOff ml_X7_121 rfl rfl rfl rfl ⟨Nat.zero_le _, Nat.zero_le _⟩ (show decode cX7_end 44 = .ok (.invokevirtual 121, 3) from by decide +kernel) rfl (fun v σ' hPo => ?_)
    obtain ⟨⟨rfl, rfl⟩, hI21⟩ := hPo
    generalize hq19 : f_X7_workOff s0 q16 = q19 at h hI21 ⊢
    have h := xb_eq h
    show V 0 0 47 [(1, .int s0), (0, .ref 8)] [] LAY (q19, L)
    refine x_run C e_X7_end_9 e_X7_end_9_k (pc' := 48) (lv' := [(1, .int s0), (0, .ref 8)]) (st' := [.int s0]) (σ' := (q19, L)) rfl ⟨trivial, trivial⟩ ?_
    subst h
    exact x_iret C (show decode cX7_end 48 = .ok (.ireturn, 1) from by decide +kernel) (x_finI rfl ⟨⟨rfl, rfl⟩, ws0, hI21⟩) (Nat.le_refl 0) (Nat.le_refl 0)
set_option maxRecDepth 20000 in
set_option maxHeartbeats 4000000 in
theorem k_X7_end (l : Launch) (M : St) (L : Nat → Nat → Int64) (hI : InvK INVC M) : XM l yX7_end cX7_end 2 (some .int) R_X7_end LAY [.ref 8] (M, L) (P_X7_end (f_X7_end M) L) := by
  refine XM.of (by decide) (Nat.le_of_ble_eq_true rfl) LAY_in cl_ok fl_X7_ok kc_X7_ok (fun V C => ?_)
  obtain ⟨r, h⟩ : ∃ r, f_X7_end M = r := ⟨_, rfl⟩
  rw [h] at C
  change C_X7_end l r L V at C
  unfold f_X7_end at h
  show V 0 0 0 [(0, .ref 8)] [] LAY (M, L)
  refine x_run C e_X7_end_1 e_X7_end_1_k (pc' := 7) (lv' := [(0, .ref 8)]) (st' := [.int (M 4 10)]) (σ' := (M, L)) rfl ⟨trivial, trivial, trivial, trivial⟩ ?_
  refine x_if_eq C (show decode cX7_end 7 = .ok (.ifCond .eq 13, 3) from by decide +kernel) (tgt := 20) (by decide) (fun c1 => ?_) (fun c1 => ?_)
  · rw [if_pos c1] at h
    have g2 : xrg 0 0 (M 4 10) := (x_c_eq (hI.at 5 rfl) (x_rgc (x := 0) (k := 0) (by decide)) c1).1
    refine x_run C e_X7_end_2 e_X7_end_2_k (pc' := 27) (lv' := [(0, .ref 8)]) (st' := [.int (M 12 6)]) (σ' := (M, L)) rfl ⟨trivial, trivial, trivial, trivial⟩ ?_
    exact b_X7_end_27 r C (M 12 6) M (hI.at 7 rfl) hI h
  · rw [if_neg c1] at h
    have g3 : xrg 1 3 (M 4 10) := (x_c_ne (hI.at 5 rfl) (by decide) c1)
    refine x_run C e_X7_end_3 e_X7_end_3_k (pc' := 17) (lv' := [(0, .ref 8)]) (st' := [.int (M 4 10)]) (σ' := (M, L)) rfl ⟨trivial, trivial, trivial, trivial⟩ ?_
    refine x_goto C (show decode cX7_end 17 = .ok (.goto 10, 3) from by decide +kernel) (tgt := 27) (by decide) ?_
    exact b_X7_end_27 r C (M 4 10) M (x_rgw g3 (lo' := 0) (hi' := 47) (by decide) (by decide)) hI h
-- X2_tick
def e_X2_tick_1 : List xI := [(0, .aload_n 0, 1, .null), (1, .getfield 51, 3, .null)]
theorem e_X2_tick_1_k : e_X2_tick_1.all (fun q => xokB cX2_tick q && xokL q) = true := by decide +kernel
def e_X2_tick_2 : List xI := [(7, .aload_n 0, 1, .null), (8, .dup, 1, .null), (9, .getfield 51, 3, .null), (12, .iconst 1, 1, .int 1), (13, .isub, 1, .null), (14, .putfield 51, 3, .null), (17, .aload_n 0, 1, .null), (18, .aload_n 0, 1, .null), (19, .getfield 57, 3, .null)]
theorem e_X2_tick_2_k : e_X2_tick_2.all (fun q => xokB cX2_tick q && xokL q) = true := by decide +kernel
def e_X2_tick_3 : List xI := [(25, .aload_n 0, 1, .null), (26, .getfield 51, 3, .null)]
theorem e_X2_tick_3_k : e_X2_tick_3.all (fun q => xokB cX2_tick q && xokL q) = true := by decide +kernel
def e_X2_tick_4 : List xI := [(36, .iconst 0, 1, .int 0)]
theorem e_X2_tick_4_k : e_X2_tick_4.all (fun q => xokB cX2_tick q && xokL q) = true := by decide +kernel
def e_X2_tick_5 : List xI := [(32, .iconst 1, 1, .int 1)]
theorem e_X2_tick_5_k : e_X2_tick_5.all (fun q => xokB cX2_tick q && xokL q) = true := by decide +kernel
def e_X2_tick_6 : List xI := [(37, .putfield 57, 3, .null)]
theorem e_X2_tick_6_k : e_X2_tick_6.all (fun q => xokB cX2_tick q && xokL q) = true := by decide +kernel
abbrev P_X2_tick (r : St) (L : Nat → Nat → Int64) : Option Value → xG → Prop := fun v σ' => PoV r L v σ' ∧ InvK INVC r
abbrev R_X2_tick : Room := { frames := 0, cells := 0, slots := 0, locals := 0 }
abbrev C_X2_tick (l : Launch) (r : St) (L : Nat → Nat → Int64) (V : XJ) : Prop := XC l yX2_tick.cls yX2_tick.name cX2_tick 1 R_X2_tick 0 0 fl_X2 kc_X2 LAY.length (xfin none LAY (P_X2_tick r L)) V
def f_X2_tick_37 (s0 : Int32) (M : St) : St := (xup M 4 9 s0)
def f_X2_tick_32  (M : St) : St := f_X2_tick_37 1 M
def f_X2_tick (M : St) : St := (if (M 4 7) = 0 then M else (if (M 4 9) = 0 then (if ((M 4 7) - 1) = 0 then f_X2_tick_32  (xup M 4 7 ((M 4 7) - 1)) else f_X2_tick_37 0 (xup M 4 7 ((M 4 7) - 1))) else f_X2_tick_32  (xup M 4 7 ((M 4 7) - 1))))
set_option maxRecDepth 20000 in
set_option maxHeartbeats 4000000 in
theorem b_X2_tick_37 {l : Launch} {L : Nat → Nat → Int64} {V : XJ} (r : St) (C : C_X2_tick l r L V) (s0 : Int32) (M : St) (ws0 : xrg 0 1 s0) (hI : InvK INVC M) (h : f_X2_tick_37 s0 M = r) : V 0 0 37 [] [.int s0, .ref 4] LAY (M, L) := by
  unfold f_X2_tick_37 at h
  refine x_run C e_X2_tick_6 e_X2_tick_6_k (pc' := 40) (lv' := []) (st' := []) (σ' := ((xup M 4 9 s0), L)) rfl ⟨(x_rgb ws0), trivial⟩ ?_
  have hI10 : InvK INVC (xup M 4 9 s0) := (hI.fld 4 9 s0 (by decide))
  subst h
  exact x_vret C (show decode cX2_tick 40 = .ok (.return_, 1) from by decide +kernel) (x_finV ⟨⟨rfl, rfl⟩, hI10⟩) (Nat.le_refl 0) (Nat.le_refl 0)
set_option maxRecDepth 20000 in
set_option maxHeartbeats 4000000 in
theorem b_X2_tick_32 {l : Launch} {L : Nat → Nat → Int64} {V : XJ} (r : St) (C : C_X2_tick l r L V)  (M : St) (hI : InvK INVC M) (h : f_X2_tick_32  M = r) : V 0 0 32 [] [.ref 4] LAY (M, L) := by
  unfold f_X2_tick_32 at h
  refine x_run C e_X2_tick_5 e_X2_tick_5_k (pc' := 33) (lv' := []) (st' := [.int 1, .ref 4]) (σ' := (M, L)) rfl ⟨trivial, trivial⟩ ?_
  refine x_goto C (show decode cX2_tick 33 = .ok (.goto 4, 3) from by decide +kernel) (tgt := 37) (by decide) ?_
  exact b_X2_tick_37 r C 1 M (x_rgw (x_rgc (x := 1) (k := 1) (by decide)) (lo' := 0) (hi' := 1) (by decide) (by decide)) hI h
set_option maxRecDepth 20000 in
set_option maxHeartbeats 4000000 in
theorem k_X2_tick (l : Launch) (M : St) (L : Nat → Nat → Int64) (hI : InvK INVC M) : XM l yX2_tick cX2_tick 1 none R_X2_tick LAY [.ref 4] (M, L) (P_X2_tick (f_X2_tick M) L) := by
  refine XM.of (by decide) (Nat.le_of_ble_eq_true rfl) LAY_in cl_ok fl_X2_ok kc_X2_ok (fun V C => ?_)
  obtain ⟨r, h⟩ : ∃ r, f_X2_tick M = r := ⟨_, rfl⟩
  rw [h] at C
  change C_X2_tick l r L V at C
  unfold f_X2_tick at h
  show V 0 0 0 [(0, .ref 4)] [] LAY (M, L)
  refine x_run C e_X2_tick_1 e_X2_tick_1_k (pc' := 4) (lv' := [(0, .ref 4)]) (st' := [.int (M 4 7)]) (σ' := (M, L)) rfl ⟨trivial, trivial, trivial⟩ ?_
  refine x_if_eq C (show decode cX2_tick 4 = .ok (.ifCond .eq 36, 3) from by decide +kernel) (tgt := 40) (by decide) (fun c1 => ?_) (fun c1 => ?_)
  · rw [if_pos c1] at h
    have g2 : xrg 0 0 (M 4 7) := (x_c_eq (hI.at 3 rfl) (x_rgc (x := 0) (k := 0) (by decide)) c1).1
    subst h
    exact x_vret C (show decode cX2_tick 40 = .ok (.return_, 1) from by decide +kernel) (x_finV ⟨⟨rfl, rfl⟩, hI⟩) (Nat.le_refl 0) (Nat.le_refl 0)
  · rw [if_neg c1] at h
    have g3 : xrg 1 65535 (M 4 7) := (x_c_ne (hI.at 3 rfl) (by decide) c1)
    refine x_run C e_X2_tick_2 e_X2_tick_2_k (pc' := 22) (lv' := [(0, .ref 4)]) (st' := [.int (M 4 9), .ref 4]) (σ' := ((xup M 4 7 ((M 4 7) - 1)), L)) rfl ⟨trivial, trivial, trivial, trivial, trivial, trivial, trivial, trivial, trivial, trivial⟩ ?_
    have hI4 : InvK INVC (xup M 4 7 ((M 4 7) - 1)) := (hI.set 4 7 (x_rg_sub g3 (x_rgc (x := 1) (k := 1) (by decide)) (by decide) (by decide)) (by decide))
    refine x_if_ne C (show decode cX2_tick 22 = .ok (.ifCond .ne 10, 3) from by decide +kernel) (tgt := 32) (by decide) (fun c5 => ?_) (fun c5 => ?_)
    · rw [if_neg c5] at h
      refine x_lv C [] rfl ?_
      exact b_X2_tick_32 r C  (xup M 4 7 ((M 4 7) - 1)) hI4 h
    · rw [if_pos c5] at h
      have g6 : xrg 0 0 (M 4 9) := (x_c_eq (x_rgt (M 4 9)) (x_rgc (x := 0) (k := 0) (by decide)) c5).1
      refine x_run C e_X2_tick_3 e_X2_tick_3_k (pc' := 29) (lv' := [(0, .ref 4)]) (st' := [.int ((M 4 7) - 1), .ref 4]) (σ' := ((xup M 4 7 ((M 4 7) - 1)), L)) rfl ⟨trivial, trivial, trivial⟩ ?_
      refine x_if_ne C (show decode cX2_tick 29 = .ok (.ifCond .ne 7, 3) from by decide +kernel) (tgt := 36) (by decide) (fun c7 => ?_) (fun c7 => ?_)
      · rw [if_neg c7] at h
        have g8 : xrg 1 65534 ((M 4 7) - 1) := (x_c_ne (x_rg_sub g3 (x_rgc (x := 1) (k := 1) (by decide)) (by decide) (by decide)) (by decide) c7)
        refine x_run C e_X2_tick_4 e_X2_tick_4_k (pc' := 37) (lv' := [(0, .ref 4)]) (st' := [.int 0, .ref 4]) (σ' := ((xup M 4 7 ((M 4 7) - 1)), L)) rfl ⟨trivial, trivial⟩ ?_
        refine x_lv C [] rfl ?_
        exact b_X2_tick_37 r C 0 (xup M 4 7 ((M 4 7) - 1)) (x_rgw (x_rgc (x := 0) (k := 0) (by decide)) (lo' := 0) (hi' := 1) (by decide) (by decide)) hI4 h
      · rw [if_pos c7] at h
        have g9 : xrg 0 0 ((M 4 7) - 1) := (x_c_eq (x_rg_sub g3 (x_rgc (x := 1) (k := 1) (by decide)) (by decide) (by decide)) (x_rgc (x := 0) (k := 0) (by decide)) c7).1
        refine x_lv C [] rfl ?_
        exact b_X2_tick_32 r C  (xup M 4 7 ((M 4 7) - 1)) hI4 h
-- X7_advance
def e_X7_advance_1 : List xI := [(0, .aload_n 0, 1, .null), (1, .getfield 84, 3, .null), (4, .aload_n 0, 1, .null), (5, .getfield 29, 3, .null), (8, .getfield 87, 3, .null)]
theorem e_X7_advance_1_k : e_X7_advance_1.all (fun q => xokB cX7_advance q && xokL q) = true := by decide +kernel
def e_X7_advance_2 : List xI := [(24, .iconst 0, 1, .int 0)]
theorem e_X7_advance_2_k : e_X7_advance_2.all (fun q => xokB cX7_advance q && xokL q) = true := by decide +kernel
def e_X7_advance_3 : List xI := [(14, .aload_n 0, 1, .null), (15, .getfield 29, 3, .null), (18, .getfield 90, 3, .null)]
theorem e_X7_advance_3_k : e_X7_advance_3.all (fun q => xokB cX7_advance q && xokL q) = true := by decide +kernel
def e_X7_advance_4 : List xI := [(28, .istore_n 1, 1, .null), (29, .iload_n 1, 1, .null), (30, .aload_n 0, 1, .null)]
theorem e_X7_advance_4_k : e_X7_advance_4.all (fun q => xokB cX7_advance q && xokL q) = true := by decide +kernel
def e_X7_advance_5 : List xI := [(37, .iload_n 1, 1, .null), (38, .bipush 7, 2, .int 7)]
theorem e_X7_advance_5_k : e_X7_advance_5.all (fun q => xokB cX7_advance q && xokL q) = true := by decide +kernel
def e_X7_advance_6 : List xI := [(43, .aload_n 0, 1, .null), (44, .getfield 77, 3, .null), (47, .bipush 7, 2, .int 7)]
theorem e_X7_advance_6_k : e_X7_advance_6.all (fun q => xokB cX7_advance q && xokL q) = true := by decide +kernel
def e_X7_advance_7 : List xI := [(52, .iconst 1, 1, .int 1)]
theorem e_X7_advance_7_k : e_X7_advance_7.all (fun q => xokB cX7_advance q && xokL q) = true := by decide +kernel
def e_X7_advance_8 : List xI := [(56, .iconst 0, 1, .int 0)]
theorem e_X7_advance_8_k : e_X7_advance_8.all (fun q => xokB cX7_advance q && xokL q) = true := by decide +kernel
def e_X7_advance_9 : List xI := [(57, .istore_n 2, 1, .null), (58, .aload_n 0, 1, .null), (59, .iload_n 1, 1, .null), (60, .putfield 77, 3, .null), (63, .iconst (-1), 1, .int (-1)), (64, .istore_n 3, 1, .null), (65, .iload_n 2, 1, .null)]
theorem e_X7_advance_9_k : e_X7_advance_9.all (fun q => xokB cX7_advance q && xokL q) = true := by decide +kernel
def e_X7_advance_10 : List xI := [(78, .aload_n 0, 1, .null), (79, .getfield 74, 3, .null)]
theorem e_X7_advance_10_k : e_X7_advance_10.all (fun q => xokB cX7_advance q && xokL q) = true := by decide +kernel
def e_X7_advance_11 : List xI := [(85, .aload_n 0, 1, .null), (86, .getfield 54, 3, .null), (89, .aload_n 0, 1, .null)]
theorem e_X7_advance_11_k : e_X7_advance_11.all (fun q => xokB cX7_advance q && xokL q) = true := by decide +kernel
def e_X7_advance_12 : List xI := [(96, .aload_n 0, 1, .null)]
theorem e_X7_advance_12_k : e_X7_advance_12.all (fun q => xokB cX7_advance q && xokL q) = true := by decide +kernel
def e_X7_advance_13 : List xI := [(100, .istore_n 3, 1, .null)]
theorem e_X7_advance_13_k : e_X7_advance_13.all (fun q => xokB cX7_advance q && xokL q) = true := by decide +kernel
def e_X7_advance_14 : List xI := [(69, .aload_n 0, 1, .null), (70, .iload_n 1, 1, .null)]
theorem e_X7_advance_14_k : e_X7_advance_14.all (fun q => xokB cX7_advance q && xokL q) = true := by decide +kernel
def e_X7_advance_15 : List xI := [(74, .istore_n 3, 1, .null)]
theorem e_X7_advance_15_k : e_X7_advance_15.all (fun q => xokB cX7_advance q && xokL q) = true := by decide +kernel
def e_X7_advance_16 : List xI := [(101, .aload_n 0, 1, .null), (102, .getfield 29, 3, .null)]
theorem e_X7_advance_16_k : e_X7_advance_16.all (fun q => xokB cX7_advance q && xokL q) = true := by decide +kernel
def e_X7_advance_17 : List xI := [(108, .iload_n 3, 1, .null)]
theorem e_X7_advance_17_k : e_X7_advance_17.all (fun q => xokB cX7_advance q && xokL q) = true := by decide +kernel
abbrev P_X7_advance (r : Int32 × St) (L : Nat → Nat → Int64) : Option Value → xG → Prop := fun v σ' => PoI r.1 r.2 L v σ' ∧ xrg (-1) 47 r.1 ∧ InvK INVC r.2
abbrev R_X7_advance : Room := { frames := 6, cells := 0, slots := 0, locals := 151 }
abbrev C_X7_advance (l : Launch) (r : Int32 × St) (L : Nat → Nat → Int64) (V : XJ) : Prop := XC l yX7_advance.cls yX7_advance.name cX7_advance 4 R_X7_advance 0 0 fl_X7 kc_X7 LAY.length (xfin (some .int) LAY (P_X7_advance r L)) V
def f_X7_advance_101 (x3 : Int32) (M : St) : Int32 × St := (xb (f_X2_tick  M) fun q32 => (x3, q32))
def f_X7_advance_57 (x1 : Int32) (s0 : Int32) (M : St) : Int32 × St := (if s0 = 0 then (if (M 8 8) = 0 then (xb (f_X7_begin  (xup M 8 10 x1)) fun q19 => (xb (f_X4_perform q19.1 q19.2) fun q22 => (xb (f_X7_end  q22) fun q25 => f_X7_advance_101 q25.1 q25.2))) else f_X7_advance_101 (-1) (xup M 8 10 x1)) else (xb (f_X7_interrupt x1 (xup M 8 10 x1)) fun q29 => f_X7_advance_101 q29.1 q29.2))
def f_X7_advance_52 (x1 : Int32) (M : St) : Int32 × St := f_X7_advance_57 x1 1 M
def f_X7_advance_56 (x1 : Int32) (M : St) : Int32 × St := f_X7_advance_57 x1 0 M
def f_X7_advance_25 (s0 : Int32) (s1 : Int32) (M : St) : Int32 × St := (if (f_X7_maskOfLevels  M) < (xmax s1 s0) then f_X7_advance_52 (xmax s1 s0) M else (if (xmax s1 s0) = 7 then (if (M 8 10) = 7 then f_X7_advance_56 (xmax s1 s0) M else f_X7_advance_52 (xmax s1 s0) M) else f_X7_advance_56 (xmax s1 s0) M))
def f_X7_advance (M : St) : Int32 × St := (if (M 4 9) = 0 then f_X7_advance_25 0 (M 8 9) M else f_X7_advance_25 (M 4 8) (M 8 9) M)
set_option maxRecDepth 20000 in
set_option maxHeartbeats 4000000 in
theorem b_X7_advance_101 {l : Launch} {L : Nat → Nat → Int64} {V : XJ} (r : Int32 × St) (C : C_X7_advance l r L V) (x3 : Int32) (M : St) (wx3 : xrg (-1) 47 x3) (hI : InvK INVC M) (h : f_X7_advance_101 x3 M = r) : V 0 0 101 [(0, .ref 8), (3, .int x3)] [] LAY (M, L) := by
  unfold f_X7_advance_101 at h
  refine x_run C e_X7_advance_16 e_X7_advance_16_k (pc' := 105) (lv' := [(0, .ref 8), (3, .int x3)]) (st' := [.ref 4]) (σ' := (M, L)) rfl ⟨trivial, trivial, trivial⟩ ?_
  refine x_callV C (k := 4) (ci := 1) (rest := []) (avs := []) (k_X2_tick l  M L hI) yoX2_tick ml_X7_118 rfl rfl rfl rfl ⟨Nat.zero_le _, Nat.zero_le _⟩ (show decode cX7_advance 105 = .ok (.invokevirtual 118, 3) from by decide +kernel) rfl (fun v σ' hPo => ?_)
  obtain ⟨⟨rfl, rfl⟩, hI34⟩ := hPo
  generalize hq32 : f_X2_tick  M = q32 at h hI34 ⊢
  have h := xb_eq h
  show V 0 0 108 [(0, .ref 8), (3, .int x3)] [] LAY (q32, L)
  refine x_run C e_X7_advance_17 e_X7_advance_17_k (pc' := 109) (lv' := [(0, .ref 8), (3, .int x3)]) (st' := [.int x3]) (σ' := (q32, L)) rfl ⟨trivial, trivial⟩ ?_
  subst h
  exact x_iret C (show decode cX7_advance 109 = .ok (.ireturn, 1) from by decide +kernel) (x_finI rfl ⟨⟨rfl, rfl⟩, wx3, hI34⟩) (Nat.le_refl 0) (Nat.le_refl 0)
set_option maxRecDepth 20000 in
set_option maxHeartbeats 4000000 in
theorem b_X7_advance_57 {l : Launch} {L : Nat → Nat → Int64} {V : XJ} (r : Int32 × St) (C : C_X7_advance l r L V) (x1 : Int32) (s0 : Int32) (M : St) (wx1 : xrg 0 7 x1) (ws0 : xrg 0 1 s0) (hI : InvK INVC M) (h : f_X7_advance_57 x1 s0 M = r) : V 0 0 57 [(0, .ref 8), (1, .int x1)] [.int s0] LAY (M, L) := by
  unfold f_X7_advance_57 at h
  refine x_run C e_X7_advance_9 e_X7_advance_9_k (pc' := 66) (lv' := [(3, .int (-1)), (2, .int s0), (0, .ref 8), (1, .int x1)]) (st' := [.int s0]) (σ' := ((xup M 8 10 x1), L)) rfl ⟨trivial, trivial, trivial, trivial, trivial, trivial, trivial, trivial⟩ ?_
  have hI14 : InvK INVC (xup M 8 10 x1) := (hI.fld 8 10 x1 (by decide))
  refine x_if_eq C (show decode cX7_advance 66 = .ok (.ifCond .eq 12, 3) from by decide +kernel) (tgt := 78) (by decide) (fun c15 => ?_) (fun c15 => ?_)
  · rw [if_pos c15] at h
    have g16 : xrg 0 0 s0 := (x_c_eq ws0 (x_rgc (x := 0) (k := 0) (by decide)) c15).1
    refine x_run C e_X7_advance_10 e_X7_advance_10_k (pc' := 82) (lv' := [(3, .int (-1)), (2, .int s0), (0, .ref 8), (1, .int x1)]) (st' := [.int (M 8 8)]) (σ' := ((xup M 8 10 x1), L)) rfl ⟨trivial, trivial, trivial⟩ ?_
    refine x_if_ne C (show decode cX7_advance 82 = .ok (.ifCond .ne 19, 3) from by decide +kernel) (tgt := 101) (by decide) (fun c17 => ?_) (fun c17 => ?_)
    · rw [if_neg c17] at h
      refine x_lv C [2, 0] rfl ?_
      exact b_X7_advance_101 r C (-1) (xup M 8 10 x1) (x_rgw (x_rgc (x := (-1)) (k := (-1)) (by decide)) (lo' := (-1)) (hi' := 47) (by decide) (by decide)) hI14 h
    · rw [if_pos c17] at h
      have g18 : xrg 0 0 (M 8 8) := (x_c_eq (x_rgt (M 8 8)) (x_rgc (x := 0) (k := 0) (by decide)) c17).1
      refine x_run C e_X7_advance_11 e_X7_advance_11_k (pc' := 90) (lv' := [(3, .int (-1)), (2, .int s0), (0, .ref 8), (1, .int x1)]) (st' := [.ref 8, .ref 12]) (σ' := ((xup M 8 10 x1), L)) rfl ⟨trivial, trivial, trivial, trivial⟩ ?_
      refine x_callV C (k := 8) (ci := 5) (rest := [.ref 12]) (avs := []) (k_X7_begin l  (xup M 8 10 x1) L hI14) yoX7_begin ml_X7_107 rfl rfl rfl rfl ⟨Nat.zero_le _, Nat.zero_le _⟩ (show decode cX7_advance 90 = .ok (.invokevirtual 107, 3) from by decide +kernel) rfl (fun v σ' hPo => ?_)
      obtain ⟨⟨rfl, rfl⟩, g20, hI21⟩ := hPo
      generalize hq19 : f_X7_begin  (xup M 8 10 x1) = q19 at h g20 hI21 ⊢
      obtain ⟨r19, M19⟩ := q19
      have h := xb_eq h
      try dsimp only at h g20 hI21
      show V 0 0 93 [(3, .int (-1)), (2, .int s0), (0, .ref 8), (1, .int x1)] [.ref (1000 + r19), .ref 12] LAY (M19, L)
      refine x_callV C (k := 12) (ci := 3) (rest := []) (avs := [.ref (1000 + r19)]) (k_X4_perform l r19 M19 L g20 hI21 (begin_div hq19)) yoX4_perform ml_X7_111 rfl rfl rfl rfl ⟨Nat.zero_le _, Nat.zero_le _⟩ (show decode cX7_advance 93 = .ok (.invokevirtual 111, 3) from by decide +kernel) rfl (fun v σ' hPo => ?_)
      obtain ⟨⟨rfl, rfl⟩, hI24⟩ := hPo
      generalize hq22 : f_X4_perform r19 M19 = q22 at h hI24 ⊢
      have h := xb_eq h
      show V 0 0 96 [(3, .int (-1)), (2, .int s0), (0, .ref 8), (1, .int x1)] [] LAY (q22, L)
      refine x_run C e_X7_advance_12 e_X7_advance_12_k (pc' := 97) (lv' := [(3, .int (-1)), (2, .int s0), (0, .ref 8), (1, .int x1)]) (st' := [.ref 8]) (σ' := (q22, L)) rfl ⟨trivial, trivial⟩ ?_
      refine x_callV C (k := 8) (ci := 5) (rest := []) (avs := []) (k_X7_end l  q22 L hI24) yoX7_end ml_X7_115 rfl rfl rfl rfl ⟨Nat.zero_le _, Nat.zero_le _⟩ (show decode cX7_advance 97 = .ok (.invokevirtual 115, 3) from by decide +kernel) rfl (fun v σ' hPo => ?_)
      obtain ⟨⟨rfl, rfl⟩, g26, hI27⟩ := hPo
      generalize hq25 : f_X7_end  q22 = q25 at h g26 hI27 ⊢
      obtain ⟨r25, M25⟩ := q25
      have h := xb_eq h
      try dsimp only at h g26 hI27
      show V 0 0 100 [(3, .int (-1)), (2, .int s0), (0, .ref 8), (1, .int x1)] [.int r25] LAY (M25, L)
      refine x_run C e_X7_advance_13 e_X7_advance_13_k (pc' := 101) (lv' := [(3, .int r25), (2, .int s0), (0, .ref 8), (1, .int x1)]) (st' := []) (σ' := (M25, L)) rfl ⟨trivial, trivial⟩ ?_
      refine x_lv C [2, 0] rfl ?_
      exact b_X7_advance_101 r C r25 M25 (x_rgw g26 (lo' := (-1)) (hi' := 47) (by decide) (by decide)) hI27 h
  · rw [if_neg c15] at h
    have g28 : xrg 1 1 s0 := (x_c_ne ws0 (by decide) c15)
    refine x_run C e_X7_advance_14 e_X7_advance_14_k (pc' := 71) (lv' := [(3, .int (-1)), (2, .int s0), (0, .ref 8), (1, .int x1)]) (st' := [.int x1, .ref 8]) (σ' := ((xup M 8 10 x1), L)) rfl ⟨trivial, trivial, trivial⟩ ?_
    refine x_callV C (k := 8) (ci := 5) (rest := []) (avs := [.int x1]) (k_X7_interrupt l x1 (xup M 8 10 x1) L wx1 hI14) yoX7_interrupt ml_X7_103 rfl rfl rfl rfl ⟨Nat.zero_le _, Nat.zero_le _⟩ (show decode cX7_advance 71 = .ok (.invokevirtual 103, 3) from by decide +kernel) rfl (fun v σ' hPo => ?_)
    obtain ⟨⟨rfl, rfl⟩, g30, hI31⟩ := hPo
    generalize hq29 : f_X7_interrupt x1 (xup M 8 10 x1) = q29 at h g30 hI31 ⊢
    obtain ⟨r29, M29⟩ := q29
    have h := xb_eq h
    try dsimp only at h g30 hI31
    show V 0 0 74 [(3, .int (-1)), (2, .int s0), (0, .ref 8), (1, .int x1)] [.int r29] LAY (M29, L)
    refine x_run C e_X7_advance_15 e_X7_advance_15_k (pc' := 75) (lv' := [(3, .int r29), (2, .int s0), (0, .ref 8), (1, .int x1)]) (st' := []) (σ' := (M29, L)) rfl ⟨trivial, trivial⟩ ?_
    refine x_goto C (show decode cX7_advance 75 = .ok (.goto 26, 3) from by decide +kernel) (tgt := 101) (by decide) ?_
    refine x_lv C [2, 0] rfl ?_
    exact b_X7_advance_101 r C r29 M29 (x_rgw g30 (lo' := (-1)) (hi' := 47) (by decide) (by decide)) hI31 h
set_option maxRecDepth 20000 in
set_option maxHeartbeats 4000000 in
theorem b_X7_advance_52 {l : Launch} {L : Nat → Nat → Int64} {V : XJ} (r : Int32 × St) (C : C_X7_advance l r L V) (x1 : Int32) (M : St) (wx1 : xrg 1 7 x1) (hI : InvK INVC M) (h : f_X7_advance_52 x1 M = r) : V 0 0 52 [(0, .ref 8), (1, .int x1)] [] LAY (M, L) := by
  unfold f_X7_advance_52 at h
  refine x_run C e_X7_advance_7 e_X7_advance_7_k (pc' := 53) (lv' := [(0, .ref 8), (1, .int x1)]) (st' := [.int 1]) (σ' := (M, L)) rfl ⟨trivial, trivial⟩ ?_
  refine x_goto C (show decode cX7_advance 53 = .ok (.goto 4, 3) from by decide +kernel) (tgt := 57) (by decide) ?_
  exact b_X7_advance_57 r C x1 1 M (x_rgw wx1 (lo' := 0) (hi' := 7) (by decide) (by decide)) (x_rgw (x_rgc (x := 1) (k := 1) (by decide)) (lo' := 0) (hi' := 1) (by decide) (by decide)) hI h
set_option maxRecDepth 20000 in
set_option maxHeartbeats 4000000 in
theorem b_X7_advance_56 {l : Launch} {L : Nat → Nat → Int64} {V : XJ} (r : Int32 × St) (C : C_X7_advance l r L V) (x1 : Int32) (M : St) (wx1 : xrg 0 7 x1) (hI : InvK INVC M) (h : f_X7_advance_56 x1 M = r) : V 0 0 56 [(0, .ref 8), (1, .int x1)] [] LAY (M, L) := by
  unfold f_X7_advance_56 at h
  refine x_run C e_X7_advance_8 e_X7_advance_8_k (pc' := 57) (lv' := [(0, .ref 8), (1, .int x1)]) (st' := [.int 0]) (σ' := (M, L)) rfl ⟨trivial, trivial⟩ ?_
  exact b_X7_advance_57 r C x1 0 M wx1 (x_rgw (x_rgc (x := 0) (k := 0) (by decide)) (lo' := 0) (hi' := 1) (by decide) (by decide)) hI h
set_option maxRecDepth 20000 in
set_option maxHeartbeats 4000000 in
theorem b_X7_advance_25 {l : Launch} {L : Nat → Nat → Int64} {V : XJ} (r : Int32 × St) (C : C_X7_advance l r L V) (s0 : Int32) (s1 : Int32) (M : St) (ws0 : xrg 0 7 s0) (ws1 : xrg 0 7 s1) (hI : InvK INVC M) (h : f_X7_advance_25 s0 s1 M = r) : V 0 0 25 [(0, .ref 8)] [.int s0, .int s1] LAY (M, L) := by
  unfold f_X7_advance_25 at h
  refine x_max C max_ws (by decide) ⟨Nat.zero_le _, Nat.zero_le _⟩ (show decode cX7_advance 25 = .ok (.invokestatic 93, 3) from by decide +kernel) ?_
  refine x_run C e_X7_advance_4 e_X7_advance_4_k (pc' := 31) (lv' := [(1, .int (xmax s1 s0)), (0, .ref 8)]) (st' := [.ref 8, .int (xmax s1 s0)]) (σ' := (M, L)) rfl ⟨trivial, trivial, trivial, trivial⟩ ?_
  refine x_callV C (k := 8) (ci := 5) (rest := [.int (xmax s1 s0)]) (avs := []) (k_X7_maskOfLevels l  M L hI) yoX7_maskOfLevels ml_X7_99 rfl rfl rfl rfl ⟨Nat.zero_le _, Nat.zero_le _⟩ (show decode cX7_advance 31 = .ok (.invokevirtual 99, 3) from by decide +kernel) rfl (fun v σ' hPo => ?_)
  obtain ⟨⟨rfl, rfl⟩, g4, hI5⟩ := hPo
  show V 0 0 34 [(1, .int (xmax s1 s0)), (0, .ref 8)] [.int (f_X7_maskOfLevels  M), .int (xmax s1 s0)] LAY (M, L)
  refine x_icmp_gt C (show decode cX7_advance 34 = .ok (.if_icmp .gt 18, 3) from by decide +kernel) (tgt := 52) (by decide) (fun c6 => ?_) (fun c6 => ?_)
  · rw [if_pos c6] at h
    have g7 : xrg 0 6 (f_X7_maskOfLevels  M) := (x_c_lt g4 (x_max7 ws1 ws0) c6).1
    have g8 : xrg 1 7 (xmax s1 s0) := (x_c_lt g4 (x_max7 ws1 ws0) c6).2
    refine x_lv C [1, 0] rfl ?_
    exact b_X7_advance_52 r C (xmax s1 s0) M g8 hI h
  · rw [if_neg c6] at h
    refine x_run C e_X7_advance_5 e_X7_advance_5_k (pc' := 40) (lv' := [(1, .int (xmax s1 s0)), (0, .ref 8)]) (st' := [.int 7, .int (xmax s1 s0)]) (σ' := (M, L)) rfl ⟨trivial, trivial, trivial⟩ ?_
    refine x_icmp_ne C (show decode cX7_advance 40 = .ok (.if_icmp .ne 16, 3) from by decide +kernel) (tgt := 56) (by decide) (fun c9 => ?_) (fun c9 => ?_)
    · rw [if_neg c9] at h
      have g10 : xrg 0 6 (xmax s1 s0) := (x_c_neh (x_max7 ws1 ws0) (by decide) c9)
      refine x_lv C [1, 0] rfl ?_
      exact b_X7_advance_56 r C (xmax s1 s0) M (x_rgw g10 (lo' := 0) (hi' := 7) (by decide) (by decide)) hI h
    · rw [if_pos c9] at h
      have g11 : xrg 7 7 (xmax s1 s0) := (x_c_eq (x_max7 ws1 ws0) (x_rgc (x := 7) (k := 7) (by decide)) c9).1
      refine x_run C e_X7_advance_6 e_X7_advance_6_k (pc' := 49) (lv' := [(1, .int (xmax s1 s0)), (0, .ref 8)]) (st' := [.int 7, .int (M 8 10)]) (σ' := (M, L)) rfl ⟨trivial, trivial, trivial, trivial⟩ ?_
      refine x_icmp_eq C (show decode cX7_advance 49 = .ok (.if_icmp .eq 7, 3) from by decide +kernel) (tgt := 56) (by decide) (fun c12 => ?_) (fun c12 => ?_)
      · rw [if_pos c12] at h
        have g13 : xrg 7 7 (M 8 10) := (x_c_eq (x_rgt (M 8 10)) (x_rgc (x := 7) (k := 7) (by decide)) c12).1
        refine x_lv C [1, 0] rfl ?_
        exact b_X7_advance_56 r C (xmax s1 s0) M (x_rgw g11 (lo' := 0) (hi' := 7) (by decide) (by decide)) hI h
      · rw [if_neg c12] at h
        refine x_lv C [1, 0] rfl ?_
        exact b_X7_advance_52 r C (xmax s1 s0) M (x_rgw g11 (lo' := 1) (hi' := 7) (by decide) (by decide)) hI h
set_option maxRecDepth 20000 in
set_option maxHeartbeats 4000000 in
theorem k_X7_advance (l : Launch) (M : St) (L : Nat → Nat → Int64) (hI : InvK INVC M) : XM l yX7_advance cX7_advance 4 (some .int) R_X7_advance LAY [.ref 8] (M, L) (P_X7_advance (f_X7_advance M) L) := by
  refine XM.of (by decide) (Nat.le_of_ble_eq_true rfl) LAY_in cl_ok fl_X7_ok kc_X7_ok (fun V C => ?_)
  obtain ⟨r, h⟩ : ∃ r, f_X7_advance M = r := ⟨_, rfl⟩
  rw [h] at C
  change C_X7_advance l r L V at C
  unfold f_X7_advance at h
  show V 0 0 0 [(0, .ref 8)] [] LAY (M, L)
  refine x_run C e_X7_advance_1 e_X7_advance_1_k (pc' := 11) (lv' := [(0, .ref 8)]) (st' := [.int (M 4 9), .int (M 8 9)]) (σ' := (M, L)) rfl ⟨trivial, trivial, trivial, trivial, trivial, trivial⟩ ?_
  refine x_if_eq C (show decode cX7_advance 11 = .ok (.ifCond .eq 13, 3) from by decide +kernel) (tgt := 24) (by decide) (fun c1 => ?_) (fun c1 => ?_)
  · rw [if_pos c1] at h
    have g2 : xrg 0 0 (M 4 9) := (x_c_eq (x_rgt (M 4 9)) (x_rgc (x := 0) (k := 0) (by decide)) c1).1
    refine x_run C e_X7_advance_2 e_X7_advance_2_k (pc' := 25) (lv' := [(0, .ref 8)]) (st' := [.int 0, .int (M 8 9)]) (σ' := (M, L)) rfl ⟨trivial, trivial⟩ ?_
    exact b_X7_advance_25 r C 0 (M 8 9) M (x_rgw (x_rgc (x := 0) (k := 0) (by decide)) (lo' := 0) (hi' := 7) (by decide) (by decide)) (hI.at 6 rfl) hI h
  · rw [if_neg c1] at h
    refine x_run C e_X7_advance_3 e_X7_advance_3_k (pc' := 21) (lv' := [(0, .ref 8)]) (st' := [.int (M 4 8), .int (M 8 9)]) (σ' := (M, L)) rfl ⟨trivial, trivial, trivial, trivial⟩ ?_
    refine x_goto C (show decode cX7_advance 21 = .ok (.goto 4, 3) from by decide +kernel) (tgt := 25) (by decide) ?_
    exact b_X7_advance_25 r C (M 4 8) (M 8 9) M (hI.at 4 rfl) (hI.at 6 rfl) hI h
