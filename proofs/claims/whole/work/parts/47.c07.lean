-- X4_branch
def e_X4_branch_1 : List xI := [(0, .aload_n 0, 1, .null), (1, .getfield 21, 3, .null), (4, .bipush 17, 2, .int 17), (6, .iaload, 1, .null), (7, .istore_n 1, 1, .null), (8, .aload_n 0, 1, .null), (9, .getfield 30, 3, .null), (12, .getfield 215, 3, .null), (15, .iconst 0, 1, .int 0)]
theorem e_X4_branch_1_k : e_X4_branch_1.all (fun q => xokB cX4_branch q && xokL q) = true := by decide +kernel
def e_X4_branch_2 : List xI := [(19, .istore_n 2, 1, .null), (20, .iload_n 2, 1, .null)]
theorem e_X4_branch_2_k : e_X4_branch_2.all (fun q => xokB cX4_branch q && xokL q) = true := by decide +kernel
def e_X4_branch_3 : List xI := [(24, .aload_n 0, 1, .null), (25, .getfield 26, 3, .null), (28, .iconst 1, 1, .int 1)]
theorem e_X4_branch_3_k : e_X4_branch_3.all (fun q => xokB cX4_branch q && xokL q) = true := by decide +kernel
def e_X4_branch_4 : List xI := [(32, .iconst 1, 1, .int 1)]
theorem e_X4_branch_4_k : e_X4_branch_4.all (fun q => xokB cX4_branch q && xokL q) = true := by decide +kernel
def e_X4_branch_5 : List xI := [(36, .istore_n 2, 1, .null)]
theorem e_X4_branch_5_k : e_X4_branch_5.all (fun q => xokB cX4_branch q && xokL q) = true := by decide +kernel
def e_X4_branch_6 : List xI := [(37, .aload_n 0, 1, .null), (38, .getfield 30, 3, .null)]
theorem e_X4_branch_6_k : e_X4_branch_6.all (fun q => xokB cX4_branch q && xokL q) = true := by decide +kernel
def e_X4_branch_7 : List xI := [(44, .iconst 1, 1, .int 1)]
theorem e_X4_branch_7_k : e_X4_branch_7.all (fun q => xokB cX4_branch q && xokL q) = true := by decide +kernel
def e_X4_branch_8 : List xI := [(58, .aload_n 0, 1, .null), (59, .getfield 9, 3, .null), (62, .aload_n 0, 1, .null), (63, .getfield 30, 3, .null)]
theorem e_X4_branch_8_k : e_X4_branch_8.all (fun q => xokB cX4_branch q && xokL q) = true := by decide +kernel
def e_X4_branch_9 : List xI := [(75, .aload_n 0, 1, .null), (76, .getfield 21, 3, .null), (79, .bipush 17, 2, .int 17), (81, .iload_n 1, 1, .null), (82, .iload_n 2, 1, .null), (83, .iadd, 1, .null), (84, .iastore, 1, .null)]
theorem e_X4_branch_9_k : e_X4_branch_9.all (fun q => xokB cX4_branch q && xokL q) = true := by decide +kernel
def e_X4_branch_10 : List xI := [(48, .aload_n 0, 1, .null), (49, .iload_n 1, 1, .null), (50, .iload_n 2, 1, .null), (51, .iadd, 1, .null)]
theorem e_X4_branch_10_k : e_X4_branch_10.all (fun q => xokB cX4_branch q && xokL q) = true := by decide +kernel
abbrev P_X4_branch (r : St) (L : Nat → Nat → Int64) : Option Value → xG → Prop := fun v σ' => PoV r L v σ' ∧ InvK INVC r
abbrev R_X4_branch : Room := { frames := 4, cells := 0, slots := 0, locals := 96 }
abbrev C_X4_branch (l : Launch) (r : St) (L : Nat → Nat → Int64) (V : XJ) : Prop := XC l yX4_branch.cls yX4_branch.name cX4_branch 3 R_X4_branch 0 0 fl_X4 kc_X4 LAY.length (xfin none LAY (P_X4_branch r L)) V
def f_X4_branch_37 (x1 : Int32) (x2 : Int32) (M : St) : St := (if (f_X3_condition  M) = 1 then (xb (f_X4_call (x1 + x2) M) fun q27 => q27) else (if (f_X8_holds (f_X3_condition  M) M) = 0 then M else (xup M 2 17 (x1 + x2))))
def f_X4_branch (M : St) : St := (if (f_X10_extended (M 11 0) 0) = 0 then (xb (f_X6_fetch 1 M) fun q6 => f_X4_branch_37 (M 2 17) (f_X10_extended q6.1 1) q6.2) else f_X4_branch_37 (M 2 17) (f_X10_extended (M 11 0) 0) M)
set_option maxRecDepth 20000 in
set_option maxHeartbeats 4000000 in
theorem b_X4_branch_37 {l : Launch} {L : Nat → Nat → Int64} {V : XJ} (r : St) (C : C_X4_branch l r L V) (x1 : Int32) (x2 : Int32) (M : St) (hI : InvK INVC M) (h : f_X4_branch_37 x1 x2 M = r) : V 0 0 37 [(0, .ref 12), (1, .int x1), (2, .int x2)] [] LAY (M, L) := by
  unfold f_X4_branch_37 at h
  refine x_run C e_X4_branch_6 e_X4_branch_6_k (pc' := 41) (lv' := [(0, .ref 12), (1, .int x1), (2, .int x2)]) (st' := [.ref 11]) (σ' := (M, L)) rfl ⟨trivial, trivial, trivial⟩ ?_
  refine x_callV C (k := 11) (ci := 2) (rest := []) (avs := []) (k_X3_condition l  M L hI) yoX3_condition ml_X4_153 rfl rfl rfl rfl ⟨Nat.zero_le _, Nat.zero_le _⟩ (show decode cX4_branch 41 = .ok (.invokevirtual 153, 3) from by decide +kernel) rfl (fun v σ' hPo => ?_)
  obtain ⟨⟨rfl, rfl⟩, g13, hI14⟩ := hPo
  show V 0 0 44 [(0, .ref 12), (1, .int x1), (2, .int x2)] [.int (f_X3_condition  M)] LAY (M, L)
  refine x_run C e_X4_branch_7 e_X4_branch_7_k (pc' := 45) (lv' := [(0, .ref 12), (1, .int x1), (2, .int x2)]) (st' := [.int 1, .int (f_X3_condition  M)]) (σ' := (M, L)) rfl ⟨trivial, trivial⟩ ?_
  refine x_icmp_ne C (show decode cX4_branch 45 = .ok (.if_icmp .ne 13, 3) from by decide +kernel) (tgt := 58) (by decide) (fun c15 => ?_) (fun c15 => ?_)
  · rw [if_neg c15] at h
    refine x_run C e_X4_branch_8 e_X4_branch_8_k (pc' := 66) (lv' := [(0, .ref 12), (1, .int x1), (2, .int x2)]) (st' := [.ref 11, .ref 1]) (σ' := (M, L)) rfl ⟨trivial, trivial, trivial, trivial, trivial⟩ ?_
    refine x_callV C (k := 11) (ci := 2) (rest := [.ref 1]) (avs := []) (k_X3_condition l  M L hI) yoX3_condition ml_X4_153 rfl rfl rfl rfl ⟨Nat.zero_le _, Nat.zero_le _⟩ (show decode cX4_branch 66 = .ok (.invokevirtual 153, 3) from by decide +kernel) rfl (fun v σ' hPo => ?_)
    obtain ⟨⟨rfl, rfl⟩, g17, hI18⟩ := hPo
    show V 0 0 69 [(0, .ref 12), (1, .int x1), (2, .int x2)] [.int (f_X3_condition  M), .ref 1] LAY (M, L)
    refine x_callV C (k := 1) (ci := 6) (rest := []) (avs := [.int (f_X3_condition  M)]) (k_X8_holds l (f_X3_condition  M) M L hI) yoX8_holds ml_X4_156 rfl rfl rfl rfl ⟨Nat.zero_le _, Nat.zero_le _⟩ (show decode cX4_branch 69 = .ok (.invokevirtual 156, 3) from by decide +kernel) rfl (fun v σ' hPo => ?_)
    obtain ⟨⟨rfl, rfl⟩, g20, hI21⟩ := hPo
    show V 0 0 72 [(0, .ref 12), (1, .int x1), (2, .int x2)] [.int (f_X8_holds (f_X3_condition  M) M)] LAY (M, L)
    refine x_if_eq C (show decode cX4_branch 72 = .ok (.ifCond .eq 13, 3) from by decide +kernel) (tgt := 85) (by decide) (fun c22 => ?_) (fun c22 => ?_)
    · rw [if_pos c22] at h
      have g23 : xrg 0 0 (f_X8_holds (f_X3_condition  M) M) := (x_c_eq g20 (x_rgc (x := 0) (k := 0) (by decide)) c22).1
      subst h
      exact x_vret C (show decode cX4_branch 85 = .ok (.return_, 1) from by decide +kernel) (x_finV ⟨⟨rfl, rfl⟩, hI⟩) (Nat.le_refl 0) (Nat.le_refl 0)
    · rw [if_neg c22] at h
      have g24 : xrg 1 1 (f_X8_holds (f_X3_condition  M) M) := (x_c_ne g20 (by decide) c22)
      refine x_run C e_X4_branch_9 e_X4_branch_9_k (pc' := 85) (lv' := [(0, .ref 12), (1, .int x1), (2, .int x2)]) (st' := []) (σ' := ((xup M 2 17 (x1 + x2)), L)) rfl ⟨trivial, trivial, trivial, trivial, trivial, trivial, (x_rgv (x_rgc (x := 17) (k := 17) (by decide)) (by decide) (by decide)), trivial⟩ ?_
      have hI25 : InvK INVC (xup M 2 17 (x1 + x2)) := (hI.arr 2 17 (x1 + x2) (by decide))
      subst h
      exact x_vret C (show decode cX4_branch 85 = .ok (.return_, 1) from by decide +kernel) (x_finV ⟨⟨rfl, rfl⟩, hI25⟩) (Nat.le_refl 0) (Nat.le_refl 0)
  · rw [if_pos c15] at h
    have g26 : xrg 1 1 (f_X3_condition  M) := (x_c_eq g13 (x_rgc (x := 1) (k := 1) (by decide)) c15).1
    refine x_run C e_X4_branch_10 e_X4_branch_10_k (pc' := 52) (lv' := [(0, .ref 12), (1, .int x1), (2, .int x2)]) (st' := [.int (x1 + x2), .ref 12]) (σ' := (M, L)) rfl ⟨trivial, trivial, trivial, trivial, trivial⟩ ?_
    refine x_callV C (k := 12) (ci := 3) (rest := []) (avs := [.int (x1 + x2)]) (k_X4_call l (x1 + x2) M L hI) yoX4_call ml_X4_179 rfl rfl rfl rfl ⟨Nat.zero_le _, Nat.zero_le _⟩ (show decode cX4_branch 52 = .ok (.invokevirtual 179, 3) from by decide +kernel) rfl (fun v σ' hPo => ?_)
    obtain ⟨⟨rfl, rfl⟩, hI29⟩ := hPo
    generalize hq27 : f_X4_call (x1 + x2) M = q27 at h hI29 ⊢
    have h := xb_eq h
    show V 0 0 55 [(0, .ref 12), (1, .int x1), (2, .int x2)] [] LAY (q27, L)
    refine x_goto C (show decode cX4_branch 55 = .ok (.goto 30, 3) from by decide +kernel) (tgt := 85) (by decide) ?_
    subst h
    exact x_vret C (show decode cX4_branch 85 = .ok (.return_, 1) from by decide +kernel) (x_finV ⟨⟨rfl, rfl⟩, hI29⟩) (Nat.le_refl 0) (Nat.le_refl 0)
set_option maxRecDepth 20000 in
set_option maxHeartbeats 4000000 in
theorem k_X4_branch (l : Launch) (M : St) (L : Nat → Nat → Int64) (hI : InvK INVC M) : XM l yX4_branch cX4_branch 3 none R_X4_branch LAY [.ref 12] (M, L) (P_X4_branch (f_X4_branch M) L) := by
  refine XM.of (by decide) (Nat.le_of_ble_eq_true rfl) LAY_in cl_ok fl_X4_ok kc_X4_ok (fun V C => ?_)
  obtain ⟨r, h⟩ : ∃ r, f_X4_branch M = r := ⟨_, rfl⟩
  rw [h] at C
  change C_X4_branch l r L V at C
  unfold f_X4_branch at h
  show V 0 0 0 [(0, .ref 12)] [] LAY (M, L)
  refine x_run C e_X4_branch_1 e_X4_branch_1_k (pc' := 16) (lv' := [(1, .int (M 2 17)), (0, .ref 12)]) (st' := [.int 0, .int (M 11 0)]) (σ' := (M, L)) rfl ⟨trivial, trivial, trivial, (x_rgv (x_rgc (x := 17) (k := 17) (by decide)) (by decide) (by decide)), trivial, trivial, trivial, trivial, trivial, trivial⟩ ?_
  refine x_callSN C (rest := []) (avs := [.int (M 11 0), .int 0]) (k_X10_extended l (M 11 0) 0 M L) yoX10_extended ml_X4_97 rfl ⟨Nat.zero_le _, Nat.zero_le _⟩ (show decode cX4_branch 16 = .ok (.invokestatic 97, 3) from by decide +kernel) rfl (fun v σ' hPo => ?_)
  obtain ⟨⟨rfl, rfl⟩, g2, -⟩ := hPo
  show V 0 0 19 [(1, .int (M 2 17)), (0, .ref 12)] [.int (f_X10_extended (M 11 0) 0)] LAY (M, L)
  refine x_run C e_X4_branch_2 e_X4_branch_2_k (pc' := 21) (lv' := [(2, .int (f_X10_extended (M 11 0) 0)), (1, .int (M 2 17)), (0, .ref 12)]) (st' := [.int (f_X10_extended (M 11 0) 0)]) (σ' := (M, L)) rfl ⟨trivial, trivial, trivial⟩ ?_
  refine x_if_ne C (show decode cX4_branch 21 = .ok (.ifCond .ne 16, 3) from by decide +kernel) (tgt := 37) (by decide) (fun c4 => ?_) (fun c4 => ?_)
  · rw [if_neg c4] at h
    refine x_lv C [2, 1, 0] rfl ?_
    exact b_X4_branch_37 r C (M 2 17) (f_X10_extended (M 11 0) 0) M hI h
  · rw [if_pos c4] at h
    have g5 : xrg 0 0 (f_X10_extended (M 11 0) 0) := (x_c_eq (x_rgt (f_X10_extended (M 11 0) 0)) (x_rgc (x := 0) (k := 0) (by decide)) c4).1
    refine x_run C e_X4_branch_3 e_X4_branch_3_k (pc' := 29) (lv' := [(2, .int (f_X10_extended (M 11 0) 0)), (1, .int (M 2 17)), (0, .ref 12)]) (st' := [.int 1, .ref 10]) (σ' := (M, L)) rfl ⟨trivial, trivial, trivial, trivial⟩ ?_
    refine x_callV C (k := 10) (ci := 4) (rest := []) (avs := [.int 1]) (k_X6_fetch l 1 M L hI) yoX6_fetch ml_X4_122 rfl rfl rfl rfl ⟨Nat.zero_le _, Nat.zero_le _⟩ (show decode cX4_branch 29 = .ok (.invokevirtual 122, 3) from by decide +kernel) rfl (fun v σ' hPo => ?_)
    obtain ⟨⟨rfl, rfl⟩, g7, hI8⟩ := hPo
    generalize hq6 : f_X6_fetch 1 M = q6 at h g7 hI8 ⊢
    obtain ⟨r6, M6⟩ := q6
    have h := xb_eq h
    try dsimp only at h g7 hI8
    show V 0 0 32 [(2, .int (f_X10_extended (M 11 0) 0)), (1, .int (M 2 17)), (0, .ref 12)] [.int r6] LAY (M6, L)
    refine x_run C e_X4_branch_4 e_X4_branch_4_k (pc' := 33) (lv' := [(2, .int (f_X10_extended (M 11 0) 0)), (1, .int (M 2 17)), (0, .ref 12)]) (st' := [.int 1, .int r6]) (σ' := (M6, L)) rfl ⟨trivial, trivial⟩ ?_
    refine x_callSN C (rest := []) (avs := [.int r6, .int 1]) (k_X10_extended l r6 1 M6 L) yoX10_extended ml_X4_97 rfl ⟨Nat.zero_le _, Nat.zero_le _⟩ (show decode cX4_branch 33 = .ok (.invokestatic 97, 3) from by decide +kernel) rfl (fun v σ' hPo => ?_)
    obtain ⟨⟨rfl, rfl⟩, g10, -⟩ := hPo
    show V 0 0 36 [(2, .int (f_X10_extended (M 11 0) 0)), (1, .int (M 2 17)), (0, .ref 12)] [.int (f_X10_extended r6 1)] LAY (M6, L)
    refine x_run C e_X4_branch_5 e_X4_branch_5_k (pc' := 37) (lv' := [(2, .int (f_X10_extended r6 1)), (1, .int (M 2 17)), (0, .ref 12)]) (st' := []) (σ' := (M6, L)) rfl ⟨trivial, trivial⟩ ?_
    refine x_lv C [2, 1, 0] rfl ?_
    exact b_X4_branch_37 r C (M 2 17) (f_X10_extended r6 1) M6 hI8 h
-- X4_countDown
def e_X4_countDown_1 : List xI := [(0, .aload_n 0, 1, .null), (1, .getfield 21, 3, .null), (4, .bipush 17, 2, .int 17), (6, .iaload, 1, .null), (7, .istore_n 1, 1, .null), (8, .aload_n 0, 1, .null), (9, .getfield 26, 3, .null), (12, .iconst 1, 1, .int 1)]
theorem e_X4_countDown_1_k : e_X4_countDown_1.all (fun q => xokB cX4_countDown q && xokL q) = true := by decide +kernel
def e_X4_countDown_2 : List xI := [(16, .iconst 1, 1, .int 1)]
theorem e_X4_countDown_2_k : e_X4_countDown_2.all (fun q => xokB cX4_countDown q && xokL q) = true := by decide +kernel
def e_X4_countDown_3 : List xI := [(20, .istore_n 2, 1, .null), (21, .aload_n 0, 1, .null), (22, .getfield 9, 3, .null), (25, .aload_n 0, 1, .null), (26, .getfield 30, 3, .null)]
theorem e_X4_countDown_3_k : e_X4_countDown_3.all (fun q => xokB cX4_countDown q && xokL q) = true := by decide +kernel
def e_X4_countDown_4 : List xI := [(39, .aload_n 0, 1, .null), (40, .getfield 30, 3, .null)]
theorem e_X4_countDown_4_k : e_X4_countDown_4.all (fun q => xokB cX4_countDown q && xokL q) = true := by decide +kernel
def e_X4_countDown_5 : List xI := [(46, .istore_n 3, 1, .null), (47, .aload_n 0, 1, .null), (48, .getfield 21, 3, .null), (51, .iload_n 3, 1, .null), (52, .iaload, 1, .null), (53, .iconst 1, 1, .int 1), (54, .isub, 1, .null), (55, .ldc_w 269, 3, .null), (58, .iand, 1, .null), (59, .istore 4, 2, .null), (61, .aload_n 0, 1, .null), (62, .getfield 21, 3, .null), (65, .iload_n 3, 1, .null), (66, .aload_n 0, 1, .null), (67, .getfield 21, 3, .null), (70, .iload_n 3, 1, .null), (71, .iaload, 1, .null), (72, .ldc_w 313, 3, .null), (75, .iand, 1, .null), (76, .iload 4, 2, .null), (78, .ior, 1, .null), (79, .iastore, 1, .null), (80, .iload 4, 2, .null), (82, .ldc_w 269, 3, .null)]
theorem e_X4_countDown_5_k : e_X4_countDown_5.all (fun q => xokB cX4_countDown q && xokL q) = true := by decide +kernel
def e_X4_countDown_6 : List xI := [(88, .aload_n 0, 1, .null), (89, .getfield 21, 3, .null), (92, .bipush 17, 2, .int 17), (94, .iload_n 1, 1, .null), (95, .iload_n 2, 1, .null), (96, .iadd, 1, .null), (97, .iastore, 1, .null)]
theorem e_X4_countDown_6_k : e_X4_countDown_6.all (fun q => xokB cX4_countDown q && xokL q) = true := by decide +kernel
abbrev P_X4_countDown (r : St) (L : Nat → Nat → Int64) : Option Value → xG → Prop := fun v σ' => PoV r L v σ' ∧ InvK INVC r
abbrev R_X4_countDown : Room := { frames := 3, cells := 0, slots := 0, locals := 77 }
abbrev C_X4_countDown (l : Launch) (r : St) (L : Nat → Nat → Int64) (V : XJ) : Prop := XC l yX4_countDown.cls yX4_countDown.name cX4_countDown 5 R_X4_countDown 0 0 fl_X4 kc_X4 LAY.length (xfin none LAY (P_X4_countDown r L)) V
def f_X4_countDown (M : St) : St := (xb (f_X6_fetch 1 M) fun q1 => (if (f_X8_holds (f_X3_condition  q1.2) q1.2) = 0 then (if (((q1.2 2 (f_X3_lowerRegister  q1.2).toNatClampNeg) - 1) &&& 65535) = 65535 then (xup q1.2 2 (f_X3_lowerRegister  q1.2).toNatClampNeg (((q1.2 2 (f_X3_lowerRegister  q1.2).toNatClampNeg) &&& (-65536)) ||| (((q1.2 2 (f_X3_lowerRegister  q1.2).toNatClampNeg) - 1) &&& 65535))) else (xup (xup q1.2 2 (f_X3_lowerRegister  q1.2).toNatClampNeg (((q1.2 2 (f_X3_lowerRegister  q1.2).toNatClampNeg) &&& (-65536)) ||| (((q1.2 2 (f_X3_lowerRegister  q1.2).toNatClampNeg) - 1) &&& 65535))) 2 17 ((M 2 17) + (f_X10_extended q1.1 1)))) else q1.2))
set_option maxRecDepth 20000 in
set_option maxHeartbeats 4000000 in
theorem k_X4_countDown (l : Launch) (M : St) (L : Nat → Nat → Int64) (hI : InvK INVC M) : XM l yX4_countDown cX4_countDown 5 none R_X4_countDown LAY [.ref 12] (M, L) (P_X4_countDown (f_X4_countDown M) L) := by
  refine XM.of (by decide) (Nat.le_of_ble_eq_true rfl) LAY_in cl_ok fl_X4_ok kc_X4_ok (fun V C => ?_)
  obtain ⟨r, h⟩ : ∃ r, f_X4_countDown M = r := ⟨_, rfl⟩
  rw [h] at C
  change C_X4_countDown l r L V at C
  unfold f_X4_countDown at h
  show V 0 0 0 [(0, .ref 12)] [] LAY (M, L)
  refine x_run C e_X4_countDown_1 e_X4_countDown_1_k (pc' := 13) (lv' := [(1, .int (M 2 17)), (0, .ref 12)]) (st' := [.int 1, .ref 10]) (σ' := (M, L)) rfl ⟨trivial, trivial, trivial, (x_rgv (x_rgc (x := 17) (k := 17) (by decide)) (by decide) (by decide)), trivial, trivial, trivial, trivial, trivial⟩ ?_
  refine x_callV C (k := 10) (ci := 4) (rest := []) (avs := [.int 1]) (k_X6_fetch l 1 M L hI) yoX6_fetch ml_X4_122 rfl rfl rfl rfl ⟨Nat.zero_le _, Nat.zero_le _⟩ (show decode cX4_countDown 13 = .ok (.invokevirtual 122, 3) from by decide +kernel) rfl (fun v σ' hPo => ?_)
  obtain ⟨⟨rfl, rfl⟩, g2, hI3⟩ := hPo
  generalize hq1 : f_X6_fetch 1 M = q1 at h g2 hI3 ⊢
  obtain ⟨r1, M1⟩ := q1
  have h := xb_eq h
  try dsimp only at h g2 hI3
  show V 0 0 16 [(1, .int (M 2 17)), (0, .ref 12)] [.int r1] LAY (M1, L)
  refine x_run C e_X4_countDown_2 e_X4_countDown_2_k (pc' := 17) (lv' := [(1, .int (M 2 17)), (0, .ref 12)]) (st' := [.int 1, .int r1]) (σ' := (M1, L)) rfl ⟨trivial, trivial⟩ ?_
  refine x_callSN C (rest := []) (avs := [.int r1, .int 1]) (k_X10_extended l r1 1 M1 L) yoX10_extended ml_X4_97 rfl ⟨Nat.zero_le _, Nat.zero_le _⟩ (show decode cX4_countDown 17 = .ok (.invokestatic 97, 3) from by decide +kernel) rfl (fun v σ' hPo => ?_)
  obtain ⟨⟨rfl, rfl⟩, g5, -⟩ := hPo
  show V 0 0 20 [(1, .int (M 2 17)), (0, .ref 12)] [.int (f_X10_extended r1 1)] LAY (M1, L)
  refine x_run C e_X4_countDown_3 e_X4_countDown_3_k (pc' := 29) (lv' := [(2, .int (f_X10_extended r1 1)), (1, .int (M 2 17)), (0, .ref 12)]) (st' := [.ref 11, .ref 1]) (σ' := (M1, L)) rfl ⟨trivial, trivial, trivial, trivial, trivial, trivial⟩ ?_
  refine x_callV C (k := 11) (ci := 2) (rest := [.ref 1]) (avs := []) (k_X3_condition l  M1 L hI3) yoX3_condition ml_X4_153 rfl rfl rfl rfl ⟨Nat.zero_le _, Nat.zero_le _⟩ (show decode cX4_countDown 29 = .ok (.invokevirtual 153, 3) from by decide +kernel) rfl (fun v σ' hPo => ?_)
  obtain ⟨⟨rfl, rfl⟩, g8, hI9⟩ := hPo
  show V 0 0 32 [(2, .int (f_X10_extended r1 1)), (1, .int (M 2 17)), (0, .ref 12)] [.int (f_X3_condition  M1), .ref 1] LAY (M1, L)
  refine x_callV C (k := 1) (ci := 6) (rest := []) (avs := [.int (f_X3_condition  M1)]) (k_X8_holds l (f_X3_condition  M1) M1 L hI3) yoX8_holds ml_X4_156 rfl rfl rfl rfl ⟨Nat.zero_le _, Nat.zero_le _⟩ (show decode cX4_countDown 32 = .ok (.invokevirtual 156, 3) from by decide +kernel) rfl (fun v σ' hPo => ?_)
  obtain ⟨⟨rfl, rfl⟩, g11, hI12⟩ := hPo
  show V 0 0 35 [(2, .int (f_X10_extended r1 1)), (1, .int (M 2 17)), (0, .ref 12)] [.int (f_X8_holds (f_X3_condition  M1) M1)] LAY (M1, L)
  refine x_if_eq C (show decode cX4_countDown 35 = .ok (.ifCond .eq 4, 3) from by decide +kernel) (tgt := 39) (by decide) (fun c13 => ?_) (fun c13 => ?_)
  · rw [if_pos c13] at h
    have g14 : xrg 0 0 (f_X8_holds (f_X3_condition  M1) M1) := (x_c_eq g11 (x_rgc (x := 0) (k := 0) (by decide)) c13).1
    refine x_run C e_X4_countDown_4 e_X4_countDown_4_k (pc' := 43) (lv' := [(2, .int (f_X10_extended r1 1)), (1, .int (M 2 17)), (0, .ref 12)]) (st' := [.ref 11]) (σ' := (M1, L)) rfl ⟨trivial, trivial, trivial⟩ ?_
    refine x_callV C (k := 11) (ci := 2) (rest := []) (avs := []) (k_X3_lowerRegister l  M1 L hI3) yoX3_lowerRegister ml_X4_227 rfl rfl rfl rfl ⟨Nat.zero_le _, Nat.zero_le _⟩ (show decode cX4_countDown 43 = .ok (.invokevirtual 227, 3) from by decide +kernel) rfl (fun v σ' hPo => ?_)
    obtain ⟨⟨rfl, rfl⟩, g16, hI17⟩ := hPo
    show V 0 0 46 [(2, .int (f_X10_extended r1 1)), (1, .int (M 2 17)), (0, .ref 12)] [.int (f_X3_lowerRegister  M1)] LAY (M1, L)
    refine x_run C e_X4_countDown_5 e_X4_countDown_5_k (pc' := 85) (lv' := [(4, .int (((M1 2 (f_X3_lowerRegister  M1).toNatClampNeg) - 1) &&& 65535)), (3, .int (f_X3_lowerRegister  M1)), (2, .int (f_X10_extended r1 1)), (1, .int (M 2 17)), (0, .ref 12)]) (st' := [.int 65535, .int (((M1 2 (f_X3_lowerRegister  M1).toNatClampNeg) - 1) &&& 65535)]) (σ' := ((xup M1 2 (f_X3_lowerRegister  M1).toNatClampNeg (((M1 2 (f_X3_lowerRegister  M1).toNatClampNeg) &&& (-65536)) ||| (((M1 2 (f_X3_lowerRegister  M1).toNatClampNeg) - 1) &&& 65535))), L)) rfl ⟨trivial, trivial, trivial, trivial, (x_rgv g16 (by decide) (by decide)), trivial, trivial, trivial, trivial, trivial, trivial, trivial, trivial, trivial, trivial, trivial, (x_rgv g16 (by decide) (by decide)), trivial, trivial, trivial, trivial, (x_rgv g16 (by decide) (by decide)), trivial, trivial, trivial⟩ ?_
    have hI18 : InvK INVC (xup M1 2 (f_X3_lowerRegister  M1).toNatClampNeg (((M1 2 (f_X3_lowerRegister  M1).toNatClampNeg) &&& (-65536)) ||| (((M1 2 (f_X3_lowerRegister  M1).toNatClampNeg) - 1) &&& 65535))) := (hI3.arr 2 ((f_X3_lowerRegister  M1).toNatClampNeg) (((M1 2 (f_X3_lowerRegister  M1).toNatClampNeg) &&& (-65536)) ||| (((M1 2 (f_X3_lowerRegister  M1).toNatClampNeg) - 1) &&& 65535)) (by decide))
    refine x_icmp_eq C (show decode cX4_countDown 85 = .ok (.if_icmp .eq 13, 3) from by decide +kernel) (tgt := 98) (by decide) (fun c19 => ?_) (fun c19 => ?_)
    · rw [if_pos c19] at h
      have g20 : xrg 65535 65535 (((M1 2 (f_X3_lowerRegister  M1).toNatClampNeg) - 1) &&& 65535) := (x_c_eq (x_rg_and (x := ((M1 2 (f_X3_lowerRegister  M1).toNatClampNeg) - 1)) (m := 65535) (k := 65535) (by decide) (by decide)) (x_rgc (x := 65535) (k := 65535) (by decide)) c19).1
      subst h
      exact x_vret C (show decode cX4_countDown 98 = .ok (.return_, 1) from by decide +kernel) (x_finV ⟨⟨rfl, rfl⟩, hI18⟩) (Nat.le_refl 0) (Nat.le_refl 0)
    · rw [if_neg c19] at h
      have g21 : xrg 0 65534 (((M1 2 (f_X3_lowerRegister  M1).toNatClampNeg) - 1) &&& 65535) := (x_c_neh (x_rg_and (x := ((M1 2 (f_X3_lowerRegister  M1).toNatClampNeg) - 1)) (m := 65535) (k := 65535) (by decide) (by decide)) (by decide) c19)
      refine x_run C e_X4_countDown_6 e_X4_countDown_6_k (pc' := 98) (lv' := [(4, .int (((M1 2 (f_X3_lowerRegister  M1).toNatClampNeg) - 1) &&& 65535)), (3, .int (f_X3_lowerRegister  M1)), (2, .int (f_X10_extended r1 1)), (1, .int (M 2 17)), (0, .ref 12)]) (st' := []) (σ' := ((xup (xup M1 2 (f_X3_lowerRegister  M1).toNatClampNeg (((M1 2 (f_X3_lowerRegister  M1).toNatClampNeg) &&& (-65536)) ||| (((M1 2 (f_X3_lowerRegister  M1).toNatClampNeg) - 1) &&& 65535))) 2 17 ((M 2 17) + (f_X10_extended r1 1))), L)) rfl ⟨trivial, trivial, trivial, trivial, trivial, trivial, (x_rgv (x_rgc (x := 17) (k := 17) (by decide)) (by decide) (by decide)), trivial⟩ ?_
      have hI22 : InvK INVC (xup (xup M1 2 (f_X3_lowerRegister  M1).toNatClampNeg (((M1 2 (f_X3_lowerRegister  M1).toNatClampNeg) &&& (-65536)) ||| (((M1 2 (f_X3_lowerRegister  M1).toNatClampNeg) - 1) &&& 65535))) 2 17 ((M 2 17) + (f_X10_extended r1 1))) := (hI18.arr 2 17 ((M 2 17) + (f_X10_extended r1 1)) (by decide))
      subst h
      exact x_vret C (show decode cX4_countDown 98 = .ok (.return_, 1) from by decide +kernel) (x_finV ⟨⟨rfl, rfl⟩, hI22⟩) (Nat.le_refl 0) (Nat.le_refl 0)
  · rw [if_neg c13] at h
    have g23 : xrg 1 1 (f_X8_holds (f_X3_condition  M1) M1) := (x_c_ne g11 (by decide) c13)
    subst h
    exact x_vret C (show decode cX4_countDown 38 = .ok (.return_, 1) from by decide +kernel) (x_finV ⟨⟨rfl, rfl⟩, hI3⟩) (Nat.le_refl 0) (Nat.le_refl 0)
-- X4_loadBytes
def e_X4_loadBytes_1 : List xI := [(0, .iconst 0, 1, .int 0), (1, .istore_n 3, 1, .null), (2, .iconst 0, 1, .int 0), (3, .istore 4, 2, .null)]
theorem e_X4_loadBytes_1_k : e_X4_loadBytes_1.all (fun q => xokB cX4_loadBytes q && xokL q) = true := by decide +kernel
def e_X4_loadBytes_2 : List xI := [(5, .iload 4, 2, .null), (7, .iload_n 2, 1, .null)]
theorem e_X4_loadBytes_2_k : e_X4_loadBytes_2.all (fun q => xokB cX4_loadBytes q && xokL q) = true := by decide +kernel
def e_X4_loadBytes_3 : List xI := [(41, .aload_n 0, 1, .null), (42, .getfield 30, 3, .null)]
theorem e_X4_loadBytes_3_k : e_X4_loadBytes_3.all (fun q => xokB cX4_loadBytes q && xokL q) = true := by decide +kernel
def e_X4_loadBytes_4 : List xI := [(48, .istore 4, 2, .null), (50, .aload_n 0, 1, .null), (51, .getfield 21, 3, .null), (54, .iload 4, 2, .null), (56, .aload_n 0, 1, .null), (57, .getfield 21, 3, .null), (60, .iload 4, 2, .null), (62, .iaload, 1, .null), (63, .iload_n 2, 1, .null)]
theorem e_X4_loadBytes_4_k : e_X4_loadBytes_4.all (fun q => xokB cX4_loadBytes q && xokL q) = true := by decide +kernel
def e_X4_loadBytes_5 : List xI := [(67, .iconst (-1), 1, .int (-1)), (68, .ixor, 1, .null), (69, .iand, 1, .null), (70, .iload_n 3, 1, .null), (71, .ior, 1, .null), (72, .iastore, 1, .null)]
theorem e_X4_loadBytes_5_k : e_X4_loadBytes_5.all (fun q => xokB cX4_loadBytes q && xokL q) = true := by decide +kernel
def e_X4_loadBytes_6 : List xI := [(14, .iload_n 3, 1, .null), (15, .bipush 8, 2, .int 8), (17, .ishl, 1, .null), (18, .aload_n 0, 1, .null), (19, .getfield 22, 3, .null), (22, .iload_n 1, 1, .null), (23, .iconst 2, 1, .int 2), (24, .iload 4, 2, .null), (26, .imul, 1, .null), (27, .iadd, 1, .null), (28, .iconst 0, 1, .int 0), (29, .iconst 1, 1, .int 1)]
theorem e_X4_loadBytes_6_k : e_X4_loadBytes_6.all (fun q => xokB cX4_loadBytes q && xokL q) = true := by decide +kernel
def e_X4_loadBytes_7 : List xI := [(33, .ior, 1, .null), (34, .istore_n 3, 1, .null), (35, .iinc 4 1, 3, .null)]
theorem e_X4_loadBytes_7_k : e_X4_loadBytes_7.all (fun q => xokB cX4_loadBytes q && xokL q) = true := by decide +kernel
abbrev P_X4_loadBytes (r : St) (L : Nat → Nat → Int64) : Option Value → xG → Prop := fun v σ' => PoV r L v σ' ∧ InvK INVC r
abbrev R_X4_loadBytes : Room := { frames := 2, cells := 0, slots := 0, locals := 54 }
abbrev C_X4_loadBytes (l : Launch) (r : St) (L : Nat → Nat → Int64) (V : XJ) : Prop := XC l yX4_loadBytes.cls yX4_loadBytes.name cX4_loadBytes 5 R_X4_loadBytes 0 0 fl_X4 kc_X4 LAY.length (xfin none LAY (P_X4_loadBytes r L)) V
def f_X4_loadBytes_5 : Nat → Int32 → Int32 → Int32 → Int32 → St → St
  | 0, x1, x2, x3, x4, M => M
  | n + 1, x1, x2, x3, x4, M => (if (f_X10_bytesOf x2) ≤ x4 then (xup M 2 (f_X3_upperRegister  M).toNatClampNeg (((M 2 (f_X3_upperRegister  M).toNatClampNeg) &&& ((f_X10_maskOf x2) ^^^ (-1))) ||| x3)) else (xb (f_X2_read (x1 + (2 * x4)) 0 1 M) fun q15 => f_X4_loadBytes_5 n x1 x2 ((x3 <<< ((8 : Int32) &&& 31)) ||| q15.1) (x4 + 1) q15.2))
def f_X4_loadBytes (a1 : Int32) (a2 : Int32) (M : St) : St := f_X4_loadBytes_5 (((f_X10_bytesOf a2).toInt - (0 : Int32).toInt).toNat + 1) a1 a2 0 0 M
set_option maxRecDepth 20000 in
set_option maxHeartbeats 4000000 in
theorem b_X4_loadBytes_5 {l : Launch} {L : Nat → Nat → Int64} {V : XJ} (r : St) (C : C_X4_loadBytes l r L V) : ∀ (n : Nat) (x1 : Int32) (x2 : Int32) (x3 : Int32) (x4 : Int32) (M : St), xrg 1 2 x2 → xrg 0 4 x4 → InvK INVC M → ((f_X10_bytesOf x2).toInt - x4.toInt).toNat < n → f_X4_loadBytes_5 n x1 x2 x3 x4 M = r → V 0 0 5 [(0, .ref 12), (1, .int x1), (2, .int x2), (3, .int x3), (4, .int x4)] [] LAY (M, L) := by
  intro n
  induction n with
  | zero => intro x1 x2 x3 x4 M  wx2 wx4 hI hm; exact absurd hm (Nat.not_lt_zero _)
  | succ n ih =>
    intro x1 x2 x3 x4 M  wx2 wx4 hI hm h
    unfold f_X4_loadBytes_5 at h
    refine x_run C e_X4_loadBytes_2 e_X4_loadBytes_2_k (pc' := 8) (lv' := [(0, .ref 12), (1, .int x1), (2, .int x2), (3, .int x3), (4, .int x4)]) (st' := [.int x2, .int x4]) (σ' := (M, L)) rfl ⟨trivial, trivial, trivial⟩ ?_
    refine x_callSN C (rest := [.int x4]) (avs := [.int x2]) (k_X10_bytesOf l x2 M L) yoX10_bytesOf ml_X4_298 rfl ⟨Nat.zero_le _, Nat.zero_le _⟩ (show decode cX4_loadBytes 8 = .ok (.invokestatic 298, 3) from by decide +kernel) rfl (fun v σ' hPo => ?_)
    obtain ⟨⟨rfl, rfl⟩, g2, -⟩ := hPo
    show V 0 0 11 [(0, .ref 12), (1, .int x1), (2, .int x2), (3, .int x3), (4, .int x4)] [.int (f_X10_bytesOf x2), .int x4] LAY (M, L)
    refine x_icmp_ge C (show decode cX4_loadBytes 11 = .ok (.if_icmp .ge 30, 3) from by decide +kernel) (tgt := 41) (by decide) (fun c4 => ?_) (fun c4 => ?_)
    · rw [if_pos c4] at h
      have g5 : xrg 1 4 x4 := (x_c_le (x_bytes (x_rgw wx2 (lo' := 0) (hi' := 2) (by decide) (by decide))) wx4 c4).2
      refine x_run C e_X4_loadBytes_3 e_X4_loadBytes_3_k (pc' := 45) (lv' := [(0, .ref 12), (1, .int x1), (2, .int x2), (3, .int x3), (4, .int x4)]) (st' := [.ref 11]) (σ' := (M, L)) rfl ⟨trivial, trivial, trivial⟩ ?_
      refine x_callV C (k := 11) (ci := 2) (rest := []) (avs := []) (k_X3_upperRegister l  M L hI) yoX3_upperRegister ml_X4_116 rfl rfl rfl rfl ⟨Nat.zero_le _, Nat.zero_le _⟩ (show decode cX4_loadBytes 45 = .ok (.invokevirtual 116, 3) from by decide +kernel) rfl (fun v σ' hPo => ?_)
      obtain ⟨⟨rfl, rfl⟩, g7, hI8⟩ := hPo
      show V 0 0 48 [(0, .ref 12), (1, .int x1), (2, .int x2), (3, .int x3), (4, .int x4)] [.int (f_X3_upperRegister  M)] LAY (M, L)
      refine x_run C e_X4_loadBytes_4 e_X4_loadBytes_4_k (pc' := 64) (lv' := [(4, .int (f_X3_upperRegister  M)), (0, .ref 12), (1, .int x1), (2, .int x2), (3, .int x3)]) (st' := [.int x2, .int (M 2 (f_X3_upperRegister  M).toNatClampNeg), .int (f_X3_upperRegister  M), .ref 2]) (σ' := (M, L)) rfl ⟨trivial, trivial, trivial, trivial, trivial, trivial, trivial, (x_rgv g7 (by decide) (by decide)), trivial, trivial⟩ ?_
      refine x_callSN C (rest := [.int (M 2 (f_X3_upperRegister  M).toNatClampNeg), .int (f_X3_upperRegister  M), .ref 2]) (avs := [.int x2]) (k_X10_maskOf l x2 M L) yoX10_maskOf ml_X4_310 rfl ⟨Nat.zero_le _, Nat.zero_le _⟩ (show decode cX4_loadBytes 64 = .ok (.invokestatic 310, 3) from by decide +kernel) rfl (fun v σ' hPo => ?_)
      obtain ⟨⟨rfl, rfl⟩, g10, -⟩ := hPo
      show V 0 0 67 [(4, .int (f_X3_upperRegister  M)), (0, .ref 12), (1, .int x1), (2, .int x2), (3, .int x3)] [.int (f_X10_maskOf x2), .int (M 2 (f_X3_upperRegister  M).toNatClampNeg), .int (f_X3_upperRegister  M), .ref 2] LAY (M, L)
      refine x_run C e_X4_loadBytes_5 e_X4_loadBytes_5_k (pc' := 73) (lv' := [(4, .int (f_X3_upperRegister  M)), (0, .ref 12), (1, .int x1), (2, .int x2), (3, .int x3)]) (st' := []) (σ' := ((xup M 2 (f_X3_upperRegister  M).toNatClampNeg (((M 2 (f_X3_upperRegister  M).toNatClampNeg) &&& ((f_X10_maskOf x2) ^^^ (-1))) ||| x3)), L)) rfl ⟨trivial, trivial, trivial, trivial, trivial, (x_rgv g7 (by decide) (by decide)), trivial⟩ ?_
      have hI12 : InvK INVC (xup M 2 (f_X3_upperRegister  M).toNatClampNeg (((M 2 (f_X3_upperRegister  M).toNatClampNeg) &&& ((f_X10_maskOf x2) ^^^ (-1))) ||| x3)) := (hI.arr 2 ((f_X3_upperRegister  M).toNatClampNeg) (((M 2 (f_X3_upperRegister  M).toNatClampNeg) &&& ((f_X10_maskOf x2) ^^^ (-1))) ||| x3) (by decide))
      subst h
      exact x_vret C (show decode cX4_loadBytes 73 = .ok (.return_, 1) from by decide +kernel) (x_finV ⟨⟨rfl, rfl⟩, hI12⟩) (Nat.le_refl 0) (Nat.le_refl 0)
    · rw [if_neg c4] at h
      have g13 : xrg 0 3 x4 := (x_c_nle (x_bytes (x_rgw wx2 (lo' := 0) (hi' := 2) (by decide) (by decide))) wx4 c4).2
      have hk14 := x_meas (x_nle c4) hm
      refine x_run C e_X4_loadBytes_6 e_X4_loadBytes_6_k (pc' := 30) (lv' := [(0, .ref 12), (1, .int x1), (2, .int x2), (3, .int x3), (4, .int x4)]) (st' := [.int 1, .int 0, .int (x1 + (2 * x4)), .ref 4, .int (x3 <<< ((8 : Int32) &&& 31))]) (σ' := (M, L)) rfl ⟨trivial, trivial, trivial, trivial, trivial, trivial, trivial, trivial, trivial, trivial, trivial, trivial, trivial⟩ ?_
      refine x_callV C (k := 4) (ci := 1) (rest := [.int (x3 <<< ((8 : Int32) &&& 31))]) (avs := [.int (x1 + (2 * x4)), .int 0, .int 1]) (k_X2_read l (x1 + (2 * x4)) 0 1 M L hI) yoX2_read ml_X4_301 rfl rfl rfl rfl ⟨Nat.zero_le _, Nat.zero_le _⟩ (show decode cX4_loadBytes 30 = .ok (.invokevirtual 301, 3) from by decide +kernel) rfl (fun v σ' hPo => ?_)
      obtain ⟨⟨rfl, rfl⟩, g16, hI17⟩ := hPo
      generalize hq15 : f_X2_read (x1 + (2 * x4)) 0 1 M = q15 at h g16 hI17 ⊢
      obtain ⟨r15, M15⟩ := q15
      have h := xb_eq h
      try dsimp only at h g16 hI17
      show V 0 0 33 [(0, .ref 12), (1, .int x1), (2, .int x2), (3, .int x3), (4, .int x4)] [.int r15, .int (x3 <<< ((8 : Int32) &&& 31))] LAY (M15, L)
      refine x_run C e_X4_loadBytes_7 e_X4_loadBytes_7_k (pc' := 38) (lv' := [(4, .int (x4 + 1)), (3, .int ((x3 <<< ((8 : Int32) &&& 31)) ||| r15)), (0, .ref 12), (1, .int x1), (2, .int x2)]) (st' := []) (σ' := (M15, L)) rfl ⟨trivial, trivial, trivial, trivial⟩ ?_
      refine x_goto C (show decode cX4_loadBytes 38 = .ok (.goto (-33), 3) from by decide +kernel) (tgt := 5) (by decide) ?_
      refine x_lv C [2, 3, 4, 1, 0] rfl ?_
      exact ih x1 x2 ((x3 <<< ((8 : Int32) &&& 31)) ||| r15) (x4 + 1) M15 wx2 (x_rgw (x_rg_add g13 (x_rgc (x := 1) (k := 1) (by decide)) (by decide) (by decide)) (lo' := 0) (hi' := 4) (by decide) (by decide)) hI17 (hk14) h
set_option maxRecDepth 20000 in
set_option maxHeartbeats 4000000 in
theorem k_X4_loadBytes (l : Launch) (a1 : Int32) (a2 : Int32) (M : St) (L : Nat → Nat → Int64) (hp2 : xrg 1 2 a2) (hI : InvK INVC M) : XM l yX4_loadBytes cX4_loadBytes 5 none R_X4_loadBytes LAY [.ref 12, .int a1, .int a2] (M, L) (P_X4_loadBytes (f_X4_loadBytes a1 a2 M) L) := by
  refine XM.of (by decide) (Nat.le_of_ble_eq_true rfl) LAY_in cl_ok fl_X4_ok kc_X4_ok (fun V C => ?_)
  obtain ⟨r, h⟩ : ∃ r, f_X4_loadBytes a1 a2 M = r := ⟨_, rfl⟩
  rw [h] at C
  change C_X4_loadBytes l r L V at C
  unfold f_X4_loadBytes at h
  show V 0 0 0 [(0, .ref 12), (1, .int a1), (2, .int a2)] [] LAY (M, L)
  refine x_run C e_X4_loadBytes_1 e_X4_loadBytes_1_k (pc' := 5) (lv' := [(4, .int 0), (3, .int 0), (0, .ref 12), (1, .int a1), (2, .int a2)]) (st' := []) (σ' := (M, L)) rfl ⟨trivial, trivial, trivial, trivial, trivial⟩ ?_
  refine x_lv C [2, 3, 4, 1, 0] rfl ?_
  exact b_X4_loadBytes_5 r C (((f_X10_bytesOf a2).toInt - (0 : Int32).toInt).toNat + 1) a1 a2 0 0 M hp2 (x_rgw (x_rgc (x := 0) (k := 0) (by decide)) (lo' := 0) (hi' := 4) (by decide) (by decide)) hI (Nat.lt_succ_self _) h
-- X4_storeBytes
def e_X4_storeBytes_1 : List xI := [(0, .aload_n 0, 1, .null), (1, .getfield 21, 3, .null), (4, .aload_n 0, 1, .null), (5, .getfield 30, 3, .null)]
theorem e_X4_storeBytes_1_k : e_X4_storeBytes_1.all (fun q => xokB cX4_storeBytes q && xokL q) = true := by decide +kernel
def e_X4_storeBytes_2 : List xI := [(11, .iaload, 1, .null), (12, .istore_n 3, 1, .null), (13, .iload_n 2, 1, .null)]
theorem e_X4_storeBytes_2_k : e_X4_storeBytes_2.all (fun q => xokB cX4_storeBytes q && xokL q) = true := by decide +kernel
def e_X4_storeBytes_3 : List xI := [(17, .iconst 1, 1, .int 1), (18, .isub, 1, .null), (19, .istore 4, 2, .null), (21, .iconst 0, 1, .int 0), (22, .istore 5, 2, .null)]
theorem e_X4_storeBytes_3_k : e_X4_storeBytes_3.all (fun q => xokB cX4_storeBytes q && xokL q) = true := by decide +kernel
def e_X4_storeBytes_4 : List xI := [(24, .iload 5, 2, .null), (26, .iload 4, 2, .null)]
theorem e_X4_storeBytes_4_k : e_X4_storeBytes_4.all (fun q => xokB cX4_storeBytes q && xokL q) = true := by decide +kernel
def e_X4_storeBytes_5 : List xI := [(31, .aload_n 0, 1, .null), (32, .getfield 22, 3, .null), (35, .iload_n 1, 1, .null), (36, .iconst 2, 1, .int 2), (37, .iload 5, 2, .null), (39, .imul, 1, .null), (40, .iadd, 1, .null), (41, .iconst 0, 1, .int 0), (42, .iload_n 3, 1, .null), (43, .bipush 8, 2, .int 8), (45, .iload 4, 2, .null), (47, .iload 5, 2, .null), (49, .isub, 1, .null), (50, .imul, 1, .null), (51, .iushr, 1, .null)]
theorem e_X4_storeBytes_5_k : e_X4_storeBytes_5.all (fun q => xokB cX4_storeBytes q && xokL q) = true := by decide +kernel
def e_X4_storeBytes_6 : List xI := [(55, .iinc 5 1, 3, .null)]
theorem e_X4_storeBytes_6_k : e_X4_storeBytes_6.all (fun q => xokB cX4_storeBytes q && xokL q) = true := by decide +kernel
abbrev P_X4_storeBytes (r : St) (L : Nat → Nat → Int64) : Option Value → xG → Prop := fun v σ' => PoV r L v σ' ∧ InvK INVC r
abbrev R_X4_storeBytes : Room := { frames := 2, cells := 0, slots := 0, locals := 53 }
abbrev C_X4_storeBytes (l : Launch) (r : St) (L : Nat → Nat → Int64) (V : XJ) : Prop := XC l yX4_storeBytes.cls yX4_storeBytes.name cX4_storeBytes 6 R_X4_storeBytes 0 0 fl_X4 kc_X4 LAY.length (xfin none LAY (P_X4_storeBytes r L)) V
def f_X4_storeBytes_24 : Nat → Int32 → Int32 → Int32 → Int32 → St → St
  | 0, x1, x3, x4, x5, M => M
  | n + 1, x1, x3, x4, x5, M => (if x4 < x5 then M else (xb (f_X2_write (x1 + (2 * x5)) 0 (ius x3 (8 * (x4 - x5))) M) fun q11 => f_X4_storeBytes_24 n x1 x3 x4 (x5 + 1) q11))
def f_X4_storeBytes (a1 : Int32) (a2 : Int32) (M : St) : St := f_X4_storeBytes_24 ((((f_X10_bytesOf a2) - 1).toInt + 1 - (0 : Int32).toInt).toNat + 1) a1 (M 2 (f_X3_upperRegister  M).toNatClampNeg) ((f_X10_bytesOf a2) - 1) 0 M
set_option maxRecDepth 20000 in
set_option maxHeartbeats 4000000 in
theorem b_X4_storeBytes_24 {l : Launch} {L : Nat → Nat → Int64} {V : XJ} (r : St) (C : C_X4_storeBytes l r L V) : ∀ (n : Nat) (x1 : Int32) (x3 : Int32) (x4 : Int32) (x5 : Int32) (M : St), xrg 0 3 x4 → xrg 0 4 x5 → InvK INVC M → (x4.toInt + 1 - x5.toInt).toNat < n → f_X4_storeBytes_24 n x1 x3 x4 x5 M = r → V 0 0 24 [(0, .ref 12), (1, .int x1), (3, .int x3), (4, .int x4), (5, .int x5)] [] LAY (M, L) := by
  intro n
  induction n with
  | zero => intro x1 x3 x4 x5 M  wx4 wx5 hI hm; exact absurd hm (Nat.not_lt_zero _)
  | succ n ih =>
    intro x1 x3 x4 x5 M  wx4 wx5 hI hm h
    unfold f_X4_storeBytes_24 at h
    refine x_run C e_X4_storeBytes_4 e_X4_storeBytes_4_k (pc' := 28) (lv' := [(0, .ref 12), (1, .int x1), (3, .int x3), (4, .int x4), (5, .int x5)]) (st' := [.int x4, .int x5]) (σ' := (M, L)) rfl ⟨trivial, trivial, trivial⟩ ?_
    refine x_icmp_gt C (show decode cX4_storeBytes 28 = .ok (.if_icmp .gt 33, 3) from by decide +kernel) (tgt := 61) (by decide) (fun c7 => ?_) (fun c7 => ?_)
    · rw [if_pos c7] at h
      have g8 : xrg 1 4 x5 := (x_c_lt wx4 wx5 c7).2
      subst h
      exact x_vret C (show decode cX4_storeBytes 61 = .ok (.return_, 1) from by decide +kernel) (x_finV ⟨⟨rfl, rfl⟩, hI⟩) (Nat.le_refl 0) (Nat.le_refl 0)
    · rw [if_neg c7] at h
      have g9 : xrg 0 3 x5 := (x_c_nlt wx4 wx5 c7).2
      have hk10 := x_mease c7 wx4 hm
      refine x_run C e_X4_storeBytes_5 e_X4_storeBytes_5_k (pc' := 52) (lv' := [(0, .ref 12), (1, .int x1), (3, .int x3), (4, .int x4), (5, .int x5)]) (st' := [.int (ius x3 (8 * (x4 - x5))), .int 0, .int (x1 + (2 * x5)), .ref 4]) (σ' := (M, L)) rfl ⟨trivial, trivial, trivial, trivial, trivial, trivial, trivial, trivial, trivial, trivial, trivial, trivial, trivial, trivial, trivial, trivial⟩ ?_
      refine x_callV C (k := 4) (ci := 1) (rest := []) (avs := [.int (x1 + (2 * x5)), .int 0, .int (ius x3 (8 * (x4 - x5)))]) (k_X2_write l (x1 + (2 * x5)) 0 (ius x3 (8 * (x4 - x5))) M L hI) yoX2_write ml_X4_295 rfl rfl rfl rfl ⟨Nat.zero_le _, Nat.zero_le _⟩ (show decode cX4_storeBytes 52 = .ok (.invokevirtual 295, 3) from by decide +kernel) rfl (fun v σ' hPo => ?_)
      obtain ⟨⟨rfl, rfl⟩, hI13⟩ := hPo
      generalize hq11 : f_X2_write (x1 + (2 * x5)) 0 (ius x3 (8 * (x4 - x5))) M = q11 at h hI13 ⊢
      have h := xb_eq h
      show V 0 0 55 [(0, .ref 12), (1, .int x1), (3, .int x3), (4, .int x4), (5, .int x5)] [] LAY (q11, L)
      refine x_run C e_X4_storeBytes_6 e_X4_storeBytes_6_k (pc' := 58) (lv' := [(5, .int (x5 + 1)), (0, .ref 12), (1, .int x1), (3, .int x3), (4, .int x4)]) (st' := []) (σ' := (q11, L)) rfl ⟨trivial, trivial⟩ ?_
      refine x_goto C (show decode cX4_storeBytes 58 = .ok (.goto (-34), 3) from by decide +kernel) (tgt := 24) (by decide) ?_
      refine x_lv C [1, 2, 3, 4, 0] rfl ?_
      exact ih x1 x3 x4 (x5 + 1) q11 wx4 (x_rgw (x_rg_add g9 (x_rgc (x := 1) (k := 1) (by decide)) (by decide) (by decide)) (lo' := 0) (hi' := 4) (by decide) (by decide)) hI13 (hk10) h
set_option maxRecDepth 20000 in
set_option maxHeartbeats 4000000 in
theorem k_X4_storeBytes (l : Launch) (a1 : Int32) (a2 : Int32) (M : St) (L : Nat → Nat → Int64) (hp2 : xrg 1 2 a2) (hI : InvK INVC M) : XM l yX4_storeBytes cX4_storeBytes 6 none R_X4_storeBytes LAY [.ref 12, .int a1, .int a2] (M, L) (P_X4_storeBytes (f_X4_storeBytes a1 a2 M) L) := by
  refine XM.of (by decide) (Nat.le_of_ble_eq_true rfl) LAY_in cl_ok fl_X4_ok kc_X4_ok (fun V C => ?_)
  obtain ⟨r, h⟩ : ∃ r, f_X4_storeBytes a1 a2 M = r := ⟨_, rfl⟩
  rw [h] at C
  change C_X4_storeBytes l r L V at C
  unfold f_X4_storeBytes at h
  show V 0 0 0 [(0, .ref 12), (1, .int a1), (2, .int a2)] [] LAY (M, L)
  refine x_run C e_X4_storeBytes_1 e_X4_storeBytes_1_k (pc' := 8) (lv' := [(0, .ref 12), (1, .int a1), (2, .int a2)]) (st' := [.ref 11, .ref 2]) (σ' := (M, L)) rfl ⟨trivial, trivial, trivial, trivial, trivial⟩ ?_
  refine x_callV C (k := 11) (ci := 2) (rest := [.ref 2]) (avs := []) (k_X3_upperRegister l  M L hI) yoX3_upperRegister ml_X4_116 rfl rfl rfl rfl ⟨Nat.zero_le _, Nat.zero_le _⟩ (show decode cX4_storeBytes 8 = .ok (.invokevirtual 116, 3) from by decide +kernel) rfl (fun v σ' hPo => ?_)
  obtain ⟨⟨rfl, rfl⟩, g2, hI3⟩ := hPo
  show V 0 0 11 [(0, .ref 12), (1, .int a1), (2, .int a2)] [.int (f_X3_upperRegister  M), .ref 2] LAY (M, L)
  refine x_run C e_X4_storeBytes_2 e_X4_storeBytes_2_k (pc' := 14) (lv' := [(3, .int (M 2 (f_X3_upperRegister  M).toNatClampNeg)), (0, .ref 12), (1, .int a1), (2, .int a2)]) (st' := [.int a2]) (σ' := (M, L)) rfl ⟨(x_rgv g2 (by decide) (by decide)), trivial, trivial, trivial⟩ ?_
  refine x_callSN C (rest := []) (avs := [.int a2]) (k_X10_bytesOf l a2 M L) yoX10_bytesOf ml_X4_298 rfl ⟨Nat.zero_le _, Nat.zero_le _⟩ (show decode cX4_storeBytes 14 = .ok (.invokestatic 298, 3) from by decide +kernel) rfl (fun v σ' hPo => ?_)
  obtain ⟨⟨rfl, rfl⟩, g5, -⟩ := hPo
  show V 0 0 17 [(3, .int (M 2 (f_X3_upperRegister  M).toNatClampNeg)), (0, .ref 12), (1, .int a1), (2, .int a2)] [.int (f_X10_bytesOf a2)] LAY (M, L)
  refine x_run C e_X4_storeBytes_3 e_X4_storeBytes_3_k (pc' := 24) (lv' := [(5, .int 0), (4, .int ((f_X10_bytesOf a2) - 1)), (3, .int (M 2 (f_X3_upperRegister  M).toNatClampNeg)), (0, .ref 12), (1, .int a1), (2, .int a2)]) (st' := []) (σ' := (M, L)) rfl ⟨trivial, trivial, trivial, trivial, trivial, trivial⟩ ?_
  refine x_lv C [3, 4, 2, 1, 0] rfl ?_
  exact b_X4_storeBytes_24 r C ((((f_X10_bytesOf a2) - 1).toInt + 1 - (0 : Int32).toInt).toNat + 1) a1 (M 2 (f_X3_upperRegister  M).toNatClampNeg) ((f_X10_bytesOf a2) - 1) 0 M (x_rg_sub (x_bytes (x_rgw hp2 (lo' := 0) (hi' := 2) (by decide) (by decide))) (x_rgc (x := 1) (k := 1) (by decide)) (by decide) (by decide)) (x_rgw (x_rgc (x := 0) (k := 0) (by decide)) (lo' := 0) (hi' := 4) (by decide) (by decide)) hI (Nat.lt_succ_self _) h
-- X4_moveBytes
def e_X4_moveBytes_1 : List xI := [(0, .aload_n 0, 1, .null), (1, .getfield 21, 3, .null), (4, .bipush 8, 2, .int 8), (6, .aload_n 0, 1, .null), (7, .getfield 30, 3, .null)]
theorem e_X4_moveBytes_1_k : e_X4_moveBytes_1.all (fun q => xokB cX4_moveBytes q && xokL q) = true := by decide +kernel
def e_X4_moveBytes_2 : List xI := [(13, .iadd, 1, .null), (14, .iaload, 1, .null), (15, .aload_n 0, 1, .null), (16, .getfield 26, 3, .null), (19, .iconst 1, 1, .int 1)]
theorem e_X4_moveBytes_2_k : e_X4_moveBytes_2.all (fun q => xokB cX4_moveBytes q && xokL q) = true := by decide +kernel
def e_X4_moveBytes_3 : List xI := [(23, .iconst 1, 1, .int 1)]
theorem e_X4_moveBytes_3_k : e_X4_moveBytes_3.all (fun q => xokB cX4_moveBytes q && xokL q) = true := by decide +kernel
def e_X4_moveBytes_4 : List xI := [(27, .iadd, 1, .null), (28, .istore_n 1, 1, .null), (29, .aload_n 0, 1, .null), (30, .getfield 30, 3, .null)]
theorem e_X4_moveBytes_4_k : e_X4_moveBytes_4.all (fun q => xokB cX4_moveBytes q && xokL q) = true := by decide +kernel
def e_X4_moveBytes_5 : List xI := [(36, .iconst 2, 1, .int 2), (37, .irem, 1, .null)]
theorem e_X4_moveBytes_5_k : e_X4_moveBytes_5.all (fun q => xokB cX4_moveBytes q && xokL q) = true := by decide +kernel
def e_X4_moveBytes_6 : List xI := [(45, .iconst 2, 1, .int 2)]
theorem e_X4_moveBytes_6_k : e_X4_moveBytes_6.all (fun q => xokB cX4_moveBytes q && xokL q) = true := by decide +kernel
def e_X4_moveBytes_7 : List xI := [(41, .iconst 1, 1, .int 1)]
theorem e_X4_moveBytes_7_k : e_X4_moveBytes_7.all (fun q => xokB cX4_moveBytes q && xokL q) = true := by decide +kernel
def e_X4_moveBytes_8 : List xI := [(46, .istore_n 2, 1, .null), (47, .aload_n 0, 1, .null), (48, .getfield 30, 3, .null)]
theorem e_X4_moveBytes_8_k : e_X4_moveBytes_8.all (fun q => xokB cX4_moveBytes q && xokL q) = true := by decide +kernel
def e_X4_moveBytes_9 : List xI := [(54, .iconst 2, 1, .int 2)]
theorem e_X4_moveBytes_9_k : e_X4_moveBytes_9.all (fun q => xokB cX4_moveBytes q && xokL q) = true := by decide +kernel
def e_X4_moveBytes_10 : List xI := [(67, .aload_n 0, 1, .null), (68, .iload_n 1, 1, .null), (69, .iload_n 2, 1, .null)]
theorem e_X4_moveBytes_10_k : e_X4_moveBytes_10.all (fun q => xokB cX4_moveBytes q && xokL q) = true := by decide +kernel
def e_X4_moveBytes_11 : List xI := [(58, .aload_n 0, 1, .null), (59, .iload_n 1, 1, .null), (60, .iload_n 2, 1, .null)]
theorem e_X4_moveBytes_11_k : e_X4_moveBytes_11.all (fun q => xokB cX4_moveBytes q && xokL q) = true := by decide +kernel
abbrev P_X4_moveBytes (r : St) (L : Nat → Nat → Int64) : Option Value → xG → Prop := fun v σ' => PoV r L v σ' ∧ InvK INVC r
abbrev R_X4_moveBytes : Room := { frames := 3, cells := 0, slots := 0, locals := 78 }
abbrev C_X4_moveBytes (l : Launch) (r : St) (L : Nat → Nat → Int64) (V : XJ) : Prop := XC l yX4_moveBytes.cls yX4_moveBytes.name cX4_moveBytes 3 R_X4_moveBytes 0 0 fl_X4 kc_X4 LAY.length (xfin none LAY (P_X4_moveBytes r L)) V
def f_X4_moveBytes_46 (x1 : Int32) (s0 : Int32) (M : St) : St := (if 2 ≤ (f_X3_z  M) then (xb (f_X4_storeBytes x1 s0 M) fun q21 => q21) else (xb (f_X4_loadBytes x1 s0 M) fun q25 => q25))
def f_X4_moveBytes (M : St) : St := (xb (f_X6_fetch 1 M) fun q4 => (if ((f_X3_z  q4.2) - (f_X3_z  q4.2) / 2 * 2) = 0 then f_X4_moveBytes_46 ((M 2 (8 + (f_X3_lowerRegister  M)).toNatClampNeg) + (f_X10_extended q4.1 1)) 1 q4.2 else f_X4_moveBytes_46 ((M 2 (8 + (f_X3_lowerRegister  M)).toNatClampNeg) + (f_X10_extended q4.1 1)) 2 q4.2))
set_option maxRecDepth 20000 in
set_option maxHeartbeats 4000000 in
theorem b_X4_moveBytes_46 {l : Launch} {L : Nat → Nat → Int64} {V : XJ} (r : St) (C : C_X4_moveBytes l r L V) (x1 : Int32) (s0 : Int32) (M : St) (ws0 : xrg 1 2 s0) (hI : InvK INVC M) (h : f_X4_moveBytes_46 x1 s0 M = r) : V 0 0 46 [(0, .ref 12), (1, .int x1)] [.int s0] LAY (M, L) := by
  unfold f_X4_moveBytes_46 at h
  refine x_run C e_X4_moveBytes_8 e_X4_moveBytes_8_k (pc' := 51) (lv' := [(2, .int s0), (0, .ref 12), (1, .int x1)]) (st' := [.ref 11]) (σ' := (M, L)) rfl ⟨trivial, trivial, trivial, trivial⟩ ?_
  refine x_callV C (k := 11) (ci := 2) (rest := []) (avs := []) (k_X3_z l  M L hI) yoX3_z ml_X4_285 rfl rfl rfl rfl ⟨Nat.zero_le _, Nat.zero_le _⟩ (show decode cX4_moveBytes 51 = .ok (.invokevirtual 285, 3) from by decide +kernel) rfl (fun v σ' hPo => ?_)
  obtain ⟨⟨rfl, rfl⟩, g17, hI18⟩ := hPo
  show V 0 0 54 [(2, .int s0), (0, .ref 12), (1, .int x1)] [.int (f_X3_z  M)] LAY (M, L)
  refine x_run C e_X4_moveBytes_9 e_X4_moveBytes_9_k (pc' := 55) (lv' := [(2, .int s0), (0, .ref 12), (1, .int x1)]) (st' := [.int 2, .int (f_X3_z  M)]) (σ' := (M, L)) rfl ⟨trivial, trivial⟩ ?_
  refine x_icmp_ge C (show decode cX4_moveBytes 55 = .ok (.if_icmp .ge 12, 3) from by decide +kernel) (tgt := 67) (by decide) (fun c19 => ?_) (fun c19 => ?_)
  · rw [if_pos c19] at h
    have g20 : xrg 2 3 (f_X3_z  M) := (x_c_le (x_rgc (x := 2) (k := 2) (by decide)) g17 c19).2
    refine x_run C e_X4_moveBytes_10 e_X4_moveBytes_10_k (pc' := 70) (lv' := [(2, .int s0), (0, .ref 12), (1, .int x1)]) (st' := [.int s0, .int x1, .ref 12]) (σ' := (M, L)) rfl ⟨trivial, trivial, trivial, trivial⟩ ?_
    refine x_callV C (k := 12) (ci := 3) (rest := []) (avs := [.int x1, .int s0]) (k_X4_storeBytes l x1 s0 M L ws0 hI) yoX4_storeBytes ml_X4_307 rfl rfl rfl rfl ⟨Nat.zero_le _, Nat.zero_le _⟩ (show decode cX4_moveBytes 70 = .ok (.invokevirtual 307, 3) from by decide +kernel) rfl (fun v σ' hPo => ?_)
    obtain ⟨⟨rfl, rfl⟩, hI23⟩ := hPo
    generalize hq21 : f_X4_storeBytes x1 s0 M = q21 at h hI23 ⊢
    have h := xb_eq h
    show V 0 0 73 [(2, .int s0), (0, .ref 12), (1, .int x1)] [] LAY (q21, L)
    subst h
    exact x_vret C (show decode cX4_moveBytes 73 = .ok (.return_, 1) from by decide +kernel) (x_finV ⟨⟨rfl, rfl⟩, hI23⟩) (Nat.le_refl 0) (Nat.le_refl 0)
  · rw [if_neg c19] at h
    have g24 : xrg 0 1 (f_X3_z  M) := (x_c_nle (x_rgc (x := 2) (k := 2) (by decide)) g17 c19).2
    refine x_run C e_X4_moveBytes_11 e_X4_moveBytes_11_k (pc' := 61) (lv' := [(2, .int s0), (0, .ref 12), (1, .int x1)]) (st' := [.int s0, .int x1, .ref 12]) (σ' := (M, L)) rfl ⟨trivial, trivial, trivial, trivial⟩ ?_
    refine x_callV C (k := 12) (ci := 3) (rest := []) (avs := [.int x1, .int s0]) (k_X4_loadBytes l x1 s0 M L ws0 hI) yoX4_loadBytes ml_X4_304 rfl rfl rfl rfl ⟨Nat.zero_le _, Nat.zero_le _⟩ (show decode cX4_moveBytes 61 = .ok (.invokevirtual 304, 3) from by decide +kernel) rfl (fun v σ' hPo => ?_)
    obtain ⟨⟨rfl, rfl⟩, hI27⟩ := hPo
    generalize hq25 : f_X4_loadBytes x1 s0 M = q25 at h hI27 ⊢
    have h := xb_eq h
    show V 0 0 64 [(2, .int s0), (0, .ref 12), (1, .int x1)] [] LAY (q25, L)
    refine x_goto C (show decode cX4_moveBytes 64 = .ok (.goto 9, 3) from by decide +kernel) (tgt := 73) (by decide) ?_
    subst h
    exact x_vret C (show decode cX4_moveBytes 73 = .ok (.return_, 1) from by decide +kernel) (x_finV ⟨⟨rfl, rfl⟩, hI27⟩) (Nat.le_refl 0) (Nat.le_refl 0)
set_option maxRecDepth 20000 in
set_option maxHeartbeats 4000000 in
theorem k_X4_moveBytes (l : Launch) (M : St) (L : Nat → Nat → Int64) (hI : InvK INVC M) : XM l yX4_moveBytes cX4_moveBytes 3 none R_X4_moveBytes LAY [.ref 12] (M, L) (P_X4_moveBytes (f_X4_moveBytes M) L) := by
  refine XM.of (by decide) (Nat.le_of_ble_eq_true rfl) LAY_in cl_ok fl_X4_ok kc_X4_ok (fun V C => ?_)
  obtain ⟨r, h⟩ : ∃ r, f_X4_moveBytes M = r := ⟨_, rfl⟩
  rw [h] at C
  change C_X4_moveBytes l r L V at C
  unfold f_X4_moveBytes at h
  show V 0 0 0 [(0, .ref 12)] [] LAY (M, L)
  refine x_run C e_X4_moveBytes_1 e_X4_moveBytes_1_k (pc' := 10) (lv' := [(0, .ref 12)]) (st' := [.ref 11, .int 8, .ref 2]) (σ' := (M, L)) rfl ⟨trivial, trivial, trivial, trivial, trivial, trivial⟩ ?_
  refine x_callV C (k := 11) (ci := 2) (rest := [.int 8, .ref 2]) (avs := []) (k_X3_lowerRegister l  M L hI) yoX3_lowerRegister ml_X4_227 rfl rfl rfl rfl ⟨Nat.zero_le _, Nat.zero_le _⟩ (show decode cX4_moveBytes 10 = .ok (.invokevirtual 227, 3) from by decide +kernel) rfl (fun v σ' hPo => ?_)
  obtain ⟨⟨rfl, rfl⟩, g2, hI3⟩ := hPo
  show V 0 0 13 [(0, .ref 12)] [.int (f_X3_lowerRegister  M), .int 8, .ref 2] LAY (M, L)
  refine x_run C e_X4_moveBytes_2 e_X4_moveBytes_2_k (pc' := 20) (lv' := [(0, .ref 12)]) (st' := [.int 1, .ref 10, .int (M 2 (8 + (f_X3_lowerRegister  M)).toNatClampNeg)]) (σ' := (M, L)) rfl ⟨trivial, (x_rgv (x_rg_add (x_rgc (x := 8) (k := 8) (by decide)) g2 (by decide) (by decide)) (by decide) (by decide)), trivial, trivial, trivial, trivial⟩ ?_
  refine x_callV C (k := 10) (ci := 4) (rest := [.int (M 2 (8 + (f_X3_lowerRegister  M)).toNatClampNeg)]) (avs := [.int 1]) (k_X6_fetch l 1 M L hI) yoX6_fetch ml_X4_122 rfl rfl rfl rfl ⟨Nat.zero_le _, Nat.zero_le _⟩ (show decode cX4_moveBytes 20 = .ok (.invokevirtual 122, 3) from by decide +kernel) rfl (fun v σ' hPo => ?_)
  obtain ⟨⟨rfl, rfl⟩, g5, hI6⟩ := hPo
  generalize hq4 : f_X6_fetch 1 M = q4 at h g5 hI6 ⊢
  obtain ⟨r4, M4⟩ := q4
  have h := xb_eq h
  try dsimp only at h g5 hI6
  show V 0 0 23 [(0, .ref 12)] [.int r4, .int (M 2 (8 + (f_X3_lowerRegister  M)).toNatClampNeg)] LAY (M4, L)
  refine x_run C e_X4_moveBytes_3 e_X4_moveBytes_3_k (pc' := 24) (lv' := [(0, .ref 12)]) (st' := [.int 1, .int r4, .int (M 2 (8 + (f_X3_lowerRegister  M)).toNatClampNeg)]) (σ' := (M4, L)) rfl ⟨trivial, trivial⟩ ?_
  refine x_callSN C (rest := [.int (M 2 (8 + (f_X3_lowerRegister  M)).toNatClampNeg)]) (avs := [.int r4, .int 1]) (k_X10_extended l r4 1 M4 L) yoX10_extended ml_X4_97 rfl ⟨Nat.zero_le _, Nat.zero_le _⟩ (show decode cX4_moveBytes 24 = .ok (.invokestatic 97, 3) from by decide +kernel) rfl (fun v σ' hPo => ?_)
  obtain ⟨⟨rfl, rfl⟩, g8, -⟩ := hPo
  show V 0 0 27 [(0, .ref 12)] [.int (f_X10_extended r4 1), .int (M 2 (8 + (f_X3_lowerRegister  M)).toNatClampNeg)] LAY (M4, L)
  refine x_run C e_X4_moveBytes_4 e_X4_moveBytes_4_k (pc' := 33) (lv' := [(1, .int ((M 2 (8 + (f_X3_lowerRegister  M)).toNatClampNeg) + (f_X10_extended r4 1))), (0, .ref 12)]) (st' := [.ref 11]) (σ' := (M4, L)) rfl ⟨trivial, trivial, trivial, trivial, trivial⟩ ?_
  refine x_callV C (k := 11) (ci := 2) (rest := []) (avs := []) (k_X3_z l  M4 L hI6) yoX3_z ml_X4_285 rfl rfl rfl rfl ⟨Nat.zero_le _, Nat.zero_le _⟩ (show decode cX4_moveBytes 33 = .ok (.invokevirtual 285, 3) from by decide +kernel) rfl (fun v σ' hPo => ?_)
  obtain ⟨⟨rfl, rfl⟩, g11, hI12⟩ := hPo
  show V 0 0 36 [(1, .int ((M 2 (8 + (f_X3_lowerRegister  M)).toNatClampNeg) + (f_X10_extended r4 1))), (0, .ref 12)] [.int (f_X3_z  M4)] LAY (M4, L)
  refine x_run C e_X4_moveBytes_5 e_X4_moveBytes_5_k (pc' := 38) (lv' := [(1, .int ((M 2 (8 + (f_X3_lowerRegister  M)).toNatClampNeg) + (f_X10_extended r4 1))), (0, .ref 12)]) (st' := [.int ((f_X3_z  M4) - (f_X3_z  M4) / 2 * 2)]) (σ' := (M4, L)) rfl ⟨trivial, (by decide), trivial⟩ ?_
  refine x_if_ne C (show decode cX4_moveBytes 38 = .ok (.ifCond .ne 7, 3) from by decide +kernel) (tgt := 45) (by decide) (fun c13 => ?_) (fun c13 => ?_)
  · rw [if_neg c13] at h
    have g14 : xrg 1 1 ((f_X3_z  M4) - (f_X3_z  M4) / 2 * 2) := (x_c_ne (x_rg_rem (y := 2) (k := 2) g11 (by decide) (by decide) (by decide)) (by decide) c13)
    refine x_run C e_X4_moveBytes_6 e_X4_moveBytes_6_k (pc' := 46) (lv' := [(1, .int ((M 2 (8 + (f_X3_lowerRegister  M)).toNatClampNeg) + (f_X10_extended r4 1))), (0, .ref 12)]) (st' := [.int 2]) (σ' := (M4, L)) rfl ⟨trivial, trivial⟩ ?_
    refine x_lv C [1, 0] rfl ?_
    exact b_X4_moveBytes_46 r C ((M 2 (8 + (f_X3_lowerRegister  M)).toNatClampNeg) + (f_X10_extended r4 1)) 2 M4 (x_rgw (x_rgc (x := 2) (k := 2) (by decide)) (lo' := 1) (hi' := 2) (by decide) (by decide)) hI6 h
  · rw [if_pos c13] at h
    have g15 : xrg 0 0 ((f_X3_z  M4) - (f_X3_z  M4) / 2 * 2) := (x_c_eq (x_rg_rem (y := 2) (k := 2) g11 (by decide) (by decide) (by decide)) (x_rgc (x := 0) (k := 0) (by decide)) c13).1
    refine x_run C e_X4_moveBytes_7 e_X4_moveBytes_7_k (pc' := 42) (lv' := [(1, .int ((M 2 (8 + (f_X3_lowerRegister  M)).toNatClampNeg) + (f_X10_extended r4 1))), (0, .ref 12)]) (st' := [.int 1]) (σ' := (M4, L)) rfl ⟨trivial, trivial⟩ ?_
    refine x_goto C (show decode cX4_moveBytes 42 = .ok (.goto 4, 3) from by decide +kernel) (tgt := 46) (by decide) ?_
    refine x_lv C [1, 0] rfl ?_
    exact b_X4_moveBytes_46 r C ((M 2 (8 + (f_X3_lowerRegister  M)).toNatClampNeg) + (f_X10_extended r4 1)) 1 M4 (x_rgw (x_rgc (x := 1) (k := 1) (by decide)) (lo' := 1) (hi' := 2) (by decide) (by decide)) hI6 h
-- X4_exchange
def e_X4_exchange_1 : List xI := [(0, .aload_n 0, 1, .null), (1, .getfield 30, 3, .null), (4, .getfield 238, 3, .null), (7, .bipush 15, 2, .int 15), (9, .iand, 1, .null), (10, .istore_n 1, 1, .null), (11, .aload_n 0, 1, .null), (12, .getfield 30, 3, .null), (15, .getfield 250, 3, .null), (18, .bipush 15, 2, .int 15), (20, .iand, 1, .null), (21, .istore_n 2, 1, .null), (22, .aload_n 0, 1, .null), (23, .getfield 21, 3, .null), (26, .iload_n 1, 1, .null), (27, .iaload, 1, .null), (28, .istore_n 3, 1, .null), (29, .aload_n 0, 1, .null), (30, .getfield 21, 3, .null), (33, .iload_n 1, 1, .null), (34, .aload_n 0, 1, .null), (35, .getfield 21, 3, .null), (38, .iload_n 2, 1, .null), (39, .iaload, 1, .null), (40, .iastore, 1, .null), (41, .aload_n 0, 1, .null), (42, .getfield 21, 3, .null), (45, .iload_n 2, 1, .null), (46, .iload_n 3, 1, .null), (47, .iastore, 1, .null)]
theorem e_X4_exchange_1_k : e_X4_exchange_1.all (fun q => xokB cX4_exchange q && xokL q) = true := by decide +kernel
abbrev P_X4_exchange (r : St) (L : Nat → Nat → Int64) : Option Value → xG → Prop := fun v σ' => PoV r L v σ' ∧ InvK INVC r
abbrev R_X4_exchange : Room := { frames := 0, cells := 0, slots := 0, locals := 0 }
abbrev C_X4_exchange (l : Launch) (r : St) (L : Nat → Nat → Int64) (V : XJ) : Prop := XC l yX4_exchange.cls yX4_exchange.name cX4_exchange 4 R_X4_exchange 0 0 fl_X4 kc_X4 LAY.length (xfin none LAY (P_X4_exchange r L)) V
def f_X4_exchange (M : St) : St := (xup (xup M 2 ((M 11 2) &&& 15).toNatClampNeg (M 2 ((M 11 3) &&& 15).toNatClampNeg)) 2 ((M 11 3) &&& 15).toNatClampNeg (M 2 ((M 11 2) &&& 15).toNatClampNeg))
set_option maxRecDepth 20000 in
set_option maxHeartbeats 4000000 in
theorem k_X4_exchange (l : Launch) (M : St) (L : Nat → Nat → Int64) (hI : InvK INVC M) : XM l yX4_exchange cX4_exchange 4 none R_X4_exchange LAY [.ref 12] (M, L) (P_X4_exchange (f_X4_exchange M) L) := by
  refine XM.of (by decide) (Nat.le_of_ble_eq_true rfl) LAY_in cl_ok fl_X4_ok kc_X4_ok (fun V C => ?_)
  obtain ⟨r, h⟩ : ∃ r, f_X4_exchange M = r := ⟨_, rfl⟩
  rw [h] at C
  change C_X4_exchange l r L V at C
  unfold f_X4_exchange at h
  show V 0 0 0 [(0, .ref 12)] [] LAY (M, L)
  refine x_run C e_X4_exchange_1 e_X4_exchange_1_k (pc' := 48) (lv' := [(3, .int (M 2 ((M 11 2) &&& 15).toNatClampNeg)), (2, .int ((M 11 3) &&& 15)), (1, .int ((M 11 2) &&& 15)), (0, .ref 12)]) (st' := []) (σ' := ((xup (xup M 2 ((M 11 2) &&& 15).toNatClampNeg (M 2 ((M 11 3) &&& 15).toNatClampNeg)) 2 ((M 11 3) &&& 15).toNatClampNeg (M 2 ((M 11 2) &&& 15).toNatClampNeg)), L)) rfl ⟨trivial, trivial, trivial, trivial, trivial, trivial, trivial, trivial, trivial, trivial, trivial, trivial, trivial, trivial, trivial, (x_rgv (x_rg_and (x := (M 11 2)) (m := 15) (k := 15) (by decide) (by decide)) (by decide) (by decide)), trivial, trivial, trivial, trivial, trivial, trivial, trivial, (x_rgv (x_rg_and (x := (M 11 3)) (m := 15) (k := 15) (by decide) (by decide)) (by decide) (by decide)), (x_rgv (x_rg_and (x := (M 11 2)) (m := 15) (k := 15) (by decide) (by decide)) (by decide) (by decide)), trivial, trivial, trivial, trivial, (x_rgv (x_rg_and (x := (M 11 3)) (m := 15) (k := 15) (by decide) (by decide)) (by decide) (by decide)), trivial⟩ ?_
  have hI1 : InvK INVC (xup (xup M 2 ((M 11 2) &&& 15).toNatClampNeg (M 2 ((M 11 3) &&& 15).toNatClampNeg)) 2 ((M 11 3) &&& 15).toNatClampNeg (M 2 ((M 11 2) &&& 15).toNatClampNeg)) := ((hI.arr 2 (((M 11 2) &&& 15).toNatClampNeg) (M 2 ((M 11 3) &&& 15).toNatClampNeg) (by decide)).arr 2 (((M 11 3) &&& 15).toNatClampNeg) (M 2 ((M 11 2) &&& 15).toNatClampNeg) (by decide))
  subst h
  exact x_vret C (show decode cX4_exchange 48 = .ok (.return_, 1) from by decide +kernel) (x_finV ⟨⟨rfl, rfl⟩, hI1⟩) (Nat.le_refl 0) (Nat.le_refl 0)
-- X4_moveQuick
def e_X4_moveQuick_1 : List xI := [(0, .aload_n 0, 1, .null), (1, .getfield 21, 3, .null), (4, .aload_n 0, 1, .null), (5, .getfield 30, 3, .null)]
theorem e_X4_moveQuick_1_k : e_X4_moveQuick_1.all (fun q => xokB cX4_moveQuick q && xokL q) = true := by decide +kernel
def e_X4_moveQuick_2 : List xI := [(11, .aload_n 0, 1, .null), (12, .getfield 39, 3, .null), (15, .aload_n 0, 1, .null), (16, .getfield 30, 3, .null), (19, .getfield 215, 3, .null), (22, .iconst 0, 1, .int 0)]
theorem e_X4_moveQuick_2_k : e_X4_moveQuick_2.all (fun q => xokB cX4_moveQuick q && xokL q) = true := by decide +kernel
def e_X4_moveQuick_3 : List xI := [(26, .iconst 2, 1, .int 2)]
theorem e_X4_moveQuick_3_k : e_X4_moveQuick_3.all (fun q => xokB cX4_moveQuick q && xokL q) = true := by decide +kernel
def e_X4_moveQuick_4 : List xI := [(30, .iastore, 1, .null)]
theorem e_X4_moveQuick_4_k : e_X4_moveQuick_4.all (fun q => xokB cX4_moveQuick q && xokL q) = true := by decide +kernel
abbrev P_X4_moveQuick (r : St) (L : Nat → Nat → Int64) : Option Value → xG → Prop := fun v σ' => PoV r L v σ' ∧ InvK INVC r
abbrev R_X4_moveQuick : Room := { frames := 3, cells := 0, slots := 0, locals := 65 }
abbrev C_X4_moveQuick (l : Launch) (r : St) (L : Nat → Nat → Int64) (V : XJ) : Prop := XC l yX4_moveQuick.cls yX4_moveQuick.name cX4_moveQuick 1 R_X4_moveQuick 0 0 fl_X4 kc_X4 LAY.length (xfin none LAY (P_X4_moveQuick r L)) V
def f_X4_moveQuick (M : St) : St := (xb (f_X1_tested (f_X10_extended (M 11 0) 0) 2 M) fun q7 => (xup q7.2 2 (f_X3_upperRegister  M).toNatClampNeg q7.1))
set_option maxRecDepth 20000 in
set_option maxHeartbeats 4000000 in
theorem k_X4_moveQuick (l : Launch) (M : St) (L : Nat → Nat → Int64) (hI : InvK INVC M) : XM l yX4_moveQuick cX4_moveQuick 1 none R_X4_moveQuick LAY [.ref 12] (M, L) (P_X4_moveQuick (f_X4_moveQuick M) L) := by
  refine XM.of (by decide) (Nat.le_of_ble_eq_true rfl) LAY_in cl_ok fl_X4_ok kc_X4_ok (fun V C => ?_)
  obtain ⟨r, h⟩ : ∃ r, f_X4_moveQuick M = r := ⟨_, rfl⟩
  rw [h] at C
  change C_X4_moveQuick l r L V at C
  unfold f_X4_moveQuick at h
  show V 0 0 0 [(0, .ref 12)] [] LAY (M, L)
  refine x_run C e_X4_moveQuick_1 e_X4_moveQuick_1_k (pc' := 8) (lv' := [(0, .ref 12)]) (st' := [.ref 11, .ref 2]) (σ' := (M, L)) rfl ⟨trivial, trivial, trivial, trivial, trivial⟩ ?_
  refine x_callV C (k := 11) (ci := 2) (rest := [.ref 2]) (avs := []) (k_X3_upperRegister l  M L hI) yoX3_upperRegister ml_X4_116 rfl rfl rfl rfl ⟨Nat.zero_le _, Nat.zero_le _⟩ (show decode cX4_moveQuick 8 = .ok (.invokevirtual 116, 3) from by decide +kernel) rfl (fun v σ' hPo => ?_)
  obtain ⟨⟨rfl, rfl⟩, g2, hI3⟩ := hPo
  show V 0 0 11 [(0, .ref 12)] [.int (f_X3_upperRegister  M), .ref 2] LAY (M, L)
  refine x_run C e_X4_moveQuick_2 e_X4_moveQuick_2_k (pc' := 23) (lv' := [(0, .ref 12)]) (st' := [.int 0, .int (M 11 0), .ref 13, .int (f_X3_upperRegister  M), .ref 2]) (σ' := (M, L)) rfl ⟨trivial, trivial, trivial, trivial, trivial, trivial, trivial⟩ ?_
  refine x_callSN C (rest := [.ref 13, .int (f_X3_upperRegister  M), .ref 2]) (avs := [.int (M 11 0), .int 0]) (k_X10_extended l (M 11 0) 0 M L) yoX10_extended ml_X4_97 rfl ⟨Nat.zero_le _, Nat.zero_le _⟩ (show decode cX4_moveQuick 23 = .ok (.invokestatic 97, 3) from by decide +kernel) rfl (fun v σ' hPo => ?_)
  obtain ⟨⟨rfl, rfl⟩, g5, -⟩ := hPo
  show V 0 0 26 [(0, .ref 12)] [.int (f_X10_extended (M 11 0) 0), .ref 13, .int (f_X3_upperRegister  M), .ref 2] LAY (M, L)
  refine x_run C e_X4_moveQuick_3 e_X4_moveQuick_3_k (pc' := 27) (lv' := [(0, .ref 12)]) (st' := [.int 2, .int (f_X10_extended (M 11 0) 0), .ref 13, .int (f_X3_upperRegister  M), .ref 2]) (σ' := (M, L)) rfl ⟨trivial, trivial⟩ ?_
  refine x_callV C (k := 13) (ci := 0) (rest := [.int (f_X3_upperRegister  M), .ref 2]) (avs := [.int (f_X10_extended (M 11 0) 0), .int 2]) (k_X1_tested l (f_X10_extended (M 11 0) 0) 2 M L hI) yoX1_tested ml_X4_70 rfl rfl rfl rfl ⟨Nat.zero_le _, Nat.zero_le _⟩ (show decode cX4_moveQuick 27 = .ok (.invokevirtual 70, 3) from by decide +kernel) rfl (fun v σ' hPo => ?_)
  obtain ⟨⟨rfl, rfl⟩, g8, hI9⟩ := hPo
  generalize hq7 : f_X1_tested (f_X10_extended (M 11 0) 0) 2 M = q7 at h g8 hI9 ⊢
  obtain ⟨r7, M7⟩ := q7
  have h := xb_eq h
  try dsimp only at h g8 hI9
  show V 0 0 30 [(0, .ref 12)] [.int r7, .int (f_X3_upperRegister  M), .ref 2] LAY (M7, L)
  refine x_run C e_X4_moveQuick_4 e_X4_moveQuick_4_k (pc' := 31) (lv' := [(0, .ref 12)]) (st' := []) (σ' := ((xup M7 2 (f_X3_upperRegister  M).toNatClampNeg r7), L)) rfl ⟨(x_rgv g2 (by decide) (by decide)), trivial⟩ ?_
  have hI10 : InvK INVC (xup M7 2 (f_X3_upperRegister  M).toNatClampNeg r7) := (hI9.arr 2 ((f_X3_upperRegister  M).toNatClampNeg) r7 (by decide))
  subst h
  exact x_vret C (show decode cX4_moveQuick 31 = .ok (.return_, 1) from by decide +kernel) (x_finV ⟨⟨rfl, rfl⟩, hI10⟩) (Nat.le_refl 0) (Nat.le_refl 0)
-- X4_statusJoined
def e_X4_statusJoined_1 : List xI := [(0, .aload_n 0, 1, .null), (1, .getfield 26, 3, .null), (4, .iconst 1, 1, .int 1)]
theorem e_X4_statusJoined_1_k : e_X4_statusJoined_1.all (fun q => xokB cX4_statusJoined q && xokL q) = true := by decide +kernel
def e_X4_statusJoined_2 : List xI := [(8, .istore_n 1, 1, .null), (9, .aload_n 0, 1, .null), (10, .getfield 30, 3, .null)]
theorem e_X4_statusJoined_2_k : e_X4_statusJoined_2.all (fun q => xokB cX4_statusJoined q && xokL q) = true := by decide +kernel
def e_X4_statusJoined_3 : List xI := [(44, .aload_n 0, 1, .null), (45, .getfield 21, 3, .null), (48, .bipush 18, 2, .int 18), (50, .iaload, 1, .null), (51, .iload_n 1, 1, .null), (52, .ior, 1, .null)]
theorem e_X4_statusJoined_3_k : e_X4_statusJoined_3.all (fun q => xokB cX4_statusJoined q && xokL q) = true := by decide +kernel
def e_X4_statusJoined_4 : List xI := [(54, .aload_n 0, 1, .null), (55, .getfield 21, 3, .null), (58, .bipush 18, 2, .int 18), (60, .iaload, 1, .null), (61, .iload_n 1, 1, .null), (62, .iand, 1, .null)]
theorem e_X4_statusJoined_4_k : e_X4_statusJoined_4.all (fun q => xokB cX4_statusJoined q && xokL q) = true := by decide +kernel
def e_X4_statusJoined_5 : List xI := [(64, .aload_n 0, 1, .null), (65, .getfield 21, 3, .null), (68, .bipush 18, 2, .int 18), (70, .iaload, 1, .null), (71, .iload_n 1, 1, .null), (72, .ixor, 1, .null)]
theorem e_X4_statusJoined_5_k : e_X4_statusJoined_5.all (fun q => xokB cX4_statusJoined q && xokL q) = true := by decide +kernel
abbrev P_X4_statusJoined (r : Int32 × St) (L : Nat → Nat → Int64) : Option Value → xG → Prop := fun v σ' => PoI r.1 r.2 L v σ' ∧ True ∧ InvK INVC r.2
abbrev R_X4_statusJoined : Room := { frames := 3, cells := 0, slots := 0, locals := 77 }
abbrev C_X4_statusJoined (l : Launch) (r : Int32 × St) (L : Nat → Nat → Int64) (V : XJ) : Prop := XC l yX4_statusJoined.cls yX4_statusJoined.name cX4_statusJoined 2 R_X4_statusJoined 0 0 fl_X4 kc_X4 LAY.length (xfin (some .int) LAY (P_X4_statusJoined r L)) V
def f_X4_statusJoined (M : St) : Int32 × St := (xb (f_X6_fetch 1 M) fun q1 => (if (f_X3_upperRegister  q1.2) = 0 then (((q1.2 2 18) ||| q1.1), q1.2) else (if (f_X3_upperRegister  q1.2) = 1 then (((q1.2 2 18) &&& q1.1), q1.2) else (((q1.2 2 18) ^^^ q1.1), q1.2))))
set_option maxRecDepth 20000 in
set_option maxHeartbeats 4000000 in
theorem k_X4_statusJoined (l : Launch) (M : St) (L : Nat → Nat → Int64) (hI : InvK INVC M) : XM l yX4_statusJoined cX4_statusJoined 2 (some .int) R_X4_statusJoined LAY [.ref 12] (M, L) (P_X4_statusJoined (f_X4_statusJoined M) L) := by
  refine XM.of (by decide) (Nat.le_of_ble_eq_true rfl) LAY_in cl_ok fl_X4_ok kc_X4_ok (fun V C => ?_)
  obtain ⟨r, h⟩ : ∃ r, f_X4_statusJoined M = r := ⟨_, rfl⟩
  rw [h] at C
  change C_X4_statusJoined l r L V at C
  unfold f_X4_statusJoined at h
  show V 0 0 0 [(0, .ref 12)] [] LAY (M, L)
  refine x_run C e_X4_statusJoined_1 e_X4_statusJoined_1_k (pc' := 5) (lv' := [(0, .ref 12)]) (st' := [.int 1, .ref 10]) (σ' := (M, L)) rfl ⟨trivial, trivial, trivial, trivial⟩ ?_
  refine x_callV C (k := 10) (ci := 4) (rest := []) (avs := [.int 1]) (k_X6_fetch l 1 M L hI) yoX6_fetch ml_X4_122 rfl rfl rfl rfl ⟨Nat.zero_le _, Nat.zero_le _⟩ (show decode cX4_statusJoined 5 = .ok (.invokevirtual 122, 3) from by decide +kernel) rfl (fun v σ' hPo => ?_)
  obtain ⟨⟨rfl, rfl⟩, g2, hI3⟩ := hPo
  generalize hq1 : f_X6_fetch 1 M = q1 at h g2 hI3 ⊢
  obtain ⟨r1, M1⟩ := q1
  have h := xb_eq h
  try dsimp only at h g2 hI3
  show V 0 0 8 [(0, .ref 12)] [.int r1] LAY (M1, L)
  refine x_run C e_X4_statusJoined_2 e_X4_statusJoined_2_k (pc' := 13) (lv' := [(1, .int r1), (0, .ref 12)]) (st' := [.ref 11]) (σ' := (M1, L)) rfl ⟨trivial, trivial, trivial, trivial⟩ ?_
  refine x_callV C (k := 11) (ci := 2) (rest := []) (avs := []) (k_X3_upperRegister l  M1 L hI3) yoX3_upperRegister ml_X4_116 rfl rfl rfl rfl ⟨Nat.zero_le _, Nat.zero_le _⟩ (show decode cX4_statusJoined 13 = .ok (.invokevirtual 116, 3) from by decide +kernel) rfl (fun v σ' hPo => ?_)
  obtain ⟨⟨rfl, rfl⟩, g5, hI6⟩ := hPo
  show V 0 0 16 [(1, .int r1), (0, .ref 12)] [.int (f_X3_upperRegister  M1)] LAY (M1, L)
  by_cases c7 : (f_X3_upperRegister  M1) = 0
  · rw [if_pos c7] at h
    refine x_lsw C (show decode cX4_statusJoined 16 = .ok (.lookupswitch 48 #[(0, 28), (1, 38)], 28) from by decide +kernel) (by decide) (off := 28) (by rw [c7]; first | done | decide) (tgt := 44) (by decide) ?_
    refine x_run C e_X4_statusJoined_3 e_X4_statusJoined_3_k (pc' := 53) (lv' := [(1, .int r1), (0, .ref 12)]) (st' := [.int ((M1 2 18) ||| r1)]) (σ' := (M1, L)) rfl ⟨trivial, trivial, trivial, (x_rgv (x_rgc (x := 18) (k := 18) (by decide)) (by decide) (by decide)), trivial, trivial, trivial⟩ ?_
    subst h
    exact x_iret C (show decode cX4_statusJoined 53 = .ok (.ireturn, 1) from by decide +kernel) (x_finI rfl ⟨⟨rfl, rfl⟩, trivial, hI3⟩) (Nat.le_refl 0) (Nat.le_refl 0)
  rw [if_neg c7] at h
  by_cases c8 : (f_X3_upperRegister  M1) = 1
  · rw [if_pos c8] at h
    refine x_lsw C (show decode cX4_statusJoined 16 = .ok (.lookupswitch 48 #[(0, 28), (1, 38)], 28) from by decide +kernel) (by decide) (off := 38) (by rw [c8]; first | done | decide) (tgt := 54) (by decide) ?_
    refine x_run C e_X4_statusJoined_4 e_X4_statusJoined_4_k (pc' := 63) (lv' := [(1, .int r1), (0, .ref 12)]) (st' := [.int ((M1 2 18) &&& r1)]) (σ' := (M1, L)) rfl ⟨trivial, trivial, trivial, (x_rgv (x_rgc (x := 18) (k := 18) (by decide)) (by decide) (by decide)), trivial, trivial, trivial⟩ ?_
    subst h
    exact x_iret C (show decode cX4_statusJoined 63 = .ok (.ireturn, 1) from by decide +kernel) (x_finI rfl ⟨⟨rfl, rfl⟩, trivial, hI3⟩) (Nat.le_refl 0) (Nat.le_refl 0)
  rw [if_neg c8] at h
  refine x_lsw C (show decode cX4_statusJoined 16 = .ok (.lookupswitch 48 #[(0, 28), (1, 38)], 28) from by decide +kernel) (by decide) (off := 48) (by show Op.lookupswitch.offset [(0, 28), (1, 38)] 48 _ = _; rw [lv_osw c7 (by decide)]; rw [lv_osw c8 (by decide)]; rfl) (tgt := 64) (by decide) ?_
  refine x_run C e_X4_statusJoined_5 e_X4_statusJoined_5_k (pc' := 73) (lv' := [(1, .int r1), (0, .ref 12)]) (st' := [.int ((M1 2 18) ^^^ r1)]) (σ' := (M1, L)) rfl ⟨trivial, trivial, trivial, (x_rgv (x_rgc (x := 18) (k := 18) (by decide)) (by decide) (by decide)), trivial, trivial, trivial⟩ ?_
  subst h
  exact x_iret C (show decode cX4_statusJoined 73 = .ok (.ireturn, 1) from by decide +kernel) (x_finI rfl ⟨⟨rfl, rfl⟩, trivial, hI3⟩) (Nat.le_refl 0) (Nat.le_refl 0)
-- X4_swap
def e_X4_swap_1 : List xI := [(0, .aload_n 0, 1, .null), (1, .getfield 30, 3, .null)]
theorem e_X4_swap_1_k : e_X4_swap_1.all (fun q => xokB cX4_swap q && xokL q) = true := by decide +kernel
def e_X4_swap_2 : List xI := [(7, .istore_n 1, 1, .null), (8, .aload_n 0, 1, .null), (9, .getfield 21, 3, .null), (12, .iload_n 1, 1, .null), (13, .aload_n 0, 1, .null), (14, .getfield 39, 3, .null), (17, .aload_n 0, 1, .null), (18, .getfield 21, 3, .null), (21, .iload_n 1, 1, .null), (22, .iaload, 1, .null), (23, .bipush 16, 2, .int 16), (25, .ishl, 1, .null), (26, .aload_n 0, 1, .null), (27, .getfield 21, 3, .null), (30, .iload_n 1, 1, .null), (31, .iaload, 1, .null), (32, .bipush 16, 2, .int 16), (34, .iushr, 1, .null), (35, .ior, 1, .null), (36, .iconst 2, 1, .int 2)]
theorem e_X4_swap_2_k : e_X4_swap_2.all (fun q => xokB cX4_swap q && xokL q) = true := by decide +kernel
def e_X4_swap_3 : List xI := [(40, .iastore, 1, .null)]
theorem e_X4_swap_3_k : e_X4_swap_3.all (fun q => xokB cX4_swap q && xokL q) = true := by decide +kernel
abbrev P_X4_swap (r : St) (L : Nat → Nat → Int64) : Option Value → xG → Prop := fun v σ' => PoV r L v σ' ∧ InvK INVC r
abbrev R_X4_swap : Room := { frames := 3, cells := 0, slots := 0, locals := 65 }
abbrev C_X4_swap (l : Launch) (r : St) (L : Nat → Nat → Int64) (V : XJ) : Prop := XC l yX4_swap.cls yX4_swap.name cX4_swap 2 R_X4_swap 0 0 fl_X4 kc_X4 LAY.length (xfin none LAY (P_X4_swap r L)) V
def f_X4_swap (M : St) : St := (xb (f_X1_tested (((M 2 (f_X3_lowerRegister  M).toNatClampNeg) <<< ((16 : Int32) &&& 31)) ||| (ius (M 2 (f_X3_lowerRegister  M).toNatClampNeg) 16)) 2 M) fun q4 => (xup q4.2 2 (f_X3_lowerRegister  M).toNatClampNeg q4.1))
set_option maxRecDepth 20000 in
set_option maxHeartbeats 4000000 in
theorem k_X4_swap (l : Launch) (M : St) (L : Nat → Nat → Int64) (hI : InvK INVC M) : XM l yX4_swap cX4_swap 2 none R_X4_swap LAY [.ref 12] (M, L) (P_X4_swap (f_X4_swap M) L) := by
  refine XM.of (by decide) (Nat.le_of_ble_eq_true rfl) LAY_in cl_ok fl_X4_ok kc_X4_ok (fun V C => ?_)
  obtain ⟨r, h⟩ : ∃ r, f_X4_swap M = r := ⟨_, rfl⟩
  rw [h] at C
  change C_X4_swap l r L V at C
  unfold f_X4_swap at h
  show V 0 0 0 [(0, .ref 12)] [] LAY (M, L)
  refine x_run C e_X4_swap_1 e_X4_swap_1_k (pc' := 4) (lv' := [(0, .ref 12)]) (st' := [.ref 11]) (σ' := (M, L)) rfl ⟨trivial, trivial, trivial⟩ ?_
  refine x_callV C (k := 11) (ci := 2) (rest := []) (avs := []) (k_X3_lowerRegister l  M L hI) yoX3_lowerRegister ml_X4_227 rfl rfl rfl rfl ⟨Nat.zero_le _, Nat.zero_le _⟩ (show decode cX4_swap 4 = .ok (.invokevirtual 227, 3) from by decide +kernel) rfl (fun v σ' hPo => ?_)
  obtain ⟨⟨rfl, rfl⟩, g2, hI3⟩ := hPo
  show V 0 0 7 [(0, .ref 12)] [.int (f_X3_lowerRegister  M)] LAY (M, L)
  refine x_run C e_X4_swap_2 e_X4_swap_2_k (pc' := 37) (lv' := [(1, .int (f_X3_lowerRegister  M)), (0, .ref 12)]) (st' := [.int 2, .int (((M 2 (f_X3_lowerRegister  M).toNatClampNeg) <<< ((16 : Int32) &&& 31)) ||| (ius (M 2 (f_X3_lowerRegister  M).toNatClampNeg) 16)), .ref 13, .int (f_X3_lowerRegister  M), .ref 2]) (σ' := (M, L)) rfl ⟨trivial, trivial, trivial, trivial, trivial, trivial, trivial, trivial, trivial, (x_rgv g2 (by decide) (by decide)), trivial, trivial, trivial, trivial, trivial, (x_rgv g2 (by decide) (by decide)), trivial, trivial, trivial, trivial, trivial⟩ ?_
  refine x_callV C (k := 13) (ci := 0) (rest := [.int (f_X3_lowerRegister  M), .ref 2]) (avs := [.int (((M 2 (f_X3_lowerRegister  M).toNatClampNeg) <<< ((16 : Int32) &&& 31)) ||| (ius (M 2 (f_X3_lowerRegister  M).toNatClampNeg) 16)), .int 2]) (k_X1_tested l (((M 2 (f_X3_lowerRegister  M).toNatClampNeg) <<< ((16 : Int32) &&& 31)) ||| (ius (M 2 (f_X3_lowerRegister  M).toNatClampNeg) 16)) 2 M L hI) yoX1_tested ml_X4_70 rfl rfl rfl rfl ⟨Nat.zero_le _, Nat.zero_le _⟩ (show decode cX4_swap 37 = .ok (.invokevirtual 70, 3) from by decide +kernel) rfl (fun v σ' hPo => ?_)
  obtain ⟨⟨rfl, rfl⟩, g5, hI6⟩ := hPo
  generalize hq4 : f_X1_tested (((M 2 (f_X3_lowerRegister  M).toNatClampNeg) <<< ((16 : Int32) &&& 31)) ||| (ius (M 2 (f_X3_lowerRegister  M).toNatClampNeg) 16)) 2 M = q4 at h g5 hI6 ⊢
  obtain ⟨r4, M4⟩ := q4
  have h := xb_eq h
  try dsimp only at h g5 hI6
  show V 0 0 40 [(1, .int (f_X3_lowerRegister  M)), (0, .ref 12)] [.int r4, .int (f_X3_lowerRegister  M), .ref 2] LAY (M4, L)
  refine x_run C e_X4_swap_3 e_X4_swap_3_k (pc' := 41) (lv' := [(1, .int (f_X3_lowerRegister  M)), (0, .ref 12)]) (st' := []) (σ' := ((xup M4 2 (f_X3_lowerRegister  M).toNatClampNeg r4), L)) rfl ⟨(x_rgv g2 (by decide) (by decide)), trivial⟩ ?_
  have hI7 : InvK INVC (xup M4 2 (f_X3_lowerRegister  M).toNatClampNeg r4) := (hI6.arr 2 ((f_X3_lowerRegister  M).toNatClampNeg) r4 (by decide))
  subst h
  exact x_vret C (show decode cX4_swap 41 = .ok (.return_, 1) from by decide +kernel) (x_finV ⟨⟨rfl, rfl⟩, hI7⟩) (Nat.le_refl 0) (Nat.le_refl 0)
-- X6_pull
def e_X6_pull_1 : List xI := [(0, .aload_n 0, 1, .null), (1, .getfield 18, 3, .null), (4, .aload_n 0, 1, .null), (5, .getfield 15, 3, .null), (8, .bipush 15, 2, .int 15), (10, .iaload, 1, .null), (11, .iload_n 1, 1, .null), (12, .iconst 1, 1, .int 1)]
theorem e_X6_pull_1_k : e_X6_pull_1.all (fun q => xokB cX6_pull q && xokL q) = true := by decide +kernel
def e_X6_pull_2 : List xI := [(16, .istore_n 2, 1, .null), (17, .aload_n 0, 1, .null), (18, .getfield 15, 3, .null), (21, .bipush 15, 2, .int 15), (23, .dup2, 1, .null), (24, .iaload, 1, .null), (25, .iload_n 1, 1, .null)]
theorem e_X6_pull_2_k : e_X6_pull_2.all (fun q => xokB cX6_pull q && xokL q) = true := by decide +kernel
def e_X6_pull_3 : List xI := [(29, .iadd, 1, .null), (30, .iastore, 1, .null), (31, .iload_n 2, 1, .null)]
theorem e_X6_pull_3_k : e_X6_pull_3.all (fun q => xokB cX6_pull q && xokL q) = true := by decide +kernel
abbrev P_X6_pull (r : Int32 × St) (L : Nat → Nat → Int64) : Option Value → xG → Prop := fun v σ' => PoI r.1 r.2 L v σ' ∧ True ∧ InvK INVC r.2
abbrev R_X6_pull : Room := { frames := 2, cells := 0, slots := 0, locals := 54 }
abbrev C_X6_pull (l : Launch) (r : Int32 × St) (L : Nat → Nat → Int64) (V : XJ) : Prop := XC l yX6_pull.cls yX6_pull.name cX6_pull 3 R_X6_pull 0 0 fl_X6 kc_X6 LAY.length (xfin (some .int) LAY (P_X6_pull r L)) V
def f_X6_pull (a1 : Int32) (M : St) : Int32 × St := (xb (f_X2_read (M 2 15) a1 1 M) fun q1 => (q1.1, (xup q1.2 2 15 ((q1.2 2 15) + (f_X10_bytesOf a1)))))
set_option maxRecDepth 20000 in
set_option maxHeartbeats 4000000 in
theorem k_X6_pull (l : Launch) (a1 : Int32) (M : St) (L : Nat → Nat → Int64) (hI : InvK INVC M) : XM l yX6_pull cX6_pull 3 (some .int) R_X6_pull LAY [.ref 10, .int a1] (M, L) (P_X6_pull (f_X6_pull a1 M) L) := by
  refine XM.of (by decide) (Nat.le_of_ble_eq_true rfl) LAY_in cl_ok fl_X6_ok kc_X6_ok (fun V C => ?_)
  obtain ⟨r, h⟩ : ∃ r, f_X6_pull a1 M = r := ⟨_, rfl⟩
  rw [h] at C
  change C_X6_pull l r L V at C
  unfold f_X6_pull at h
  show V 0 0 0 [(0, .ref 10), (1, .int a1)] [] LAY (M, L)
  refine x_run C e_X6_pull_1 e_X6_pull_1_k (pc' := 13) (lv' := [(0, .ref 10), (1, .int a1)]) (st' := [.int 1, .int a1, .int (M 2 15), .ref 4]) (σ' := (M, L)) rfl ⟨trivial, trivial, trivial, trivial, trivial, (x_rgv (x_rgc (x := 15) (k := 15) (by decide)) (by decide) (by decide)), trivial, trivial, trivial⟩ ?_
  refine x_callV C (k := 4) (ci := 1) (rest := []) (avs := [.int (M 2 15), .int a1, .int 1]) (k_X2_read l (M 2 15) a1 1 M L hI) yoX2_read ml_X6_24 rfl rfl rfl rfl ⟨Nat.zero_le _, Nat.zero_le _⟩ (show decode cX6_pull 13 = .ok (.invokevirtual 24, 3) from by decide +kernel) rfl (fun v σ' hPo => ?_)
  obtain ⟨⟨rfl, rfl⟩, g2, hI3⟩ := hPo
  generalize hq1 : f_X2_read (M 2 15) a1 1 M = q1 at h g2 hI3 ⊢
  obtain ⟨r1, M1⟩ := q1
  have h := xb_eq h
  try dsimp only at h g2 hI3
  show V 0 0 16 [(0, .ref 10), (1, .int a1)] [.int r1] LAY (M1, L)
  refine x_run C e_X6_pull_2 e_X6_pull_2_k (pc' := 26) (lv' := [(2, .int r1), (0, .ref 10), (1, .int a1)]) (st' := [.int a1, .int (M1 2 15), .int 15, .ref 2]) (σ' := (M1, L)) rfl ⟨trivial, trivial, trivial, trivial, trivial, (x_rgv (x_rgc (x := 15) (k := 15) (by decide)) (by decide) (by decide)), trivial, trivial⟩ ?_
  refine x_callSN C (rest := [.int (M1 2 15), .int 15, .ref 2]) (avs := [.int a1]) (k_X10_bytesOf l a1 M1 L) yoX10_bytesOf ml_X6_65 rfl ⟨Nat.zero_le _, Nat.zero_le _⟩ (show decode cX6_pull 26 = .ok (.invokestatic 65, 3) from by decide +kernel) rfl (fun v σ' hPo => ?_)
  obtain ⟨⟨rfl, rfl⟩, g5, -⟩ := hPo
  show V 0 0 29 [(2, .int r1), (0, .ref 10), (1, .int a1)] [.int (f_X10_bytesOf a1), .int (M1 2 15), .int 15, .ref 2] LAY (M1, L)
  refine x_run C e_X6_pull_3 e_X6_pull_3_k (pc' := 32) (lv' := [(2, .int r1), (0, .ref 10), (1, .int a1)]) (st' := [.int r1]) (σ' := ((xup M1 2 15 ((M1 2 15) + (f_X10_bytesOf a1))), L)) rfl ⟨trivial, (x_rgv (x_rgc (x := 15) (k := 15) (by decide)) (by decide) (by decide)), trivial, trivial⟩ ?_
  have hI7 : InvK INVC (xup M1 2 15 ((M1 2 15) + (f_X10_bytesOf a1))) := (hI3.arr 2 15 ((M1 2 15) + (f_X10_bytesOf a1)) (by decide))
  subst h
  exact x_iret C (show decode cX6_pull 32 = .ok (.ireturn, 1) from by decide +kernel) (x_finI rfl ⟨⟨rfl, rfl⟩, trivial, hI7⟩) (Nat.le_refl 0) (Nat.le_refl 0)
-- X4_returnWithFlags
def e_X4_returnWithFlags_1 : List xI := [(0, .aload_n 0, 1, .null), (1, .getfield 26, 3, .null), (4, .iconst 1, 1, .int 1)]
theorem e_X4_returnWithFlags_1_k : e_X4_returnWithFlags_1.all (fun q => xokB cX4_returnWithFlags q && xokL q) = true := by decide +kernel
def e_X4_returnWithFlags_2 : List xI := [(8, .istore_n 1, 1, .null), (9, .aload_n 0, 1, .null), (10, .getfield 21, 3, .null), (13, .bipush 17, 2, .int 17), (15, .aload_n 0, 1, .null), (16, .getfield 26, 3, .null), (19, .iconst 2, 1, .int 2)]
theorem e_X4_returnWithFlags_2_k : e_X4_returnWithFlags_2.all (fun q => xokB cX4_returnWithFlags q && xokL q) = true := by decide +kernel
def e_X4_returnWithFlags_3 : List xI := [(23, .iastore, 1, .null), (24, .aload_n 0, 1, .null), (25, .getfield 9, 3, .null), (28, .bipush 31, 2, .int 31), (30, .iload_n 1, 1, .null)]
theorem e_X4_returnWithFlags_3_k : e_X4_returnWithFlags_3.all (fun q => xokB cX4_returnWithFlags q && xokL q) = true := by decide +kernel
abbrev P_X4_returnWithFlags (r : St) (L : Nat → Nat → Int64) : Option Value → xG → Prop := fun v σ' => PoV r L v σ' ∧ InvK INVC r
abbrev R_X4_returnWithFlags : Room := { frames := 3, cells := 0, slots := 0, locals := 76 }
abbrev C_X4_returnWithFlags (l : Launch) (r : St) (L : Nat → Nat → Int64) (V : XJ) : Prop := XC l yX4_returnWithFlags.cls yX4_returnWithFlags.name cX4_returnWithFlags 2 R_X4_returnWithFlags 0 0 fl_X4 kc_X4 LAY.length (xfin none LAY (P_X4_returnWithFlags r L)) V
def f_X4_returnWithFlags (M : St) : St := (xb (f_X6_pull 1 M) fun q1 => (xb (f_X6_pull 2 q1.2) fun q4 => (xb (f_X8_changeFlags 31 q1.1 (xup q4.2 2 17 q4.1)) fun q8 => q8)))
set_option maxRecDepth 20000 in
set_option maxHeartbeats 4000000 in
theorem k_X4_returnWithFlags (l : Launch) (M : St) (L : Nat → Nat → Int64) (hI : InvK INVC M) : XM l yX4_returnWithFlags cX4_returnWithFlags 2 none R_X4_returnWithFlags LAY [.ref 12] (M, L) (P_X4_returnWithFlags (f_X4_returnWithFlags M) L) := by
  refine XM.of (by decide) (Nat.le_of_ble_eq_true rfl) LAY_in cl_ok fl_X4_ok kc_X4_ok (fun V C => ?_)
  obtain ⟨r, h⟩ : ∃ r, f_X4_returnWithFlags M = r := ⟨_, rfl⟩
  rw [h] at C
  change C_X4_returnWithFlags l r L V at C
  unfold f_X4_returnWithFlags at h
  show V 0 0 0 [(0, .ref 12)] [] LAY (M, L)
  refine x_run C e_X4_returnWithFlags_1 e_X4_returnWithFlags_1_k (pc' := 5) (lv' := [(0, .ref 12)]) (st' := [.int 1, .ref 10]) (σ' := (M, L)) rfl ⟨trivial, trivial, trivial, trivial⟩ ?_
  refine x_callV C (k := 10) (ci := 4) (rest := []) (avs := [.int 1]) (k_X6_pull l 1 M L hI) yoX6_pull ml_X4_206 rfl rfl rfl rfl ⟨Nat.zero_le _, Nat.zero_le _⟩ (show decode cX4_returnWithFlags 5 = .ok (.invokevirtual 206, 3) from by decide +kernel) rfl (fun v σ' hPo => ?_)
  obtain ⟨⟨rfl, rfl⟩, g2, hI3⟩ := hPo
  generalize hq1 : f_X6_pull 1 M = q1 at h g2 hI3 ⊢
  obtain ⟨r1, M1⟩ := q1
  have h := xb_eq h
  try dsimp only at h g2 hI3
  show V 0 0 8 [(0, .ref 12)] [.int r1] LAY (M1, L)
  refine x_run C e_X4_returnWithFlags_2 e_X4_returnWithFlags_2_k (pc' := 20) (lv' := [(1, .int r1), (0, .ref 12)]) (st' := [.int 2, .ref 10, .int 17, .ref 2]) (σ' := (M1, L)) rfl ⟨trivial, trivial, trivial, trivial, trivial, trivial, trivial, trivial⟩ ?_
  refine x_callV C (k := 10) (ci := 4) (rest := [.int 17, .ref 2]) (avs := [.int 2]) (k_X6_pull l 2 M1 L hI3) yoX6_pull ml_X4_206 rfl rfl rfl rfl ⟨Nat.zero_le _, Nat.zero_le _⟩ (show decode cX4_returnWithFlags 20 = .ok (.invokevirtual 206, 3) from by decide +kernel) rfl (fun v σ' hPo => ?_)
  obtain ⟨⟨rfl, rfl⟩, g5, hI6⟩ := hPo
  generalize hq4 : f_X6_pull 2 M1 = q4 at h g5 hI6 ⊢
  obtain ⟨r4, M4⟩ := q4
  have h := xb_eq h
  try dsimp only at h g5 hI6
  show V 0 0 23 [(1, .int r1), (0, .ref 12)] [.int r4, .int 17, .ref 2] LAY (M4, L)
  refine x_run C e_X4_returnWithFlags_3 e_X4_returnWithFlags_3_k (pc' := 31) (lv' := [(1, .int r1), (0, .ref 12)]) (st' := [.int r1, .int 31, .ref 1]) (σ' := ((xup M4 2 17 r4), L)) rfl ⟨(x_rgv (x_rgc (x := 17) (k := 17) (by decide)) (by decide) (by decide)), trivial, trivial, trivial, trivial, trivial⟩ ?_
  have hI7 : InvK INVC (xup M4 2 17 r4) := (hI6.arr 2 17 r4 (by decide))
  refine x_callV C (k := 1) (ci := 6) (rest := []) (avs := [.int 31, .int r1]) (k_X8_changeFlags l 31 r1 (xup M4 2 17 r4) L hI7) yoX8_changeFlags ml_X4_160 rfl rfl rfl rfl ⟨Nat.zero_le _, Nat.zero_le _⟩ (show decode cX4_returnWithFlags 31 = .ok (.invokevirtual 160, 3) from by decide +kernel) rfl (fun v σ' hPo => ?_)
  obtain ⟨⟨rfl, rfl⟩, hI10⟩ := hPo
  generalize hq8 : f_X8_changeFlags 31 r1 (xup M4 2 17 r4) = q8 at h hI10 ⊢
  have h := xb_eq h
  show V 0 0 34 [(1, .int r1), (0, .ref 12)] [] LAY (q8, L)
  subst h
  exact x_vret C (show decode cX4_returnWithFlags 34 = .ok (.return_, 1) from by decide +kernel) (x_finV ⟨⟨rfl, rfl⟩, hI10⟩) (Nat.le_refl 0) (Nat.le_refl 0)
-- X4_returnFromException
def e_X4_returnFromException_1 : List xI := [(0, .aload_n 0, 1, .null), (1, .getfield 26, 3, .null), (4, .iconst 1, 1, .int 1)]
theorem e_X4_returnFromException_1_k : e_X4_returnFromException_1.all (fun q => xokB cX4_returnFromException q && xokL q) = true := by decide +kernel
def e_X4_returnFromException_2 : List xI := [(8, .istore_n 1, 1, .null), (9, .aload_n 0, 1, .null), (10, .getfield 26, 3, .null), (13, .iconst 2, 1, .int 2)]
theorem e_X4_returnFromException_2_k : e_X4_returnFromException_2.all (fun q => xokB cX4_returnFromException q && xokL q) = true := by decide +kernel
def e_X4_returnFromException_3 : List xI := [(17, .istore_n 2, 1, .null), (18, .aload_n 0, 1, .null), (19, .getfield 9, 3, .null), (22, .iload_n 1, 1, .null)]
theorem e_X4_returnFromException_3_k : e_X4_returnFromException_3.all (fun q => xokB cX4_returnFromException q && xokL q) = true := by decide +kernel
def e_X4_returnFromException_4 : List xI := [(26, .aload_n 0, 1, .null), (27, .getfield 21, 3, .null), (30, .bipush 17, 2, .int 17), (32, .iload_n 2, 1, .null), (33, .iastore, 1, .null)]
theorem e_X4_returnFromException_4_k : e_X4_returnFromException_4.all (fun q => xokB cX4_returnFromException q && xokL q) = true := by decide +kernel
abbrev P_X4_returnFromException (r : St) (L : Nat → Nat → Int64) : Option Value → xG → Prop := fun v σ' => PoV r L v σ' ∧ InvK INVC r
abbrev R_X4_returnFromException : Room := { frames := 3, cells := 0, slots := 0, locals := 76 }
abbrev C_X4_returnFromException (l : Launch) (r : St) (L : Nat → Nat → Int64) (V : XJ) : Prop := XC l yX4_returnFromException.cls yX4_returnFromException.name cX4_returnFromException 3 R_X4_returnFromException 0 0 fl_X4 kc_X4 LAY.length (xfin none LAY (P_X4_returnFromException r L)) V
def f_X4_returnFromException (M : St) : St := (xb (f_X6_pull 1 M) fun q1 => (xb (f_X6_pull 2 q1.2) fun q4 => (xb (f_X8_changeStatus q1.1 q4.2) fun q7 => (xup q7 2 17 q4.1))))
set_option maxRecDepth 20000 in
set_option maxHeartbeats 4000000 in
theorem k_X4_returnFromException (l : Launch) (M : St) (L : Nat → Nat → Int64) (hI : InvK INVC M) : XM l yX4_returnFromException cX4_returnFromException 3 none R_X4_returnFromException LAY [.ref 12] (M, L) (P_X4_returnFromException (f_X4_returnFromException M) L) := by
  refine XM.of (by decide) (Nat.le_of_ble_eq_true rfl) LAY_in cl_ok fl_X4_ok kc_X4_ok (fun V C => ?_)
  obtain ⟨r, h⟩ : ∃ r, f_X4_returnFromException M = r := ⟨_, rfl⟩
  rw [h] at C
  change C_X4_returnFromException l r L V at C
  unfold f_X4_returnFromException at h
  show V 0 0 0 [(0, .ref 12)] [] LAY (M, L)
  refine x_run C e_X4_returnFromException_1 e_X4_returnFromException_1_k (pc' := 5) (lv' := [(0, .ref 12)]) (st' := [.int 1, .ref 10]) (σ' := (M, L)) rfl ⟨trivial, trivial, trivial, trivial⟩ ?_
  refine x_callV C (k := 10) (ci := 4) (rest := []) (avs := [.int 1]) (k_X6_pull l 1 M L hI) yoX6_pull ml_X4_206 rfl rfl rfl rfl ⟨Nat.zero_le _, Nat.zero_le _⟩ (show decode cX4_returnFromException 5 = .ok (.invokevirtual 206, 3) from by decide +kernel) rfl (fun v σ' hPo => ?_)
  obtain ⟨⟨rfl, rfl⟩, g2, hI3⟩ := hPo
  generalize hq1 : f_X6_pull 1 M = q1 at h g2 hI3 ⊢
  obtain ⟨r1, M1⟩ := q1
  have h := xb_eq h
  try dsimp only at h g2 hI3
  show V 0 0 8 [(0, .ref 12)] [.int r1] LAY (M1, L)
  refine x_run C e_X4_returnFromException_2 e_X4_returnFromException_2_k (pc' := 14) (lv' := [(1, .int r1), (0, .ref 12)]) (st' := [.int 2, .ref 10]) (σ' := (M1, L)) rfl ⟨trivial, trivial, trivial, trivial, trivial⟩ ?_
  refine x_callV C (k := 10) (ci := 4) (rest := []) (avs := [.int 2]) (k_X6_pull l 2 M1 L hI3) yoX6_pull ml_X4_206 rfl rfl rfl rfl ⟨Nat.zero_le _, Nat.zero_le _⟩ (show decode cX4_returnFromException 14 = .ok (.invokevirtual 206, 3) from by decide +kernel) rfl (fun v σ' hPo => ?_)
  obtain ⟨⟨rfl, rfl⟩, g5, hI6⟩ := hPo
  generalize hq4 : f_X6_pull 2 M1 = q4 at h g5 hI6 ⊢
  obtain ⟨r4, M4⟩ := q4
  have h := xb_eq h
  try dsimp only at h g5 hI6
  show V 0 0 17 [(1, .int r1), (0, .ref 12)] [.int r4] LAY (M4, L)
  refine x_run C e_X4_returnFromException_3 e_X4_returnFromException_3_k (pc' := 23) (lv' := [(2, .int r4), (1, .int r1), (0, .ref 12)]) (st' := [.int r1, .ref 1]) (σ' := (M4, L)) rfl ⟨trivial, trivial, trivial, trivial, trivial⟩ ?_
  refine x_callV C (k := 1) (ci := 6) (rest := []) (avs := [.int r1]) (k_X8_changeStatus l r1 M4 L hI6) yoX8_changeStatus ml_X4_164 rfl rfl rfl rfl ⟨Nat.zero_le _, Nat.zero_le _⟩ (show decode cX4_returnFromException 23 = .ok (.invokevirtual 164, 3) from by decide +kernel) rfl (fun v σ' hPo => ?_)
  obtain ⟨⟨rfl, rfl⟩, hI9⟩ := hPo
  generalize hq7 : f_X8_changeStatus r1 M4 = q7 at h hI9 ⊢
  have h := xb_eq h
  show V 0 0 26 [(2, .int r4), (1, .int r1), (0, .ref 12)] [] LAY (q7, L)
  refine x_run C e_X4_returnFromException_4 e_X4_returnFromException_4_k (pc' := 34) (lv' := [(2, .int r4), (1, .int r1), (0, .ref 12)]) (st' := []) (σ' := ((xup q7 2 17 r4), L)) rfl ⟨trivial, trivial, trivial, trivial, (x_rgv (x_rgc (x := 17) (k := 17) (by decide)) (by decide) (by decide)), trivial⟩ ?_
  have hI10 : InvK INVC (xup q7 2 17 r4) := (hI9.arr 2 17 r4 (by decide))
  subst h
  exact x_vret C (show decode cX4_returnFromException 34 = .ok (.return_, 1) from by decide +kernel) (x_finV ⟨⟨rfl, rfl⟩, hI10⟩) (Nat.le_refl 0) (Nat.le_refl 0)
-- X4_link
def e_X4_link_1 : List xI := [(0, .aload_n 0, 1, .null), (1, .getfield 26, 3, .null), (4, .iconst 1, 1, .int 1)]
theorem e_X4_link_1_k : e_X4_link_1.all (fun q => xokB cX4_link q && xokL q) = true := by decide +kernel
def e_X4_link_2 : List xI := [(8, .iconst 1, 1, .int 1)]
theorem e_X4_link_2_k : e_X4_link_2.all (fun q => xokB cX4_link q && xokL q) = true := by decide +kernel
def e_X4_link_3 : List xI := [(12, .istore_n 1, 1, .null), (13, .bipush 8, 2, .int 8), (15, .aload_n 0, 1, .null), (16, .getfield 30, 3, .null)]
theorem e_X4_link_3_k : e_X4_link_3.all (fun q => xokB cX4_link q && xokL q) = true := by decide +kernel
def e_X4_link_4 : List xI := [(22, .iadd, 1, .null), (23, .istore_n 2, 1, .null), (24, .aload_n 0, 1, .null), (25, .getfield 26, 3, .null), (28, .iconst 2, 1, .int 2), (29, .aload_n 0, 1, .null), (30, .getfield 21, 3, .null), (33, .iload_n 2, 1, .null), (34, .iaload, 1, .null)]
theorem e_X4_link_4_k : e_X4_link_4.all (fun q => xokB cX4_link q && xokL q) = true := by decide +kernel
def e_X4_link_5 : List xI := [(38, .aload_n 0, 1, .null), (39, .getfield 21, 3, .null), (42, .iload_n 2, 1, .null), (43, .aload_n 0, 1, .null), (44, .getfield 21, 3, .null), (47, .bipush 15, 2, .int 15), (49, .iaload, 1, .null), (50, .iastore, 1, .null), (51, .aload_n 0, 1, .null), (52, .getfield 21, 3, .null), (55, .bipush 15, 2, .int 15), (57, .dup2, 1, .null), (58, .iaload, 1, .null), (59, .iload_n 1, 1, .null), (60, .iadd, 1, .null), (61, .iastore, 1, .null)]
theorem e_X4_link_5_k : e_X4_link_5.all (fun q => xokB cX4_link q && xokL q) = true := by decide +kernel
abbrev P_X4_link (r : St) (L : Nat → Nat → Int64) : Option Value → xG → Prop := fun v σ' => PoV r L v σ' ∧ InvK INVC r
abbrev R_X4_link : Room := { frames := 3, cells := 0, slots := 0, locals := 77 }
abbrev C_X4_link (l : Launch) (r : St) (L : Nat → Nat → Int64) (V : XJ) : Prop := XC l yX4_link.cls yX4_link.name cX4_link 3 R_X4_link 0 0 fl_X4 kc_X4 LAY.length (xfin none LAY (P_X4_link r L)) V
def f_X4_link (M : St) : St := (xb (f_X6_fetch 1 M) fun q1 => (xb (f_X6_push 2 (q1.2 2 (8 + (f_X3_lowerRegister  q1.2)).toNatClampNeg) q1.2) fun q10 => (xup (xup q10 2 (8 + (f_X3_lowerRegister  q1.2)).toNatClampNeg (q10 2 15)) 2 15 (((xup q10 2 (8 + (f_X3_lowerRegister  q1.2)).toNatClampNeg (q10 2 15)) 2 15) + (f_X10_extended q1.1 1)))))
set_option maxRecDepth 20000 in
set_option maxHeartbeats 4000000 in
theorem k_X4_link (l : Launch) (M : St) (L : Nat → Nat → Int64) (hI : InvK INVC M) : XM l yX4_link cX4_link 3 none R_X4_link LAY [.ref 12] (M, L) (P_X4_link (f_X4_link M) L) := by
  refine XM.of (by decide) (Nat.le_of_ble_eq_true rfl) LAY_in cl_ok fl_X4_ok kc_X4_ok (fun V C => ?_)
  obtain ⟨r, h⟩ : ∃ r, f_X4_link M = r := ⟨_, rfl⟩
  rw [h] at C
  change C_X4_link l r L V at C
  unfold f_X4_link at h
  show V 0 0 0 [(0, .ref 12)] [] LAY (M, L)
  refine x_run C e_X4_link_1 e_X4_link_1_k (pc' := 5) (lv' := [(0, .ref 12)]) (st' := [.int 1, .ref 10]) (σ' := (M, L)) rfl ⟨trivial, trivial, trivial, trivial⟩ ?_
  refine x_callV C (k := 10) (ci := 4) (rest := []) (avs := [.int 1]) (k_X6_fetch l 1 M L hI) yoX6_fetch ml_X4_122 rfl rfl rfl rfl ⟨Nat.zero_le _, Nat.zero_le _⟩ (show decode cX4_link 5 = .ok (.invokevirtual 122, 3) from by decide +kernel) rfl (fun v σ' hPo => ?_)
  obtain ⟨⟨rfl, rfl⟩, g2, hI3⟩ := hPo
  generalize hq1 : f_X6_fetch 1 M = q1 at h g2 hI3 ⊢
  obtain ⟨r1, M1⟩ := q1
  have h := xb_eq h
  try dsimp only at h g2 hI3
  show V 0 0 8 [(0, .ref 12)] [.int r1] LAY (M1, L)
  refine x_run C e_X4_link_2 e_X4_link_2_k (pc' := 9) (lv' := [(0, .ref 12)]) (st' := [.int 1, .int r1]) (σ' := (M1, L)) rfl ⟨trivial, trivial⟩ ?_
  refine x_callSN C (rest := []) (avs := [.int r1, .int 1]) (k_X10_extended l r1 1 M1 L) yoX10_extended ml_X4_97 rfl ⟨Nat.zero_le _, Nat.zero_le _⟩ (show decode cX4_link 9 = .ok (.invokestatic 97, 3) from by decide +kernel) rfl (fun v σ' hPo => ?_)
  obtain ⟨⟨rfl, rfl⟩, g5, -⟩ := hPo
  show V 0 0 12 [(0, .ref 12)] [.int (f_X10_extended r1 1)] LAY (M1, L)
  refine x_run C e_X4_link_3 e_X4_link_3_k (pc' := 19) (lv' := [(1, .int (f_X10_extended r1 1)), (0, .ref 12)]) (st' := [.ref 11, .int 8]) (σ' := (M1, L)) rfl ⟨trivial, trivial, trivial, trivial, trivial⟩ ?_
  refine x_callV C (k := 11) (ci := 2) (rest := [.int 8]) (avs := []) (k_X3_lowerRegister l  M1 L hI3) yoX3_lowerRegister ml_X4_227 rfl rfl rfl rfl ⟨Nat.zero_le _, Nat.zero_le _⟩ (show decode cX4_link 19 = .ok (.invokevirtual 227, 3) from by decide +kernel) rfl (fun v σ' hPo => ?_)
  obtain ⟨⟨rfl, rfl⟩, g8, hI9⟩ := hPo
  show V 0 0 22 [(1, .int (f_X10_extended r1 1)), (0, .ref 12)] [.int (f_X3_lowerRegister  M1), .int 8] LAY (M1, L)
  refine x_run C e_X4_link_4 e_X4_link_4_k (pc' := 35) (lv' := [(2, .int (8 + (f_X3_lowerRegister  M1))), (1, .int (f_X10_extended r1 1)), (0, .ref 12)]) (st' := [.int (M1 2 (8 + (f_X3_lowerRegister  M1)).toNatClampNeg), .int 2, .ref 10]) (σ' := (M1, L)) rfl ⟨trivial, trivial, trivial, trivial, trivial, trivial, trivial, trivial, (x_rgv (x_rg_add (x_rgc (x := 8) (k := 8) (by decide)) g8 (by decide) (by decide)) (by decide) (by decide)), trivial⟩ ?_
  refine x_callV C (k := 10) (ci := 4) (rest := []) (avs := [.int 2, .int (M1 2 (8 + (f_X3_lowerRegister  M1)).toNatClampNeg)]) (k_X6_push l 2 (M1 2 (8 + (f_X3_lowerRegister  M1)).toNatClampNeg) M1 L hI3) yoX6_push ml_X4_176 rfl rfl rfl rfl ⟨Nat.zero_le _, Nat.zero_le _⟩ (show decode cX4_link 35 = .ok (.invokevirtual 176, 3) from by decide +kernel) rfl (fun v σ' hPo => ?_)
  obtain ⟨⟨rfl, rfl⟩, hI12⟩ := hPo
  generalize hq10 : f_X6_push 2 (M1 2 (8 + (f_X3_lowerRegister  M1)).toNatClampNeg) M1 = q10 at h hI12 ⊢
  have h := xb_eq h
  show V 0 0 38 [(2, .int (8 + (f_X3_lowerRegister  M1))), (1, .int (f_X10_extended r1 1)), (0, .ref 12)] [] LAY (q10, L)
  refine x_run C e_X4_link_5 e_X4_link_5_k (pc' := 62) (lv' := [(2, .int (8 + (f_X3_lowerRegister  M1))), (1, .int (f_X10_extended r1 1)), (0, .ref 12)]) (st' := []) (σ' := ((xup (xup q10 2 (8 + (f_X3_lowerRegister  M1)).toNatClampNeg (q10 2 15)) 2 15 (((xup q10 2 (8 + (f_X3_lowerRegister  M1)).toNatClampNeg (q10 2 15)) 2 15) + (f_X10_extended r1 1))), L)) rfl ⟨trivial, trivial, trivial, trivial, trivial, trivial, (x_rgv (x_rgc (x := 15) (k := 15) (by decide)) (by decide) (by decide)), (x_rgv (x_rg_add (x_rgc (x := 8) (k := 8) (by decide)) g8 (by decide) (by decide)) (by decide) (by decide)), trivial, trivial, trivial, trivial, (x_rgv (x_rgc (x := 15) (k := 15) (by decide)) (by decide) (by decide)), trivial, trivial, (x_rgv (x_rgc (x := 15) (k := 15) (by decide)) (by decide) (by decide)), trivial⟩ ?_
  have hI13 : InvK INVC (xup (xup q10 2 (8 + (f_X3_lowerRegister  M1)).toNatClampNeg (q10 2 15)) 2 15 (((xup q10 2 (8 + (f_X3_lowerRegister  M1)).toNatClampNeg (q10 2 15)) 2 15) + (f_X10_extended r1 1))) := ((hI12.arr 2 ((8 + (f_X3_lowerRegister  M1)).toNatClampNeg) (q10 2 15) (by decide)).arr 2 15 (((xup q10 2 (8 + (f_X3_lowerRegister  M1)).toNatClampNeg (q10 2 15)) 2 15) + (f_X10_extended r1 1)) (by decide))
  subst h
  exact x_vret C (show decode cX4_link 62 = .ok (.return_, 1) from by decide +kernel) (x_finV ⟨⟨rfl, rfl⟩, hI13⟩) (Nat.le_refl 0) (Nat.le_refl 0)
-- X4_unlink
def e_X4_unlink_1 : List xI := [(0, .bipush 8, 2, .int 8), (2, .aload_n 0, 1, .null), (3, .getfield 30, 3, .null)]
theorem e_X4_unlink_1_k : e_X4_unlink_1.all (fun q => xokB cX4_unlink q && xokL q) = true := by decide +kernel
def e_X4_unlink_2 : List xI := [(9, .iadd, 1, .null), (10, .istore_n 1, 1, .null), (11, .aload_n 0, 1, .null), (12, .getfield 21, 3, .null), (15, .bipush 15, 2, .int 15), (17, .aload_n 0, 1, .null), (18, .getfield 21, 3, .null), (21, .iload_n 1, 1, .null), (22, .iaload, 1, .null), (23, .iastore, 1, .null), (24, .aload_n 0, 1, .null), (25, .getfield 21, 3, .null), (28, .iload_n 1, 1, .null), (29, .aload_n 0, 1, .null), (30, .getfield 26, 3, .null), (33, .iconst 2, 1, .int 2)]
theorem e_X4_unlink_2_k : e_X4_unlink_2.all (fun q => xokB cX4_unlink q && xokL q) = true := by decide +kernel
def e_X4_unlink_3 : List xI := [(37, .iastore, 1, .null)]
theorem e_X4_unlink_3_k : e_X4_unlink_3.all (fun q => xokB cX4_unlink q && xokL q) = true := by decide +kernel
abbrev P_X4_unlink (r : St) (L : Nat → Nat → Int64) : Option Value → xG → Prop := fun v σ' => PoV r L v σ' ∧ InvK INVC r
abbrev R_X4_unlink : Room := { frames := 3, cells := 0, slots := 0, locals := 76 }
abbrev C_X4_unlink (l : Launch) (r : St) (L : Nat → Nat → Int64) (V : XJ) : Prop := XC l yX4_unlink.cls yX4_unlink.name cX4_unlink 2 R_X4_unlink 0 0 fl_X4 kc_X4 LAY.length (xfin none LAY (P_X4_unlink r L)) V
def f_X4_unlink (M : St) : St := (xb (f_X6_pull 2 (xup M 2 15 (M 2 (8 + (f_X3_lowerRegister  M)).toNatClampNeg))) fun q5 => (xup q5.2 2 (8 + (f_X3_lowerRegister  M)).toNatClampNeg q5.1))
set_option maxRecDepth 20000 in
set_option maxHeartbeats 4000000 in
theorem k_X4_unlink (l : Launch) (M : St) (L : Nat → Nat → Int64) (hI : InvK INVC M) : XM l yX4_unlink cX4_unlink 2 none R_X4_unlink LAY [.ref 12] (M, L) (P_X4_unlink (f_X4_unlink M) L) := by
  refine XM.of (by decide) (Nat.le_of_ble_eq_true rfl) LAY_in cl_ok fl_X4_ok kc_X4_ok (fun V C => ?_)
  obtain ⟨r, h⟩ : ∃ r, f_X4_unlink M = r := ⟨_, rfl⟩
  rw [h] at C
  change C_X4_unlink l r L V at C
  unfold f_X4_unlink at h
  show V 0 0 0 [(0, .ref 12)] [] LAY (M, L)
  refine x_run C e_X4_unlink_1 e_X4_unlink_1_k (pc' := 6) (lv' := [(0, .ref 12)]) (st' := [.ref 11, .int 8]) (σ' := (M, L)) rfl ⟨trivial, trivial, trivial, trivial⟩ ?_
  refine x_callV C (k := 11) (ci := 2) (rest := [.int 8]) (avs := []) (k_X3_lowerRegister l  M L hI) yoX3_lowerRegister ml_X4_227 rfl rfl rfl rfl ⟨Nat.zero_le _, Nat.zero_le _⟩ (show decode cX4_unlink 6 = .ok (.invokevirtual 227, 3) from by decide +kernel) rfl (fun v σ' hPo => ?_)
  obtain ⟨⟨rfl, rfl⟩, g2, hI3⟩ := hPo
  show V 0 0 9 [(0, .ref 12)] [.int (f_X3_lowerRegister  M), .int 8] LAY (M, L)
  refine x_run C e_X4_unlink_2 e_X4_unlink_2_k (pc' := 34) (lv' := [(1, .int (8 + (f_X3_lowerRegister  M))), (0, .ref 12)]) (st' := [.int 2, .ref 10, .int (8 + (f_X3_lowerRegister  M)), .ref 2]) (σ' := ((xup M 2 15 (M 2 (8 + (f_X3_lowerRegister  M)).toNatClampNeg)), L)) rfl ⟨trivial, trivial, trivial, trivial, trivial, trivial, trivial, trivial, (x_rgv (x_rg_add (x_rgc (x := 8) (k := 8) (by decide)) g2 (by decide) (by decide)) (by decide) (by decide)), (x_rgv (x_rgc (x := 15) (k := 15) (by decide)) (by decide) (by decide)), trivial, trivial, trivial, trivial, trivial, trivial, trivial⟩ ?_
  have hI4 : InvK INVC (xup M 2 15 (M 2 (8 + (f_X3_lowerRegister  M)).toNatClampNeg)) := (hI.arr 2 15 (M 2 (8 + (f_X3_lowerRegister  M)).toNatClampNeg) (by decide))
  refine x_callV C (k := 10) (ci := 4) (rest := [.int (8 + (f_X3_lowerRegister  M)), .ref 2]) (avs := [.int 2]) (k_X6_pull l 2 (xup M 2 15 (M 2 (8 + (f_X3_lowerRegister  M)).toNatClampNeg)) L hI4) yoX6_pull ml_X4_206 rfl rfl rfl rfl ⟨Nat.zero_le _, Nat.zero_le _⟩ (show decode cX4_unlink 34 = .ok (.invokevirtual 206, 3) from by decide +kernel) rfl (fun v σ' hPo => ?_)
  obtain ⟨⟨rfl, rfl⟩, g6, hI7⟩ := hPo
  generalize hq5 : f_X6_pull 2 (xup M 2 15 (M 2 (8 + (f_X3_lowerRegister  M)).toNatClampNeg)) = q5 at h g6 hI7 ⊢
  obtain ⟨r5, M5⟩ := q5
  have h := xb_eq h
  try dsimp only at h g6 hI7
  show V 0 0 37 [(1, .int (8 + (f_X3_lowerRegister  M))), (0, .ref 12)] [.int r5, .int (8 + (f_X3_lowerRegister  M)), .ref 2] LAY (M5, L)
  refine x_run C e_X4_unlink_3 e_X4_unlink_3_k (pc' := 38) (lv' := [(1, .int (8 + (f_X3_lowerRegister  M))), (0, .ref 12)]) (st' := []) (σ' := ((xup M5 2 (8 + (f_X3_lowerRegister  M)).toNatClampNeg r5), L)) rfl ⟨(x_rgv (x_rg_add (x_rgc (x := 8) (k := 8) (by decide)) g2 (by decide) (by decide)) (by decide) (by decide)), trivial⟩ ?_
  have hI8 : InvK INVC (xup M5 2 (8 + (f_X3_lowerRegister  M)).toNatClampNeg r5) := (hI7.arr 2 ((8 + (f_X3_lowerRegister  M)).toNatClampNeg) r5 (by decide))
  subst h
  exact x_vret C (show decode cX4_unlink 38 = .ok (.return_, 1) from by decide +kernel) (x_finV ⟨⟨rfl, rfl⟩, hI8⟩) (Nat.le_refl 0) (Nat.le_refl 0)
-- X4_stop
def e_X4_stop_1 : List xI := [(0, .aload_n 0, 1, .null), (1, .getfield 9, 3, .null), (4, .aload_n 0, 1, .null), (5, .getfield 26, 3, .null), (8, .iconst 1, 1, .int 1)]
theorem e_X4_stop_1_k : e_X4_stop_1.all (fun q => xokB cX4_stop q && xokL q) = true := by decide +kernel
def e_X4_stop_2 : List xI := [(15, .aload_n 0, 1, .null), (16, .iconst 1, 1, .int 1), (17, .putfield 47, 3, .null)]
theorem e_X4_stop_2_k : e_X4_stop_2.all (fun q => xokB cX4_stop q && xokL q) = true := by decide +kernel
abbrev P_X4_stop (r : St) (L : Nat → Nat → Int64) : Option Value → xG → Prop := fun v σ' => PoV r L v σ' ∧ InvK INVC r
abbrev R_X4_stop : Room := { frames := 3, cells := 0, slots := 0, locals := 77 }
abbrev C_X4_stop (l : Launch) (r : St) (L : Nat → Nat → Int64) (V : XJ) : Prop := XC l yX4_stop.cls yX4_stop.name cX4_stop 1 R_X4_stop 0 0 fl_X4 kc_X4 LAY.length (xfin none LAY (P_X4_stop r L)) V
def f_X4_stop (M : St) : St := (xb (f_X6_fetch 1 M) fun q1 => (xb (f_X8_changeStatus q1.1 q1.2) fun q4 => (xup q4 12 7 1)))
set_option maxRecDepth 20000 in
set_option maxHeartbeats 4000000 in
theorem k_X4_stop (l : Launch) (M : St) (L : Nat → Nat → Int64) (hI : InvK INVC M) : XM l yX4_stop cX4_stop 1 none R_X4_stop LAY [.ref 12] (M, L) (P_X4_stop (f_X4_stop M) L) := by
  refine XM.of (by decide) (Nat.le_of_ble_eq_true rfl) LAY_in cl_ok fl_X4_ok kc_X4_ok (fun V C => ?_)
  obtain ⟨r, h⟩ : ∃ r, f_X4_stop M = r := ⟨_, rfl⟩
  rw [h] at C
  change C_X4_stop l r L V at C
  unfold f_X4_stop at h
  show V 0 0 0 [(0, .ref 12)] [] LAY (M, L)
  refine x_run C e_X4_stop_1 e_X4_stop_1_k (pc' := 9) (lv' := [(0, .ref 12)]) (st' := [.int 1, .ref 10, .ref 1]) (σ' := (M, L)) rfl ⟨trivial, trivial, trivial, trivial, trivial, trivial⟩ ?_
  refine x_callV C (k := 10) (ci := 4) (rest := [.ref 1]) (avs := [.int 1]) (k_X6_fetch l 1 M L hI) yoX6_fetch ml_X4_122 rfl rfl rfl rfl ⟨Nat.zero_le _, Nat.zero_le _⟩ (show decode cX4_stop 9 = .ok (.invokevirtual 122, 3) from by decide +kernel) rfl (fun v σ' hPo => ?_)
  obtain ⟨⟨rfl, rfl⟩, g2, hI3⟩ := hPo
  generalize hq1 : f_X6_fetch 1 M = q1 at h g2 hI3 ⊢
  obtain ⟨r1, M1⟩ := q1
  have h := xb_eq h
  try dsimp only at h g2 hI3
  show V 0 0 12 [(0, .ref 12)] [.int r1, .ref 1] LAY (M1, L)
  refine x_callV C (k := 1) (ci := 6) (rest := []) (avs := [.int r1]) (k_X8_changeStatus l r1 M1 L hI3) yoX8_changeStatus ml_X4_164 rfl rfl rfl rfl ⟨Nat.zero_le _, Nat.zero_le _⟩ (show decode cX4_stop 12 = .ok (.invokevirtual 164, 3) from by decide +kernel) rfl (fun v σ' hPo => ?_)
  obtain ⟨⟨rfl, rfl⟩, hI6⟩ := hPo
  generalize hq4 : f_X8_changeStatus r1 M1 = q4 at h hI6 ⊢
  have h := xb_eq h
  show V 0 0 15 [(0, .ref 12)] [] LAY (q4, L)
  refine x_run C e_X4_stop_2 e_X4_stop_2_k (pc' := 20) (lv' := [(0, .ref 12)]) (st' := []) (σ' := ((xup q4 12 7 1), L)) rfl ⟨trivial, trivial, (x_rgb (x_rgw (x_rgc (x := 1) (k := 1) (by decide)) (lo' := 0) (hi' := 1) (by decide) (by decide))), trivial⟩ ?_
  have hI7 : InvK INVC (xup q4 12 7 1) := (hI6.fld 12 7 1 (by decide))
  subst h
  exact x_vret C (show decode cX4_stop 20 = .ok (.return_, 1) from by decide +kernel) (x_finV ⟨⟨rfl, rfl⟩, hI7⟩) (Nat.le_refl 0) (Nat.le_refl 0)
-- X4_performRest
def e_X4_performRest_1 : List xI := [(3, .aload_n 1, 1, .null)]
theorem e_X4_performRest_1_k : e_X4_performRest_1.all (fun q => xokB cX4_performRest q && xokL q) = true := by decide +kernel
def e_X4_performRest_2 : List xI := [(104, .aload_n 0, 1, .null)]
theorem e_X4_performRest_2_k : e_X4_performRest_2.all (fun q => xokB cX4_performRest q && xokL q) = true := by decide +kernel
def e_X4_performRest_3 : List xI := [(111, .aload_n 0, 1, .null)]
theorem e_X4_performRest_3_k : e_X4_performRest_3.all (fun q => xokB cX4_performRest q && xokL q) = true := by decide +kernel
def e_X4_performRest_4 : List xI := [(118, .aload_n 0, 1, .null), (119, .getfield 9, 3, .null), (122, .bipush 31, 2, .int 31), (124, .aload_n 0, 1, .null)]
theorem e_X4_performRest_4_k : e_X4_performRest_4.all (fun q => xokB cX4_performRest q && xokL q) = true := by decide +kernel
def e_X4_performRest_5 : List xI := [(134, .aload_n 0, 1, .null), (135, .getfield 9, 3, .null), (138, .aload_n 0, 1, .null)]
theorem e_X4_performRest_5_k : e_X4_performRest_5.all (fun q => xokB cX4_performRest q && xokL q) = true := by decide +kernel
def e_X4_performRest_6 : List xI := [(148, .aload_n 0, 1, .null)]
theorem e_X4_performRest_6_k : e_X4_performRest_6.all (fun q => xokB cX4_performRest q && xokL q) = true := by decide +kernel
def e_X4_performRest_7 : List xI := [(155, .aload_n 0, 1, .null), (156, .getfield 21, 3, .null), (159, .bipush 17, 2, .int 17), (161, .aload_n 0, 1, .null), (162, .getfield 26, 3, .null), (165, .iconst 2, 1, .int 2)]
theorem e_X4_performRest_7_k : e_X4_performRest_7.all (fun q => xokB cX4_performRest q && xokL q) = true := by decide +kernel
def e_X4_performRest_8 : List xI := [(169, .iastore, 1, .null)]
theorem e_X4_performRest_8_k : e_X4_performRest_8.all (fun q => xokB cX4_performRest q && xokL q) = true := by decide +kernel
def e_X4_performRest_9 : List xI := [(173, .aload_n 0, 1, .null)]
theorem e_X4_performRest_9_k : e_X4_performRest_9.all (fun q => xokB cX4_performRest q && xokL q) = true := by decide +kernel
def e_X4_performRest_10 : List xI := [(180, .aload_n 0, 1, .null)]
theorem e_X4_performRest_10_k : e_X4_performRest_10.all (fun q => xokB cX4_performRest q && xokL q) = true := by decide +kernel
def e_X4_performRest_11 : List xI := [(187, .aload_n 0, 1, .null), (188, .bipush 32, 2, .int 32), (190, .aload_n 0, 1, .null), (191, .getfield 30, 3, .null), (194, .getfield 215, 3, .null), (197, .bipush 15, 2, .int 15), (199, .iand, 1, .null), (200, .iadd, 1, .null), (201, .putfield 43, 3, .null)]
theorem e_X4_performRest_11_k : e_X4_performRest_11.all (fun q => xokB cX4_performRest q && xokL q) = true := by decide +kernel
def e_X4_performRest_12 : List xI := [(207, .aload_n 0, 1, .null), (208, .aload_n 0, 1, .null), (209, .getfield 9, 3, .null), (212, .iconst 2, 1, .int 2)]
theorem e_X4_performRest_12_k : e_X4_performRest_12.all (fun q => xokB cX4_performRest q && xokL q) = true := by decide +kernel
def e_X4_performRest_13 : List xI := [(224, .iconst 0, 1, .int 0)]
theorem e_X4_performRest_13_k : e_X4_performRest_13.all (fun q => xokB cX4_performRest q && xokL q) = true := by decide +kernel
def e_X4_performRest_14 : List xI := [(219, .bipush 7, 2, .int 7)]
theorem e_X4_performRest_14_k : e_X4_performRest_14.all (fun q => xokB cX4_performRest q && xokL q) = true := by decide +kernel
def e_X4_performRest_15 : List xI := [(231, .aload_n 0, 1, .null)]
theorem e_X4_performRest_15_k : e_X4_performRest_15.all (fun q => xokB cX4_performRest q && xokL q) = true := by decide +kernel
def e_X4_performRest_16 : List xI := [(238, .aload_n 0, 1, .null)]
theorem e_X4_performRest_16_k : e_X4_performRest_16.all (fun q => xokB cX4_performRest q && xokL q) = true := by decide +kernel
def e_X4_performRest_17 : List xI := [(245, .aload_n 0, 1, .null), (246, .getfield 21, 3, .null), (249, .bipush 16, 2, .int 16), (251, .aload_n 0, 1, .null), (252, .getfield 21, 3, .null), (255, .bipush 8, 2, .int 8), (257, .aload_n 0, 1, .null), (258, .getfield 30, 3, .null)]
theorem e_X4_performRest_17_k : e_X4_performRest_17.all (fun q => xokB cX4_performRest q && xokL q) = true := by decide +kernel
def e_X4_performRest_18 : List xI := [(264, .iadd, 1, .null), (265, .iaload, 1, .null), (266, .iastore, 1, .null)]
theorem e_X4_performRest_18_k : e_X4_performRest_18.all (fun q => xokB cX4_performRest q && xokL q) = true := by decide +kernel
def e_X4_performRest_19 : List xI := [(270, .aload_n 0, 1, .null), (271, .getfield 21, 3, .null), (274, .bipush 8, 2, .int 8), (276, .aload_n 0, 1, .null), (277, .getfield 30, 3, .null)]
theorem e_X4_performRest_19_k : e_X4_performRest_19.all (fun q => xokB cX4_performRest q && xokL q) = true := by decide +kernel
def e_X4_performRest_20 : List xI := [(283, .iadd, 1, .null), (284, .aload_n 0, 1, .null), (285, .getfield 21, 3, .null), (288, .bipush 16, 2, .int 16), (290, .iaload, 1, .null), (291, .iastore, 1, .null)]
theorem e_X4_performRest_20_k : e_X4_performRest_20.all (fun q => xokB cX4_performRest q && xokL q) = true := by decide +kernel
def e_X4_performRest_21 : List xI := [(295, .aload_n 0, 1, .null), (296, .getfield 22, 3, .null)]
theorem e_X4_performRest_21_k : e_X4_performRest_21.all (fun q => xokB cX4_performRest q && xokL q) = true := by decide +kernel
def e_X4_performRest_22 : List xI := [(305, .aload_n 0, 1, .null)]
theorem e_X4_performRest_22_k : e_X4_performRest_22.all (fun q => xokB cX4_performRest q && xokL q) = true := by decide +kernel
def e_X4_performRest_23 : List xI := [(312, .aload_n 0, 1, .null), (313, .bipush 10, 2, .int 10), (315, .putfield 43, 3, .null)]
theorem e_X4_performRest_23_k : e_X4_performRest_23.all (fun q => xokB cX4_performRest q && xokL q) = true := by decide +kernel
def e_X4_performRest_24 : List xI := [(321, .aload_n 0, 1, .null), (322, .bipush 11, 2, .int 11), (324, .putfield 43, 3, .null)]
theorem e_X4_performRest_24_k : e_X4_performRest_24.all (fun q => xokB cX4_performRest q && xokL q) = true := by decide +kernel
def e_X4_performRest_25 : List xI := [(330, .aload_n 0, 1, .null), (331, .bipush 8, 2, .int 8), (333, .putfield 43, 3, .null)]
theorem e_X4_performRest_25_k : e_X4_performRest_25.all (fun q => xokB cX4_performRest q && xokL q) = true := by decide +kernel
def e_X4_performRest_26 : List xI := [(339, .aload_n 0, 1, .null), (340, .iconst 4, 1, .int 4), (341, .putfield 43, 3, .null)]
theorem e_X4_performRest_26_k : e_X4_performRest_26.all (fun q => xokB cX4_performRest q && xokL q) = true := by decide +kernel
def e_X4_performRest_27 : List xI := [(225, .putfield 43, 3, .null)]
theorem e_X4_performRest_27_k : e_X4_performRest_27.all (fun q => xokB cX4_performRest q && xokL q) = true := by decide +kernel
abbrev P_X4_performRest (r : St) (L : Nat → Nat → Int64) : Option Value → xG → Prop := fun v σ' => PoV r L v σ' ∧ InvK INVC r
abbrev R_X4_performRest : Room := { frames := 4, cells := 0, slots := 0, locals := 99 }
abbrev C_X4_performRest (l : Launch) (r : St) (L : Nat → Nat → Int64) (V : XJ) : Prop := XC l yX4_performRest.cls yX4_performRest.name cX4_performRest 2 R_X4_performRest 0 0 fl_X4 kc_X4 LAY.length (xfin none LAY (P_X4_performRest r L)) V
def f_X4_performRest_225 (s0 : Int32) (M : St) : St := (xup M 12 6 s0)
def f_X4_performRest (a1 : Nat) (M : St) : St := (if (opS.getD a1 0) = 46 then (xb (f_X4_exchange  M) fun q2 => q2) else (if (opS.getD a1 0) = 47 then (xb (f_X4_moveQuick  M) fun q6 => q6) else (if (opS.getD a1 0) = 48 then (xb (f_X4_statusJoined  M) fun q10 => (xb (f_X8_changeFlags 31 q10.1 q10.2) fun q13 => q13)) else (if (opS.getD a1 0) = 49 then (xb (f_X4_statusJoined  M) fun q17 => (xb (f_X8_changeStatus q17.1 q17.2) fun q20 => q20)) else (if (opS.getD a1 0) = 50 then (xb (f_X4_swap  M) fun q24 => q24) else (if (opS.getD a1 0) = 51 then (xb (f_X6_pull 2 M) fun q28 => (xup q28.2 2 17 q28.1)) else (if (opS.getD a1 0) = 52 then (xb (f_X4_returnWithFlags  M) fun q33 => q33) else (if (opS.getD a1 0) = 53 then (xb (f_X4_returnFromException  M) fun q37 => q37) else (if (opS.getD a1 0) = 54 then (xup M 12 6 (32 + ((M 11 0) &&& 15))) else (if (opS.getD a1 0) = 55 then (if (f_X8_has 2 M) = 0 then f_X4_performRest_225 0 M else f_X4_performRest_225 7 M) else (if (opS.getD a1 0) = 56 then (xb (f_X4_link  M) fun q50 => q50) else (if (opS.getD a1 0) = 57 then (xb (f_X4_unlink  M) fun q54 => q54) else (if (opS.getD a1 0) = 58 then (xup M 2 16 (M 2 (8 + (f_X3_lowerRegister  M)).toNatClampNeg)) else (if (opS.getD a1 0) = 59 then (xup M 2 (8 + (f_X3_lowerRegister  M)).toNatClampNeg (M 2 16)) else (if (opS.getD a1 0) = 60 then (xb (f_X2_quietTimer  M) fun q68 => q68) else (if (opS.getD a1 0) = 61 then (xb (f_X4_stop  M) fun q72 => q72) else (if (opS.getD a1 0) = 62 then (xup M 12 6 10) else (if (opS.getD a1 0) = 63 then (xup M 12 6 11) else (if (opS.getD a1 0) = 64 then (xup M 12 6 8) else (if (opS.getD a1 0) = 65 then (xup M 12 6 4) else M))))))))))))))))))))
set_option maxRecDepth 20000 in
set_option maxHeartbeats 4000000 in
theorem b_X4_performRest_225 {l : Launch} {L : Nat → Nat → Int64} {V : XJ} (r : St) (C : C_X4_performRest l r L V) (s0 : Int32) (M : St) (ws0 : xrg 0 7 s0) (hI : InvK INVC M) (h : f_X4_performRest_225 s0 M = r) : V 0 0 225 [] [.int s0, .ref 12] LAY (M, L) := by
  unfold f_X4_performRest_225 at h
  refine x_run C e_X4_performRest_27 e_X4_performRest_27_k (pc' := 228) (lv' := []) (st' := []) (σ' := ((xup M 12 6 s0), L)) rfl ⟨trivial, trivial⟩ ?_
  have hI83 : InvK INVC (xup M 12 6 s0) := (hI.set 12 6 ws0 (by decide))
  refine x_goto C (show decode cX4_performRest 228 = .ok (.goto 119, 3) from by decide +kernel) (tgt := 347) (by decide) ?_
  subst h
  exact x_vret C (show decode cX4_performRest 347 = .ok (.return_, 1) from by decide +kernel) (x_finV ⟨⟨rfl, rfl⟩, hI83⟩) (Nat.le_refl 0) (Nat.le_refl 0)
set_option maxRecDepth 20000 in
set_option maxHeartbeats 4000000 in
theorem k_X4_performRest (l : Launch) (a1 : Nat) (M : St) (L : Nat → Nat → Int64) (hb1 : a1 < 66) (hI : InvK INVC M) : XM l yX4_performRest cX4_performRest 2 none R_X4_performRest LAY [.ref 12, .ref (1000 + a1)] (M, L) (P_X4_performRest (f_X4_performRest a1 M) L) := by
  refine XM.of (by decide) (Nat.le_of_ble_eq_true rfl) LAY_in cl_ok fl_X4_ok kc_X4_ok (fun V C => ?_)
  obtain ⟨r, h⟩ : ∃ r, f_X4_performRest a1 M = r := ⟨_, rfl⟩
  rw [h] at C
  change C_X4_performRest l r L V at C
  unfold f_X4_performRest at h
  show V 0 0 0 [(0, .ref 12), (1, .ref (1000 + a1))] [] LAY (M, L)
  refine x_getSw C (x_in 919 (by decide +kernel) rfl) (show decode cX4_performRest 0 = .ok (.getstatic 51, 3) from by decide +kernel) ?_
  refine x_run C e_X4_performRest_1 e_X4_performRest_1_k (pc' := 4) (lv' := [(0, .ref 12), (1, .ref (1000 + a1))]) (st' := [.ref (1000 + a1), .ref 2000]) (σ' := (M, L)) rfl ⟨trivial, trivial⟩ ?_
  refine x_callU C hb1 (k_ord l a1 hb1 M L) ord_code ord_ws4 rfl (by decide +kernel) rfl ⟨Nat.zero_le _, Nat.zero_le _⟩ (show decode cX4_performRest 4 = .ok (.invokevirtual 56, 3) from by decide +kernel) (fun v σ' hPo => ?_)
  obtain ⟨rfl, rfl⟩ := hPo
  show V 0 0 7 [(0, .ref 12), (1, .ref (1000 + a1))] [.int (nI a1), .ref 2000] LAY (M, L)
  refine x_swld C hb1 (show decode cX4_performRest 7 = .ok (.iaload, 1) from by decide +kernel) ?_
  by_cases c1 : (opS.getD a1 0) = 46
  · rw [if_pos c1] at h
    refine x_tin C (show decode cX4_performRest 8 = .ok (.tableswitch 339 46 65 #[96, 103, 110, 126, 140, 147, 165, 172, 179, 199, 223, 230, 237, 262, 287, 297, 304, 313, 322, 331], 96) from by decide +kernel) 46 c1 (off := 96) (tgt := 104) (by decide) ?_
    refine x_run C e_X4_performRest_2 e_X4_performRest_2_k (pc' := 105) (lv' := [(0, .ref 12), (1, .ref (1000 + a1))]) (st' := [.ref 12]) (σ' := (M, L)) rfl ⟨trivial, trivial⟩ ?_
    refine x_callV C (k := 12) (ci := 3) (rest := []) (avs := []) (k_X4_exchange l  M L hI) yoX4_exchange ml_X4_194 rfl rfl rfl rfl ⟨Nat.zero_le _, Nat.zero_le _⟩ (show decode cX4_performRest 105 = .ok (.invokevirtual 194, 3) from by decide +kernel) rfl (fun v σ' hPo => ?_)
    obtain ⟨⟨rfl, rfl⟩, hI4⟩ := hPo
    generalize hq2 : f_X4_exchange  M = q2 at h hI4 ⊢
    have h := xb_eq h
    show V 0 0 108 [(0, .ref 12), (1, .ref (1000 + a1))] [] LAY (q2, L)
    refine x_goto C (show decode cX4_performRest 108 = .ok (.goto 239, 3) from by decide +kernel) (tgt := 347) (by decide) ?_
    subst h
    exact x_vret C (show decode cX4_performRest 347 = .ok (.return_, 1) from by decide +kernel) (x_finV ⟨⟨rfl, rfl⟩, hI4⟩) (Nat.le_refl 0) (Nat.le_refl 0)
  rw [if_neg c1] at h
  by_cases c5 : (opS.getD a1 0) = 47
  · rw [if_pos c5] at h
    refine x_tin C (show decode cX4_performRest 8 = .ok (.tableswitch 339 46 65 #[96, 103, 110, 126, 140, 147, 165, 172, 179, 199, 223, 230, 237, 262, 287, 297, 304, 313, 322, 331], 96) from by decide +kernel) 47 c5 (off := 103) (tgt := 111) (by decide) ?_
    refine x_run C e_X4_performRest_3 e_X4_performRest_3_k (pc' := 112) (lv' := [(0, .ref 12), (1, .ref (1000 + a1))]) (st' := [.ref 12]) (σ' := (M, L)) rfl ⟨trivial, trivial⟩ ?_
    refine x_callV C (k := 12) (ci := 3) (rest := []) (avs := []) (k_X4_moveQuick l  M L hI) yoX4_moveQuick ml_X4_197 rfl rfl rfl rfl ⟨Nat.zero_le _, Nat.zero_le _⟩ (show decode cX4_performRest 112 = .ok (.invokevirtual 197, 3) from by decide +kernel) rfl (fun v σ' hPo => ?_)
    obtain ⟨⟨rfl, rfl⟩, hI8⟩ := hPo
    generalize hq6 : f_X4_moveQuick  M = q6 at h hI8 ⊢
    have h := xb_eq h
    show V 0 0 115 [(0, .ref 12), (1, .ref (1000 + a1))] [] LAY (q6, L)
    refine x_goto C (show decode cX4_performRest 115 = .ok (.goto 232, 3) from by decide +kernel) (tgt := 347) (by decide) ?_
    subst h
    exact x_vret C (show decode cX4_performRest 347 = .ok (.return_, 1) from by decide +kernel) (x_finV ⟨⟨rfl, rfl⟩, hI8⟩) (Nat.le_refl 0) (Nat.le_refl 0)
  rw [if_neg c5] at h
  by_cases c9 : (opS.getD a1 0) = 48
  · rw [if_pos c9] at h
    refine x_tin C (show decode cX4_performRest 8 = .ok (.tableswitch 339 46 65 #[96, 103, 110, 126, 140, 147, 165, 172, 179, 199, 223, 230, 237, 262, 287, 297, 304, 313, 322, 331], 96) from by decide +kernel) 48 c9 (off := 110) (tgt := 118) (by decide) ?_
    refine x_run C e_X4_performRest_4 e_X4_performRest_4_k (pc' := 125) (lv' := [(0, .ref 12), (1, .ref (1000 + a1))]) (st' := [.ref 12, .int 31, .ref 1]) (σ' := (M, L)) rfl ⟨trivial, trivial, trivial, trivial, trivial⟩ ?_
    refine x_callV C (k := 12) (ci := 3) (rest := [.int 31, .ref 1]) (avs := []) (k_X4_statusJoined l  M L hI) yoX4_statusJoined ml_X4_200 rfl rfl rfl rfl ⟨Nat.zero_le _, Nat.zero_le _⟩ (show decode cX4_performRest 125 = .ok (.invokevirtual 200, 3) from by decide +kernel) rfl (fun v σ' hPo => ?_)
    obtain ⟨⟨rfl, rfl⟩, g11, hI12⟩ := hPo
    generalize hq10 : f_X4_statusJoined  M = q10 at h g11 hI12 ⊢
    obtain ⟨r10, M10⟩ := q10
    have h := xb_eq h
    try dsimp only at h g11 hI12
    show V 0 0 128 [(0, .ref 12), (1, .ref (1000 + a1))] [.int r10, .int 31, .ref 1] LAY (M10, L)
    refine x_callV C (k := 1) (ci := 6) (rest := []) (avs := [.int 31, .int r10]) (k_X8_changeFlags l 31 r10 M10 L hI12) yoX8_changeFlags ml_X4_160 rfl rfl rfl rfl ⟨Nat.zero_le _, Nat.zero_le _⟩ (show decode cX4_performRest 128 = .ok (.invokevirtual 160, 3) from by decide +kernel) rfl (fun v σ' hPo => ?_)
    obtain ⟨⟨rfl, rfl⟩, hI15⟩ := hPo
    generalize hq13 : f_X8_changeFlags 31 r10 M10 = q13 at h hI15 ⊢
    have h := xb_eq h
    show V 0 0 131 [(0, .ref 12), (1, .ref (1000 + a1))] [] LAY (q13, L)
    refine x_goto C (show decode cX4_performRest 131 = .ok (.goto 216, 3) from by decide +kernel) (tgt := 347) (by decide) ?_
    subst h
    exact x_vret C (show decode cX4_performRest 347 = .ok (.return_, 1) from by decide +kernel) (x_finV ⟨⟨rfl, rfl⟩, hI15⟩) (Nat.le_refl 0) (Nat.le_refl 0)
  rw [if_neg c9] at h
  by_cases c16 : (opS.getD a1 0) = 49
  · rw [if_pos c16] at h
    refine x_tin C (show decode cX4_performRest 8 = .ok (.tableswitch 339 46 65 #[96, 103, 110, 126, 140, 147, 165, 172, 179, 199, 223, 230, 237, 262, 287, 297, 304, 313, 322, 331], 96) from by decide +kernel) 49 c16 (off := 126) (tgt := 134) (by decide) ?_
    refine x_run C e_X4_performRest_5 e_X4_performRest_5_k (pc' := 139) (lv' := [(0, .ref 12), (1, .ref (1000 + a1))]) (st' := [.ref 12, .ref 1]) (σ' := (M, L)) rfl ⟨trivial, trivial, trivial, trivial⟩ ?_
    refine x_callV C (k := 12) (ci := 3) (rest := [.ref 1]) (avs := []) (k_X4_statusJoined l  M L hI) yoX4_statusJoined ml_X4_200 rfl rfl rfl rfl ⟨Nat.zero_le _, Nat.zero_le _⟩ (show decode cX4_performRest 139 = .ok (.invokevirtual 200, 3) from by decide +kernel) rfl (fun v σ' hPo => ?_)
    obtain ⟨⟨rfl, rfl⟩, g18, hI19⟩ := hPo
    generalize hq17 : f_X4_statusJoined  M = q17 at h g18 hI19 ⊢
    obtain ⟨r17, M17⟩ := q17
    have h := xb_eq h
    try dsimp only at h g18 hI19
    show V 0 0 142 [(0, .ref 12), (1, .ref (1000 + a1))] [.int r17, .ref 1] LAY (M17, L)
    refine x_callV C (k := 1) (ci := 6) (rest := []) (avs := [.int r17]) (k_X8_changeStatus l r17 M17 L hI19) yoX8_changeStatus ml_X4_164 rfl rfl rfl rfl ⟨Nat.zero_le _, Nat.zero_le _⟩ (show decode cX4_performRest 142 = .ok (.invokevirtual 164, 3) from by decide +kernel) rfl (fun v σ' hPo => ?_)
    obtain ⟨⟨rfl, rfl⟩, hI22⟩ := hPo
    generalize hq20 : f_X8_changeStatus r17 M17 = q20 at h hI22 ⊢
    have h := xb_eq h
    show V 0 0 145 [(0, .ref 12), (1, .ref (1000 + a1))] [] LAY (q20, L)
    refine x_goto C (show decode cX4_performRest 145 = .ok (.goto 202, 3) from by decide +kernel) (tgt := 347) (by decide) ?_
    subst h
    exact x_vret C (show decode cX4_performRest 347 = .ok (.return_, 1) from by decide +kernel) (x_finV ⟨⟨rfl, rfl⟩, hI22⟩) (Nat.le_refl 0) (Nat.le_refl 0)
  rw [if_neg c16] at h
  by_cases c23 : (opS.getD a1 0) = 50
  · rw [if_pos c23] at h
    refine x_tin C (show decode cX4_performRest 8 = .ok (.tableswitch 339 46 65 #[96, 103, 110, 126, 140, 147, 165, 172, 179, 199, 223, 230, 237, 262, 287, 297, 304, 313, 322, 331], 96) from by decide +kernel) 50 c23 (off := 140) (tgt := 148) (by decide) ?_
    refine x_run C e_X4_performRest_6 e_X4_performRest_6_k (pc' := 149) (lv' := [(0, .ref 12), (1, .ref (1000 + a1))]) (st' := [.ref 12]) (σ' := (M, L)) rfl ⟨trivial, trivial⟩ ?_
    refine x_callV C (k := 12) (ci := 3) (rest := []) (avs := []) (k_X4_swap l  M L hI) yoX4_swap ml_X4_203 rfl rfl rfl rfl ⟨Nat.zero_le _, Nat.zero_le _⟩ (show decode cX4_performRest 149 = .ok (.invokevirtual 203, 3) from by decide +kernel) rfl (fun v σ' hPo => ?_)
    obtain ⟨⟨rfl, rfl⟩, hI26⟩ := hPo
    generalize hq24 : f_X4_swap  M = q24 at h hI26 ⊢
    have h := xb_eq h
    show V 0 0 152 [(0, .ref 12), (1, .ref (1000 + a1))] [] LAY (q24, L)
    refine x_goto C (show decode cX4_performRest 152 = .ok (.goto 195, 3) from by decide +kernel) (tgt := 347) (by decide) ?_
    subst h
    exact x_vret C (show decode cX4_performRest 347 = .ok (.return_, 1) from by decide +kernel) (x_finV ⟨⟨rfl, rfl⟩, hI26⟩) (Nat.le_refl 0) (Nat.le_refl 0)
  rw [if_neg c23] at h
  by_cases c27 : (opS.getD a1 0) = 51
  · rw [if_pos c27] at h
    refine x_tin C (show decode cX4_performRest 8 = .ok (.tableswitch 339 46 65 #[96, 103, 110, 126, 140, 147, 165, 172, 179, 199, 223, 230, 237, 262, 287, 297, 304, 313, 322, 331], 96) from by decide +kernel) 51 c27 (off := 147) (tgt := 155) (by decide) ?_
    refine x_run C e_X4_performRest_7 e_X4_performRest_7_k (pc' := 166) (lv' := [(0, .ref 12), (1, .ref (1000 + a1))]) (st' := [.int 2, .ref 10, .int 17, .ref 2]) (σ' := (M, L)) rfl ⟨trivial, trivial, trivial, trivial, trivial, trivial, trivial⟩ ?_
    refine x_callV C (k := 10) (ci := 4) (rest := [.int 17, .ref 2]) (avs := [.int 2]) (k_X6_pull l 2 M L hI) yoX6_pull ml_X4_206 rfl rfl rfl rfl ⟨Nat.zero_le _, Nat.zero_le _⟩ (show decode cX4_performRest 166 = .ok (.invokevirtual 206, 3) from by decide +kernel) rfl (fun v σ' hPo => ?_)
    obtain ⟨⟨rfl, rfl⟩, g29, hI30⟩ := hPo
    generalize hq28 : f_X6_pull 2 M = q28 at h g29 hI30 ⊢
    obtain ⟨r28, M28⟩ := q28
    have h := xb_eq h
    try dsimp only at h g29 hI30
    show V 0 0 169 [(0, .ref 12), (1, .ref (1000 + a1))] [.int r28, .int 17, .ref 2] LAY (M28, L)
    refine x_run C e_X4_performRest_8 e_X4_performRest_8_k (pc' := 170) (lv' := [(0, .ref 12), (1, .ref (1000 + a1))]) (st' := []) (σ' := ((xup M28 2 17 r28), L)) rfl ⟨(x_rgv (x_rgc (x := 17) (k := 17) (by decide)) (by decide) (by decide)), trivial⟩ ?_
    have hI31 : InvK INVC (xup M28 2 17 r28) := (hI30.arr 2 17 r28 (by decide))
    refine x_goto C (show decode cX4_performRest 170 = .ok (.goto 177, 3) from by decide +kernel) (tgt := 347) (by decide) ?_
    subst h
    exact x_vret C (show decode cX4_performRest 347 = .ok (.return_, 1) from by decide +kernel) (x_finV ⟨⟨rfl, rfl⟩, hI31⟩) (Nat.le_refl 0) (Nat.le_refl 0)
  rw [if_neg c27] at h
  by_cases c32 : (opS.getD a1 0) = 52
  · rw [if_pos c32] at h
    refine x_tin C (show decode cX4_performRest 8 = .ok (.tableswitch 339 46 65 #[96, 103, 110, 126, 140, 147, 165, 172, 179, 199, 223, 230, 237, 262, 287, 297, 304, 313, 322, 331], 96) from by decide +kernel) 52 c32 (off := 165) (tgt := 173) (by decide) ?_
    refine x_run C e_X4_performRest_9 e_X4_performRest_9_k (pc' := 174) (lv' := [(0, .ref 12), (1, .ref (1000 + a1))]) (st' := [.ref 12]) (σ' := (M, L)) rfl ⟨trivial, trivial⟩ ?_
    refine x_callV C (k := 12) (ci := 3) (rest := []) (avs := []) (k_X4_returnWithFlags l  M L hI) yoX4_returnWithFlags ml_X4_209 rfl rfl rfl rfl ⟨Nat.zero_le _, Nat.zero_le _⟩ (show decode cX4_performRest 174 = .ok (.invokevirtual 209, 3) from by decide +kernel) rfl (fun v σ' hPo => ?_)
    obtain ⟨⟨rfl, rfl⟩, hI35⟩ := hPo
    generalize hq33 : f_X4_returnWithFlags  M = q33 at h hI35 ⊢
    have h := xb_eq h
    show V 0 0 177 [(0, .ref 12), (1, .ref (1000 + a1))] [] LAY (q33, L)
    refine x_goto C (show decode cX4_performRest 177 = .ok (.goto 170, 3) from by decide +kernel) (tgt := 347) (by decide) ?_
    subst h
    exact x_vret C (show decode cX4_performRest 347 = .ok (.return_, 1) from by decide +kernel) (x_finV ⟨⟨rfl, rfl⟩, hI35⟩) (Nat.le_refl 0) (Nat.le_refl 0)
  rw [if_neg c32] at h
  by_cases c36 : (opS.getD a1 0) = 53
  · rw [if_pos c36] at h
    refine x_tin C (show decode cX4_performRest 8 = .ok (.tableswitch 339 46 65 #[96, 103, 110, 126, 140, 147, 165, 172, 179, 199, 223, 230, 237, 262, 287, 297, 304, 313, 322, 331], 96) from by decide +kernel) 53 c36 (off := 172) (tgt := 180) (by decide) ?_
    refine x_run C e_X4_performRest_10 e_X4_performRest_10_k (pc' := 181) (lv' := [(0, .ref 12), (1, .ref (1000 + a1))]) (st' := [.ref 12]) (σ' := (M, L)) rfl ⟨trivial, trivial⟩ ?_
    refine x_callV C (k := 12) (ci := 3) (rest := []) (avs := []) (k_X4_returnFromException l  M L hI) yoX4_returnFromException ml_X4_212 rfl rfl rfl rfl ⟨Nat.zero_le _, Nat.zero_le _⟩ (show decode cX4_performRest 181 = .ok (.invokevirtual 212, 3) from by decide +kernel) rfl (fun v σ' hPo => ?_)
    obtain ⟨⟨rfl, rfl⟩, hI39⟩ := hPo
    generalize hq37 : f_X4_returnFromException  M = q37 at h hI39 ⊢
    have h := xb_eq h
    show V 0 0 184 [(0, .ref 12), (1, .ref (1000 + a1))] [] LAY (q37, L)
    refine x_goto C (show decode cX4_performRest 184 = .ok (.goto 163, 3) from by decide +kernel) (tgt := 347) (by decide) ?_
    subst h
    exact x_vret C (show decode cX4_performRest 347 = .ok (.return_, 1) from by decide +kernel) (x_finV ⟨⟨rfl, rfl⟩, hI39⟩) (Nat.le_refl 0) (Nat.le_refl 0)
  rw [if_neg c36] at h
  by_cases c40 : (opS.getD a1 0) = 54
  · rw [if_pos c40] at h
    refine x_tin C (show decode cX4_performRest 8 = .ok (.tableswitch 339 46 65 #[96, 103, 110, 126, 140, 147, 165, 172, 179, 199, 223, 230, 237, 262, 287, 297, 304, 313, 322, 331], 96) from by decide +kernel) 54 c40 (off := 179) (tgt := 187) (by decide) ?_
    refine x_run C e_X4_performRest_11 e_X4_performRest_11_k (pc' := 204) (lv' := [(0, .ref 12), (1, .ref (1000 + a1))]) (st' := []) (σ' := ((xup M 12 6 (32 + ((M 11 0) &&& 15))), L)) rfl ⟨trivial, trivial, trivial, trivial, trivial, trivial, trivial, trivial, trivial, trivial⟩ ?_
    have hI41 : InvK INVC (xup M 12 6 (32 + ((M 11 0) &&& 15))) := (hI.set 12 6 (x_rg_add (x_rgc (x := 32) (k := 32) (by decide)) (x_rg_and (x := (M 11 0)) (m := 15) (k := 15) (by decide) (by decide)) (by decide) (by decide)) (by decide))
    refine x_goto C (show decode cX4_performRest 204 = .ok (.goto 143, 3) from by decide +kernel) (tgt := 347) (by decide) ?_
    subst h
    exact x_vret C (show decode cX4_performRest 347 = .ok (.return_, 1) from by decide +kernel) (x_finV ⟨⟨rfl, rfl⟩, hI41⟩) (Nat.le_refl 0) (Nat.le_refl 0)
  rw [if_neg c40] at h
  by_cases c42 : (opS.getD a1 0) = 55
  · rw [if_pos c42] at h
    refine x_tin C (show decode cX4_performRest 8 = .ok (.tableswitch 339 46 65 #[96, 103, 110, 126, 140, 147, 165, 172, 179, 199, 223, 230, 237, 262, 287, 297, 304, 313, 322, 331], 96) from by decide +kernel) 55 c42 (off := 199) (tgt := 207) (by decide) ?_
    refine x_run C e_X4_performRest_12 e_X4_performRest_12_k (pc' := 213) (lv' := [(0, .ref 12), (1, .ref (1000 + a1))]) (st' := [.int 2, .ref 1, .ref 12]) (σ' := (M, L)) rfl ⟨trivial, trivial, trivial, trivial, trivial⟩ ?_
    refine x_callV C (k := 1) (ci := 6) (rest := [.ref 12]) (avs := [.int 2]) (k_X8_has l 2 M L hI) yoX8_has ml_X4_218 rfl rfl rfl rfl ⟨Nat.zero_le _, Nat.zero_le _⟩ (show decode cX4_performRest 213 = .ok (.invokevirtual 218, 3) from by decide +kernel) rfl (fun v σ' hPo => ?_)
    obtain ⟨⟨rfl, rfl⟩, g44, hI45⟩ := hPo
    show V 0 0 216 [(0, .ref 12), (1, .ref (1000 + a1))] [.int (f_X8_has 2 M), .ref 12] LAY (M, L)
    refine x_if_eq C (show decode cX4_performRest 216 = .ok (.ifCond .eq 8, 3) from by decide +kernel) (tgt := 224) (by decide) (fun c46 => ?_) (fun c46 => ?_)
    · rw [if_pos c46] at h
      have g47 : xrg 0 0 (f_X8_has 2 M) := (x_c_eq g44 (x_rgc (x := 0) (k := 0) (by decide)) c46).1
      refine x_run C e_X4_performRest_13 e_X4_performRest_13_k (pc' := 225) (lv' := [(0, .ref 12), (1, .ref (1000 + a1))]) (st' := [.int 0, .ref 12]) (σ' := (M, L)) rfl ⟨trivial, trivial⟩ ?_
      refine x_lv C [] rfl ?_
      exact b_X4_performRest_225 r C 0 M (x_rgw (x_rgc (x := 0) (k := 0) (by decide)) (lo' := 0) (hi' := 7) (by decide) (by decide)) hI h
    · rw [if_neg c46] at h
      have g48 : xrg 1 1 (f_X8_has 2 M) := (x_c_ne g44 (by decide) c46)
      refine x_run C e_X4_performRest_14 e_X4_performRest_14_k (pc' := 221) (lv' := [(0, .ref 12), (1, .ref (1000 + a1))]) (st' := [.int 7, .ref 12]) (σ' := (M, L)) rfl ⟨trivial, trivial⟩ ?_
      refine x_goto C (show decode cX4_performRest 221 = .ok (.goto 4, 3) from by decide +kernel) (tgt := 225) (by decide) ?_
      refine x_lv C [] rfl ?_
      exact b_X4_performRest_225 r C 7 M (x_rgw (x_rgc (x := 7) (k := 7) (by decide)) (lo' := 0) (hi' := 7) (by decide) (by decide)) hI h
  rw [if_neg c42] at h
  by_cases c49 : (opS.getD a1 0) = 56
  · rw [if_pos c49] at h
    refine x_tin C (show decode cX4_performRest 8 = .ok (.tableswitch 339 46 65 #[96, 103, 110, 126, 140, 147, 165, 172, 179, 199, 223, 230, 237, 262, 287, 297, 304, 313, 322, 331], 96) from by decide +kernel) 56 c49 (off := 223) (tgt := 231) (by decide) ?_
    refine x_run C e_X4_performRest_15 e_X4_performRest_15_k (pc' := 232) (lv' := [(0, .ref 12), (1, .ref (1000 + a1))]) (st' := [.ref 12]) (σ' := (M, L)) rfl ⟨trivial, trivial⟩ ?_
    refine x_callV C (k := 12) (ci := 3) (rest := []) (avs := []) (k_X4_link l  M L hI) yoX4_link ml_X4_221 rfl rfl rfl rfl ⟨Nat.zero_le _, Nat.zero_le _⟩ (show decode cX4_performRest 232 = .ok (.invokevirtual 221, 3) from by decide +kernel) rfl (fun v σ' hPo => ?_)
    obtain ⟨⟨rfl, rfl⟩, hI52⟩ := hPo
    generalize hq50 : f_X4_link  M = q50 at h hI52 ⊢
    have h := xb_eq h
    show V 0 0 235 [(0, .ref 12), (1, .ref (1000 + a1))] [] LAY (q50, L)
    refine x_goto C (show decode cX4_performRest 235 = .ok (.goto 112, 3) from by decide +kernel) (tgt := 347) (by decide) ?_
    subst h
    exact x_vret C (show decode cX4_performRest 347 = .ok (.return_, 1) from by decide +kernel) (x_finV ⟨⟨rfl, rfl⟩, hI52⟩) (Nat.le_refl 0) (Nat.le_refl 0)
  rw [if_neg c49] at h
  by_cases c53 : (opS.getD a1 0) = 57
  · rw [if_pos c53] at h
    refine x_tin C (show decode cX4_performRest 8 = .ok (.tableswitch 339 46 65 #[96, 103, 110, 126, 140, 147, 165, 172, 179, 199, 223, 230, 237, 262, 287, 297, 304, 313, 322, 331], 96) from by decide +kernel) 57 c53 (off := 230) (tgt := 238) (by decide) ?_
    refine x_run C e_X4_performRest_16 e_X4_performRest_16_k (pc' := 239) (lv' := [(0, .ref 12), (1, .ref (1000 + a1))]) (st' := [.ref 12]) (σ' := (M, L)) rfl ⟨trivial, trivial⟩ ?_
    refine x_callV C (k := 12) (ci := 3) (rest := []) (avs := []) (k_X4_unlink l  M L hI) yoX4_unlink ml_X4_224 rfl rfl rfl rfl ⟨Nat.zero_le _, Nat.zero_le _⟩ (show decode cX4_performRest 239 = .ok (.invokevirtual 224, 3) from by decide +kernel) rfl (fun v σ' hPo => ?_)
    obtain ⟨⟨rfl, rfl⟩, hI56⟩ := hPo
    generalize hq54 : f_X4_unlink  M = q54 at h hI56 ⊢
    have h := xb_eq h
    show V 0 0 242 [(0, .ref 12), (1, .ref (1000 + a1))] [] LAY (q54, L)
    refine x_goto C (show decode cX4_performRest 242 = .ok (.goto 105, 3) from by decide +kernel) (tgt := 347) (by decide) ?_
    subst h
    exact x_vret C (show decode cX4_performRest 347 = .ok (.return_, 1) from by decide +kernel) (x_finV ⟨⟨rfl, rfl⟩, hI56⟩) (Nat.le_refl 0) (Nat.le_refl 0)
  rw [if_neg c53] at h
  by_cases c57 : (opS.getD a1 0) = 58
  · rw [if_pos c57] at h
    refine x_tin C (show decode cX4_performRest 8 = .ok (.tableswitch 339 46 65 #[96, 103, 110, 126, 140, 147, 165, 172, 179, 199, 223, 230, 237, 262, 287, 297, 304, 313, 322, 331], 96) from by decide +kernel) 58 c57 (off := 237) (tgt := 245) (by decide) ?_
    refine x_run C e_X4_performRest_17 e_X4_performRest_17_k (pc' := 261) (lv' := [(0, .ref 12), (1, .ref (1000 + a1))]) (st' := [.ref 11, .int 8, .ref 2, .int 16, .ref 2]) (σ' := (M, L)) rfl ⟨trivial, trivial, trivial, trivial, trivial, trivial, trivial, trivial, trivial⟩ ?_
    refine x_callV C (k := 11) (ci := 2) (rest := [.int 8, .ref 2, .int 16, .ref 2]) (avs := []) (k_X3_lowerRegister l  M L hI) yoX3_lowerRegister ml_X4_227 rfl rfl rfl rfl ⟨Nat.zero_le _, Nat.zero_le _⟩ (show decode cX4_performRest 261 = .ok (.invokevirtual 227, 3) from by decide +kernel) rfl (fun v σ' hPo => ?_)
    obtain ⟨⟨rfl, rfl⟩, g59, hI60⟩ := hPo
    show V 0 0 264 [(0, .ref 12), (1, .ref (1000 + a1))] [.int (f_X3_lowerRegister  M), .int 8, .ref 2, .int 16, .ref 2] LAY (M, L)
    refine x_run C e_X4_performRest_18 e_X4_performRest_18_k (pc' := 267) (lv' := [(0, .ref 12), (1, .ref (1000 + a1))]) (st' := []) (σ' := ((xup M 2 16 (M 2 (8 + (f_X3_lowerRegister  M)).toNatClampNeg)), L)) rfl ⟨trivial, (x_rgv (x_rg_add (x_rgc (x := 8) (k := 8) (by decide)) g59 (by decide) (by decide)) (by decide) (by decide)), (x_rgv (x_rgc (x := 16) (k := 16) (by decide)) (by decide) (by decide)), trivial⟩ ?_
    have hI61 : InvK INVC (xup M 2 16 (M 2 (8 + (f_X3_lowerRegister  M)).toNatClampNeg)) := (hI.arr 2 16 (M 2 (8 + (f_X3_lowerRegister  M)).toNatClampNeg) (by decide))
    refine x_goto C (show decode cX4_performRest 267 = .ok (.goto 80, 3) from by decide +kernel) (tgt := 347) (by decide) ?_
    subst h
    exact x_vret C (show decode cX4_performRest 347 = .ok (.return_, 1) from by decide +kernel) (x_finV ⟨⟨rfl, rfl⟩, hI61⟩) (Nat.le_refl 0) (Nat.le_refl 0)
  rw [if_neg c57] at h
  by_cases c62 : (opS.getD a1 0) = 59
  · rw [if_pos c62] at h
    refine x_tin C (show decode cX4_performRest 8 = .ok (.tableswitch 339 46 65 #[96, 103, 110, 126, 140, 147, 165, 172, 179, 199, 223, 230, 237, 262, 287, 297, 304, 313, 322, 331], 96) from by decide +kernel) 59 c62 (off := 262) (tgt := 270) (by decide) ?_
    refine x_run C e_X4_performRest_19 e_X4_performRest_19_k (pc' := 280) (lv' := [(0, .ref 12), (1, .ref (1000 + a1))]) (st' := [.ref 11, .int 8, .ref 2]) (σ' := (M, L)) rfl ⟨trivial, trivial, trivial, trivial, trivial, trivial⟩ ?_
    refine x_callV C (k := 11) (ci := 2) (rest := [.int 8, .ref 2]) (avs := []) (k_X3_lowerRegister l  M L hI) yoX3_lowerRegister ml_X4_227 rfl rfl rfl rfl ⟨Nat.zero_le _, Nat.zero_le _⟩ (show decode cX4_performRest 280 = .ok (.invokevirtual 227, 3) from by decide +kernel) rfl (fun v σ' hPo => ?_)
    obtain ⟨⟨rfl, rfl⟩, g64, hI65⟩ := hPo
    show V 0 0 283 [(0, .ref 12), (1, .ref (1000 + a1))] [.int (f_X3_lowerRegister  M), .int 8, .ref 2] LAY (M, L)
    refine x_run C e_X4_performRest_20 e_X4_performRest_20_k (pc' := 292) (lv' := [(0, .ref 12), (1, .ref (1000 + a1))]) (st' := []) (σ' := ((xup M 2 (8 + (f_X3_lowerRegister  M)).toNatClampNeg (M 2 16)), L)) rfl ⟨trivial, trivial, trivial, trivial, (x_rgv (x_rgc (x := 16) (k := 16) (by decide)) (by decide) (by decide)), (x_rgv (x_rg_add (x_rgc (x := 8) (k := 8) (by decide)) g64 (by decide) (by decide)) (by decide) (by decide)), trivial⟩ ?_
    have hI66 : InvK INVC (xup M 2 (8 + (f_X3_lowerRegister  M)).toNatClampNeg (M 2 16)) := (hI.arr 2 ((8 + (f_X3_lowerRegister  M)).toNatClampNeg) (M 2 16) (by decide))
    refine x_goto C (show decode cX4_performRest 292 = .ok (.goto 55, 3) from by decide +kernel) (tgt := 347) (by decide) ?_
    subst h
    exact x_vret C (show decode cX4_performRest 347 = .ok (.return_, 1) from by decide +kernel) (x_finV ⟨⟨rfl, rfl⟩, hI66⟩) (Nat.le_refl 0) (Nat.le_refl 0)
  rw [if_neg c62] at h
  by_cases c67 : (opS.getD a1 0) = 60
  · rw [if_pos c67] at h
    refine x_tin C (show decode cX4_performRest 8 = .ok (.tableswitch 339 46 65 #[96, 103, 110, 126, 140, 147, 165, 172, 179, 199, 223, 230, 237, 262, 287, 297, 304, 313, 322, 331], 96) from by decide +kernel) 60 c67 (off := 287) (tgt := 295) (by decide) ?_
    refine x_run C e_X4_performRest_21 e_X4_performRest_21_k (pc' := 299) (lv' := [(0, .ref 12), (1, .ref (1000 + a1))]) (st' := [.ref 4]) (σ' := (M, L)) rfl ⟨trivial, trivial, trivial⟩ ?_
    refine x_callV C (k := 4) (ci := 1) (rest := []) (avs := []) (k_X2_quietTimer l  M L hI) yoX2_quietTimer ml_X4_230 rfl rfl rfl rfl ⟨Nat.zero_le _, Nat.zero_le _⟩ (show decode cX4_performRest 299 = .ok (.invokevirtual 230, 3) from by decide +kernel) rfl (fun v σ' hPo => ?_)
    obtain ⟨⟨rfl, rfl⟩, hI70⟩ := hPo
    generalize hq68 : f_X2_quietTimer  M = q68 at h hI70 ⊢
    have h := xb_eq h
    show V 0 0 302 [(0, .ref 12), (1, .ref (1000 + a1))] [] LAY (q68, L)
    refine x_goto C (show decode cX4_performRest 302 = .ok (.goto 45, 3) from by decide +kernel) (tgt := 347) (by decide) ?_
    subst h
    exact x_vret C (show decode cX4_performRest 347 = .ok (.return_, 1) from by decide +kernel) (x_finV ⟨⟨rfl, rfl⟩, hI70⟩) (Nat.le_refl 0) (Nat.le_refl 0)
  rw [if_neg c67] at h
  by_cases c71 : (opS.getD a1 0) = 61
  · rw [if_pos c71] at h
    refine x_tin C (show decode cX4_performRest 8 = .ok (.tableswitch 339 46 65 #[96, 103, 110, 126, 140, 147, 165, 172, 179, 199, 223, 230, 237, 262, 287, 297, 304, 313, 322, 331], 96) from by decide +kernel) 61 c71 (off := 297) (tgt := 305) (by decide) ?_
    refine x_run C e_X4_performRest_22 e_X4_performRest_22_k (pc' := 306) (lv' := [(0, .ref 12), (1, .ref (1000 + a1))]) (st' := [.ref 12]) (σ' := (M, L)) rfl ⟨trivial, trivial⟩ ?_
    refine x_callV C (k := 12) (ci := 3) (rest := []) (avs := []) (k_X4_stop l  M L hI) yoX4_stop ml_X4_235 rfl rfl rfl rfl ⟨Nat.zero_le _, Nat.zero_le _⟩ (show decode cX4_performRest 306 = .ok (.invokevirtual 235, 3) from by decide +kernel) rfl (fun v σ' hPo => ?_)
    obtain ⟨⟨rfl, rfl⟩, hI74⟩ := hPo
    generalize hq72 : f_X4_stop  M = q72 at h hI74 ⊢
    have h := xb_eq h
    show V 0 0 309 [(0, .ref 12), (1, .ref (1000 + a1))] [] LAY (q72, L)
    refine x_goto C (show decode cX4_performRest 309 = .ok (.goto 38, 3) from by decide +kernel) (tgt := 347) (by decide) ?_
    subst h
    exact x_vret C (show decode cX4_performRest 347 = .ok (.return_, 1) from by decide +kernel) (x_finV ⟨⟨rfl, rfl⟩, hI74⟩) (Nat.le_refl 0) (Nat.le_refl 0)
  rw [if_neg c71] at h
  by_cases c75 : (opS.getD a1 0) = 62
  · rw [if_pos c75] at h
    refine x_tin C (show decode cX4_performRest 8 = .ok (.tableswitch 339 46 65 #[96, 103, 110, 126, 140, 147, 165, 172, 179, 199, 223, 230, 237, 262, 287, 297, 304, 313, 322, 331], 96) from by decide +kernel) 62 c75 (off := 304) (tgt := 312) (by decide) ?_
    refine x_run C e_X4_performRest_23 e_X4_performRest_23_k (pc' := 318) (lv' := [(0, .ref 12), (1, .ref (1000 + a1))]) (st' := []) (σ' := ((xup M 12 6 10), L)) rfl ⟨trivial, trivial, trivial, trivial⟩ ?_
    have hI76 : InvK INVC (xup M 12 6 10) := (hI.set 12 6 (x_rgc (x := 10) (k := 10) (by decide)) (by decide))
    refine x_goto C (show decode cX4_performRest 318 = .ok (.goto 29, 3) from by decide +kernel) (tgt := 347) (by decide) ?_
    subst h
    exact x_vret C (show decode cX4_performRest 347 = .ok (.return_, 1) from by decide +kernel) (x_finV ⟨⟨rfl, rfl⟩, hI76⟩) (Nat.le_refl 0) (Nat.le_refl 0)
  rw [if_neg c75] at h
  by_cases c77 : (opS.getD a1 0) = 63
  · rw [if_pos c77] at h
    refine x_tin C (show decode cX4_performRest 8 = .ok (.tableswitch 339 46 65 #[96, 103, 110, 126, 140, 147, 165, 172, 179, 199, 223, 230, 237, 262, 287, 297, 304, 313, 322, 331], 96) from by decide +kernel) 63 c77 (off := 313) (tgt := 321) (by decide) ?_
    refine x_run C e_X4_performRest_24 e_X4_performRest_24_k (pc' := 327) (lv' := [(0, .ref 12), (1, .ref (1000 + a1))]) (st' := []) (σ' := ((xup M 12 6 11), L)) rfl ⟨trivial, trivial, trivial, trivial⟩ ?_
    have hI78 : InvK INVC (xup M 12 6 11) := (hI.set 12 6 (x_rgc (x := 11) (k := 11) (by decide)) (by decide))
    refine x_goto C (show decode cX4_performRest 327 = .ok (.goto 20, 3) from by decide +kernel) (tgt := 347) (by decide) ?_
    subst h
    exact x_vret C (show decode cX4_performRest 347 = .ok (.return_, 1) from by decide +kernel) (x_finV ⟨⟨rfl, rfl⟩, hI78⟩) (Nat.le_refl 0) (Nat.le_refl 0)
  rw [if_neg c77] at h
  by_cases c79 : (opS.getD a1 0) = 64
  · rw [if_pos c79] at h
    refine x_tin C (show decode cX4_performRest 8 = .ok (.tableswitch 339 46 65 #[96, 103, 110, 126, 140, 147, 165, 172, 179, 199, 223, 230, 237, 262, 287, 297, 304, 313, 322, 331], 96) from by decide +kernel) 64 c79 (off := 322) (tgt := 330) (by decide) ?_
    refine x_run C e_X4_performRest_25 e_X4_performRest_25_k (pc' := 336) (lv' := [(0, .ref 12), (1, .ref (1000 + a1))]) (st' := []) (σ' := ((xup M 12 6 8), L)) rfl ⟨trivial, trivial, trivial, trivial⟩ ?_
    have hI80 : InvK INVC (xup M 12 6 8) := (hI.set 12 6 (x_rgc (x := 8) (k := 8) (by decide)) (by decide))
    refine x_goto C (show decode cX4_performRest 336 = .ok (.goto 11, 3) from by decide +kernel) (tgt := 347) (by decide) ?_
    subst h
    exact x_vret C (show decode cX4_performRest 347 = .ok (.return_, 1) from by decide +kernel) (x_finV ⟨⟨rfl, rfl⟩, hI80⟩) (Nat.le_refl 0) (Nat.le_refl 0)
  rw [if_neg c79] at h
  by_cases c81 : (opS.getD a1 0) = 65
  · rw [if_pos c81] at h
    refine x_tin C (show decode cX4_performRest 8 = .ok (.tableswitch 339 46 65 #[96, 103, 110, 126, 140, 147, 165, 172, 179, 199, 223, 230, 237, 262, 287, 297, 304, 313, 322, 331], 96) from by decide +kernel) 65 c81 (off := 331) (tgt := 339) (by decide) ?_
    refine x_run C e_X4_performRest_26 e_X4_performRest_26_k (pc' := 344) (lv' := [(0, .ref 12), (1, .ref (1000 + a1))]) (st' := []) (σ' := ((xup M 12 6 4), L)) rfl ⟨trivial, trivial, trivial, trivial⟩ ?_
    have hI82 : InvK INVC (xup M 12 6 4) := (hI.set 12 6 (x_rgc (x := 4) (k := 4) (by decide)) (by decide))
    refine x_goto C (show decode cX4_performRest 344 = .ok (.goto 3, 3) from by decide +kernel) (tgt := 347) (by decide) ?_
    subst h
    exact x_vret C (show decode cX4_performRest 347 = .ok (.return_, 1) from by decide +kernel) (x_finV ⟨⟨rfl, rfl⟩, hI82⟩) (Nat.le_refl 0) (Nat.le_refl 0)
  rw [if_neg c81] at h
  have hz : (opS.getD a1 0).toInt < 46 ∨ 65 < (opS.getD a1 0).toInt := by
    have zc1 := lv_neT (a := 46) c1 (by decide)
    have zc5 := lv_neT (a := 47) c5 (by decide)
    have zc9 := lv_neT (a := 48) c9 (by decide)
    have zc16 := lv_neT (a := 49) c16 (by decide)
    have zc23 := lv_neT (a := 50) c23 (by decide)
    have zc27 := lv_neT (a := 51) c27 (by decide)
    have zc32 := lv_neT (a := 52) c32 (by decide)
    have zc36 := lv_neT (a := 53) c36 (by decide)
    have zc40 := lv_neT (a := 54) c40 (by decide)
    have zc42 := lv_neT (a := 55) c42 (by decide)
    have zc49 := lv_neT (a := 56) c49 (by decide)
    have zc53 := lv_neT (a := 57) c53 (by decide)
    have zc57 := lv_neT (a := 58) c57 (by decide)
    have zc62 := lv_neT (a := 59) c62 (by decide)
    have zc67 := lv_neT (a := 60) c67 (by decide)
    have zc71 := lv_neT (a := 61) c71 (by decide)
    have zc75 := lv_neT (a := 62) c75 (by decide)
    have zc77 := lv_neT (a := 63) c77 (by decide)
    have zc79 := lv_neT (a := 64) c79 (by decide)
    have zc81 := lv_neT (a := 65) c81 (by decide)
    omega
  refine x_tout C (show decode cX4_performRest 8 = .ok (.tableswitch 339 46 65 #[96, 103, 110, 126, 140, 147, 165, 172, 179, 199, 223, 230, 237, 262, 287, 297, 304, 313, 322, 331], 96) from by decide +kernel) hz (tgt := 347) (by decide) ?_
  subst h
  exact x_vret C (show decode cX4_performRest 347 = .ok (.return_, 1) from by decide +kernel) (x_finV ⟨⟨rfl, rfl⟩, hI⟩) (Nat.le_refl 0) (Nat.le_refl 0)
