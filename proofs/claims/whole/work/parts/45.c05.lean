-- X1_x
def e_X1_x_1 : List xI := [(0, .aload_n 0, 1, .null), (1, .getfield 9, 3, .null), (4, .bipush 16, 2, .int 16)]
theorem e_X1_x_1_k : e_X1_x_1.all (fun q => xokB cX1_x q && xokL q) = true := by decide +kernel
def e_X1_x_2 : List xI := [(16, .iconst 0, 1, .int 0)]
theorem e_X1_x_2_k : e_X1_x_2.all (fun q => xokB cX1_x q && xokL q) = true := by decide +kernel
def e_X1_x_3 : List xI := [(12, .iconst 1, 1, .int 1)]
theorem e_X1_x_3_k : e_X1_x_3.all (fun q => xokB cX1_x q && xokL q) = true := by decide +kernel
abbrev P_X1_x (r : Int32) (M0 : St) (L : Nat → Nat → Int64) : Option Value → xG → Prop := fun v σ' => PoI r M0 L v σ' ∧ xrg 0 1 r ∧ InvK INVC M0
abbrev R_X1_x : Room := { frames := 1, cells := 0, slots := 0, locals := 21 }
abbrev C_X1_x (l : Launch) (r : Int32) (M0 : St) (L : Nat → Nat → Int64) (V : XJ) : Prop := XC l yX1_x.cls yX1_x.name cX1_x 1 R_X1_x 0 0 fl_X1 kc_X1 LAY.length (xfin (some .int) LAY (P_X1_x r M0 L)) V
def f_X1_x (M : St) : Int32 := (if (f_X8_has 16 M) = 0 then 0 else 1)
set_option maxRecDepth 20000 in
set_option maxHeartbeats 4000000 in
theorem k_X1_x (l : Launch) (M : St) (L : Nat → Nat → Int64) (hI : InvK INVC M) : XM l yX1_x cX1_x 1 (some .int) R_X1_x LAY [.ref 13] (M, L) (P_X1_x (f_X1_x M) M L) := by
  refine XM.of (by decide) (Nat.le_of_ble_eq_true rfl) LAY_in cl_ok fl_X1_ok kc_X1_ok (fun V C => ?_)
  obtain ⟨r, h⟩ : ∃ r, f_X1_x M = r := ⟨_, rfl⟩
  rw [h] at C
  change C_X1_x l r M L V at C
  unfold f_X1_x at h
  show V 0 0 0 [(0, .ref 13)] [] LAY (M, L)
  refine x_run C e_X1_x_1 e_X1_x_1_k (pc' := 6) (lv' := [(0, .ref 13)]) (st' := [.int 16, .ref 1]) (σ' := (M, L)) rfl ⟨trivial, trivial, trivial, trivial⟩ ?_
  refine x_callV C (k := 1) (ci := 6) (rest := []) (avs := [.int 16]) (k_X8_has l 16 M L hI) yoX8_has ml_X1_63 rfl rfl rfl rfl ⟨Nat.zero_le _, Nat.zero_le _⟩ (show decode cX1_x 6 = .ok (.invokevirtual 63, 3) from by decide +kernel) rfl (fun v σ' hPo => ?_)
  obtain ⟨⟨rfl, rfl⟩, g2, hI3⟩ := hPo
  show V 0 0 9 [(0, .ref 13)] [.int (f_X8_has 16 M)] LAY (M, L)
  refine x_if_eq C (show decode cX1_x 9 = .ok (.ifCond .eq 7, 3) from by decide +kernel) (tgt := 16) (by decide) (fun c4 => ?_) (fun c4 => ?_)
  · rw [if_pos c4] at h
    have g5 : xrg 0 0 (f_X8_has 16 M) := (x_c_eq g2 (x_rgc (x := 0) (k := 0) (by decide)) c4).1
    refine x_run C e_X1_x_2 e_X1_x_2_k (pc' := 17) (lv' := [(0, .ref 13)]) (st' := [.int 0]) (σ' := (M, L)) rfl ⟨trivial, trivial⟩ ?_
    subst h
    exact x_iret C (show decode cX1_x 17 = .ok (.ireturn, 1) from by decide +kernel) (x_finI rfl ⟨⟨rfl, rfl⟩, (x_rgw (x_rgc (x := 0) (k := 0) (by decide)) (lo' := 0) (hi' := 1) (by decide) (by decide)), hI⟩) (Nat.le_refl 0) (Nat.le_refl 0)
  · rw [if_neg c4] at h
    have g6 : xrg 1 1 (f_X8_has 16 M) := (x_c_ne g2 (by decide) c4)
    refine x_run C e_X1_x_3 e_X1_x_3_k (pc' := 13) (lv' := [(0, .ref 13)]) (st' := [.int 1]) (σ' := (M, L)) rfl ⟨trivial, trivial⟩ ?_
    refine x_goto C (show decode cX1_x 13 = .ok (.goto 4, 3) from by decide +kernel) (tgt := 17) (by decide) ?_
    subst h
    exact x_iret C (show decode cX1_x 17 = .ok (.ireturn, 1) from by decide +kernel) (x_finI rfl ⟨⟨rfl, rfl⟩, (x_rgw (x_rgc (x := 1) (k := 1) (by decide)) (lo' := 0) (hi' := 1) (by decide) (by decide)), hI⟩) (Nat.le_refl 0) (Nat.le_refl 0)
-- X10_withoutSign
def e_X10_withoutSign_1 : List xI := [(0, .iload_n 0, 1, .null), (1, .i2l, 1, .null), (2, .lconst 1, 1, .long 1), (3, .bipush 8, 2, .int 8), (5, .iload_n 1, 1, .null), (6, .ishl, 1, .null), (7, .lshl, 1, .null), (8, .lconst 1, 1, .long 1), (9, .lsub, 1, .null), (10, .land, 1, .null)]
theorem e_X10_withoutSign_1_k : e_X10_withoutSign_1.all (fun q => xokB cX10_withoutSign q && xokL q) = true := by decide +kernel
abbrev P_X10_withoutSign (r : Int64) (M0 : St) (L : Nat → Nat → Int64) : Option Value → xG → Prop := fun v σ' => PoJ r M0 L v σ' ∧ True
abbrev R_X10_withoutSign : Room := { frames := 0, cells := 0, slots := 0, locals := 0 }
abbrev C_X10_withoutSign (l : Launch) (r : Int64) (M0 : St) (L : Nat → Nat → Int64) (V : XJ) : Prop := XC l yX10_withoutSign.cls yX10_withoutSign.name cX10_withoutSign 2 R_X10_withoutSign 0 0 fl_X10 kc_X10 LAY.length (xfin (some .long) LAY (P_X10_withoutSign r M0 L)) V
def f_X10_withoutSign (a1 : Int32) (a2 : Int32) : Int64 := (a1.toInt64 &&& ((1 <<< (((8 : Int32) <<< (a2 &&& 31)).toInt64 &&& 63)) - 1))
set_option maxRecDepth 20000 in
set_option maxHeartbeats 4000000 in
theorem k_X10_withoutSign (l : Launch) (a1 : Int32) (a2 : Int32) (M : St) (L : Nat → Nat → Int64) : XM l yX10_withoutSign cX10_withoutSign 2 (some .long) R_X10_withoutSign LAY [.int a1, .int a2] (M, L) (P_X10_withoutSign (f_X10_withoutSign a1 a2) M L) := by
  refine XM.of (by decide) (Nat.le_of_ble_eq_true rfl) LAY_in cl_ok fl_X10_ok kc_X10_ok (fun V C => ?_)
  obtain ⟨r, h⟩ : ∃ r, f_X10_withoutSign a1 a2 = r := ⟨_, rfl⟩
  rw [h] at C
  change C_X10_withoutSign l r M L V at C
  unfold f_X10_withoutSign at h
  show V 0 0 0 [(0, .int a1), (1, .int a2)] [] LAY (M, L)
  refine x_run C e_X10_withoutSign_1 e_X10_withoutSign_1_k (pc' := 11) (lv' := [(0, .int a1), (1, .int a2)]) (st' := [.long (a1.toInt64 &&& ((1 <<< (((8 : Int32) <<< (a2 &&& 31)).toInt64 &&& 63)) - 1))]) (σ' := (M, L)) rfl ⟨trivial, trivial, trivial, trivial, trivial, trivial, trivial, trivial, trivial, trivial, trivial⟩ ?_
  subst h
  exact x_lret C (show decode cX10_withoutSign 11 = .ok (.lreturn, 1) from by decide +kernel) (x_finJ ⟨⟨rfl, rfl⟩, trivial⟩) (Nat.le_refl 0) (Nat.le_refl 0)
-- X1_total
def e_X1_total_1 : List xI := [(0, .iload_n 1, 1, .null)]
theorem e_X1_total_1_k : e_X1_total_1.all (fun q => xokB cX1_total q && xokL q) = true := by decide +kernel
def e_X1_total_2 : List xI := [(11, .iconst 0, 1, .int 0)]
theorem e_X1_total_2_k : e_X1_total_2.all (fun q => xokB cX1_total q && xokL q) = true := by decide +kernel
def e_X1_total_3 : List xI := [(4, .aload_n 0, 1, .null)]
theorem e_X1_total_3_k : e_X1_total_3.all (fun q => xokB cX1_total q && xokL q) = true := by decide +kernel
def e_X1_total_4 : List xI := [(12, .istore 7, 2, .null), (14, .iload_n 2, 1, .null), (15, .iload 5, 2, .null)]
theorem e_X1_total_4_k : e_X1_total_4.all (fun q => xokB cX1_total q && xokL q) = true := by decide +kernel
def e_X1_total_5 : List xI := [(20, .iload 4, 2, .null), (22, .i2l, 1, .null), (23, .iload_n 3, 1, .null), (24, .iload 5, 2, .null)]
theorem e_X1_total_5_k : e_X1_total_5.all (fun q => xokB cX1_total q && xokL q) = true := by decide +kernel
def e_X1_total_6 : List xI := [(29, .iload 7, 2, .null), (31, .i2l, 1, .null), (32, .ladd, 1, .null), (33, .lmul, 1, .null), (34, .ladd, 1, .null), (35, .lstore 8, 2, .null), (37, .iload_n 2, 1, .null), (38, .iload 5, 2, .null)]
theorem e_X1_total_6_k : e_X1_total_6.all (fun q => xokB cX1_total q && xokL q) = true := by decide +kernel
def e_X1_total_7 : List xI := [(43, .i2l, 1, .null), (44, .iload 4, 2, .null), (46, .i2l, 1, .null), (47, .iload_n 3, 1, .null), (48, .iload 5, 2, .null)]
theorem e_X1_total_7_k : e_X1_total_7.all (fun q => xokB cX1_total q && xokL q) = true := by decide +kernel
def e_X1_total_8 : List xI := [(53, .i2l, 1, .null), (54, .iload 7, 2, .null), (56, .i2l, 1, .null), (57, .ladd, 1, .null), (58, .lmul, 1, .null), (59, .ladd, 1, .null), (60, .lstore 10, 2, .null), (62, .lload 8, 2, .null), (64, .l2i, 1, .null), (65, .iload 5, 2, .null)]
theorem e_X1_total_8_k : e_X1_total_8.all (fun q => xokB cX1_total q && xokL q) = true := by decide +kernel
def e_X1_total_9 : List xI := [(70, .iand, 1, .null), (71, .istore 12, 2, .null), (73, .lload 8, 2, .null), (75, .iload 12, 2, .null), (77, .iload 5, 2, .null)]
theorem e_X1_total_9_k : e_X1_total_9.all (fun q => xokB cX1_total q && xokL q) = true := by decide +kernel
def e_X1_total_10 : List xI := [(82, .lcmp, 1, .null)]
theorem e_X1_total_10_k : e_X1_total_10.all (fun q => xokB cX1_total q && xokL q) = true := by decide +kernel
def e_X1_total_11 : List xI := [(90, .iconst 0, 1, .int 0)]
theorem e_X1_total_11_k : e_X1_total_11.all (fun q => xokB cX1_total q && xokL q) = true := by decide +kernel
def e_X1_total_12 : List xI := [(86, .iconst 1, 1, .int 1)]
theorem e_X1_total_12_k : e_X1_total_12.all (fun q => xokB cX1_total q && xokL q) = true := by decide +kernel
def e_X1_total_13 : List xI := [(91, .istore 13, 2, .null), (93, .lload 10, 2, .null), (95, .iload 12, 2, .null), (97, .iload 5, 2, .null)]
theorem e_X1_total_13_k : e_X1_total_13.all (fun q => xokB cX1_total q && xokL q) = true := by decide +kernel
def e_X1_total_14 : List xI := [(102, .i2l, 1, .null), (103, .lcmp, 1, .null)]
theorem e_X1_total_14_k : e_X1_total_14.all (fun q => xokB cX1_total q && xokL q) = true := by decide +kernel
def e_X1_total_15 : List xI := [(111, .iconst 0, 1, .int 0)]
theorem e_X1_total_15_k : e_X1_total_15.all (fun q => xokB cX1_total q && xokL q) = true := by decide +kernel
def e_X1_total_16 : List xI := [(107, .iconst 1, 1, .int 1)]
theorem e_X1_total_16_k : e_X1_total_16.all (fun q => xokB cX1_total q && xokL q) = true := by decide +kernel
def e_X1_total_17 : List xI := [(112, .istore 14, 2, .null), (114, .iload_n 1, 1, .null)]
theorem e_X1_total_17_k : e_X1_total_17.all (fun q => xokB cX1_total q && xokL q) = true := by decide +kernel
def e_X1_total_18 : List xI := [(118, .iload 12, 2, .null)]
theorem e_X1_total_18_k : e_X1_total_18.all (fun q => xokB cX1_total q && xokL q) = true := by decide +kernel
def e_X1_total_19 : List xI := [(123, .iconst 4, 1, .int 4)]
theorem e_X1_total_19_k : e_X1_total_19.all (fun q => xokB cX1_total q && xokL q) = true := by decide +kernel
def e_X1_total_20 : List xI := [(127, .iconst 0, 1, .int 0)]
theorem e_X1_total_20_k : e_X1_total_20.all (fun q => xokB cX1_total q && xokL q) = true := by decide +kernel
def e_X1_total_21 : List xI := [(128, .istore 15, 2, .null), (130, .aload_n 0, 1, .null), (131, .getfield 9, 3, .null), (134, .iload 6, 2, .null), (136, .iload 15, 2, .null), (138, .iconst (-1), 1, .int (-1)), (139, .ixor, 1, .null), (140, .iand, 1, .null), (141, .iload 12, 2, .null), (143, .iload 5, 2, .null)]
theorem e_X1_total_21_k : e_X1_total_21.all (fun q => xokB cX1_total q && xokL q) = true := by decide +kernel
def e_X1_total_22 : List xI := [(148, .iload 13, 2, .null)]
theorem e_X1_total_22_k : e_X1_total_22.all (fun q => xokB cX1_total q && xokL q) = true := by decide +kernel
def e_X1_total_23 : List xI := [(158, .iconst 0, 1, .int 0)]
theorem e_X1_total_23_k : e_X1_total_23.all (fun q => xokB cX1_total q && xokL q) = true := by decide +kernel
def e_X1_total_24 : List xI := [(153, .bipush 17, 2, .int 17)]
theorem e_X1_total_24_k : e_X1_total_24.all (fun q => xokB cX1_total q && xokL q) = true := by decide +kernel
def e_X1_total_25 : List xI := [(159, .ior, 1, .null), (160, .iload 14, 2, .null)]
theorem e_X1_total_25_k : e_X1_total_25.all (fun q => xokB cX1_total q && xokL q) = true := by decide +kernel
def e_X1_total_26 : List xI := [(169, .iconst 0, 1, .int 0)]
theorem e_X1_total_26_k : e_X1_total_26.all (fun q => xokB cX1_total q && xokL q) = true := by decide +kernel
def e_X1_total_27 : List xI := [(165, .iconst 2, 1, .int 2)]
theorem e_X1_total_27_k : e_X1_total_27.all (fun q => xokB cX1_total q && xokL q) = true := by decide +kernel
def e_X1_total_28 : List xI := [(170, .ior, 1, .null)]
theorem e_X1_total_28_k : e_X1_total_28.all (fun q => xokB cX1_total q && xokL q) = true := by decide +kernel
def e_X1_total_29 : List xI := [(174, .iload 12, 2, .null)]
theorem e_X1_total_29_k : e_X1_total_29.all (fun q => xokB cX1_total q && xokL q) = true := by decide +kernel
abbrev P_X1_total (r : Int32 × St) (L : Nat → Nat → Int64) : Option Value → xG → Prop := fun v σ' => PoI r.1 r.2 L v σ' ∧ True ∧ InvK INVC r.2
abbrev R_X1_total : Room := { frames := 2, cells := 0, slots := 0, locals := 43 }
abbrev C_X1_total (l : Launch) (r : Int32 × St) (L : Nat → Nat → Int64) (V : XJ) : Prop := XC l yX1_total.cls yX1_total.name cX1_total 16 R_X1_total 0 0 fl_X1 kc_X1 LAY.length (xfin (some .int) LAY (P_X1_total r L)) V
def f_X1_total_170 (x12 : Int32) (s0 : Int32) (s1 : Int32) (s2 : Int32) (M : St) : Int32 × St := (xb (f_X8_changeFlags s2 (s1 ||| s0) M) fun q44 => (x12, q44))
def f_X1_total_159 (x12 : Int32) (x14 : Int32) (s0 : Int32) (s1 : Int32) (s2 : Int32) (M : St) : Int32 × St := (if x14 = 0 then f_X1_total_170 x12 0 (s1 ||| s0) s2 M else f_X1_total_170 x12 2 (s1 ||| s0) s2 M)
def f_X1_total_128 (x5 : Int32) (x6 : Int32) (x12 : Int32) (x13 : Int32) (x14 : Int32) (s0 : Int32) (M : St) : Int32 × St := (if x13 = 0 then f_X1_total_159 x12 x14 0 (f_X1_signs x12 x5) (x6 &&& (s0 ^^^ (-1))) M else f_X1_total_159 x12 x14 17 (f_X1_signs x12 x5) (x6 &&& (s0 ^^^ (-1))) M)
def f_X1_total_127 (x5 : Int32) (x6 : Int32) (x12 : Int32) (x13 : Int32) (x14 : Int32) (M : St) : Int32 × St := f_X1_total_128 x5 x6 x12 x13 x14 0 M
def f_X1_total_112 (x1 : Int32) (x5 : Int32) (x6 : Int32) (x12 : Int32) (x13 : Int32) (s0 : Int32) (M : St) : Int32 × St := (if x1 = 0 then f_X1_total_127 x5 x6 x12 x13 s0 M else (if x12 = 0 then f_X1_total_128 x5 x6 x12 x13 s0 4 M else f_X1_total_127 x5 x6 x12 x13 s0 M))
def f_X1_total_91 (x1 : Int32) (x5 : Int32) (x6 : Int32) (x10 : Int64) (x12 : Int32) (s0 : Int32) (M : St) : Int32 × St := (if (lg_cmp x10 (f_X10_extended x12 x5).toInt64) = 0 then f_X1_total_112 x1 x5 x6 x12 s0 0 M else f_X1_total_112 x1 x5 x6 x12 s0 1 M)
def f_X1_total_12 (x1 : Int32) (x2 : Int32) (x3 : Int32) (x4 : Int32) (x5 : Int32) (x6 : Int32) (s0 : Int32) (M : St) : Int32 × St := (xb (f_X10_withoutSign (((f_X10_withoutSign x2 x5) + (x4.toInt64 * ((f_X10_withoutSign x3 x5) + s0.toInt64))).toInt32 &&& (f_X10_maskOf x5)) x5) fun q21 => (if (lg_cmp ((f_X10_withoutSign x2 x5) + (x4.toInt64 * ((f_X10_withoutSign x3 x5) + s0.toInt64))) q21) = 0 then f_X1_total_91 x1 x5 x6 ((f_X10_extended x2 x5).toInt64 + (x4.toInt64 * ((f_X10_extended x3 x5).toInt64 + s0.toInt64))) (((f_X10_withoutSign x2 x5) + (x4.toInt64 * ((f_X10_withoutSign x3 x5) + s0.toInt64))).toInt32 &&& (f_X10_maskOf x5)) 0 M else f_X1_total_91 x1 x5 x6 ((f_X10_extended x2 x5).toInt64 + (x4.toInt64 * ((f_X10_extended x3 x5).toInt64 + s0.toInt64))) (((f_X10_withoutSign x2 x5) + (x4.toInt64 * ((f_X10_withoutSign x3 x5) + s0.toInt64))).toInt32 &&& (f_X10_maskOf x5)) 1 M))
def f_X1_total (a1 : Int32) (a2 : Int32) (a3 : Int32) (a4 : Int32) (a5 : Int32) (a6 : Int32) (M : St) : Int32 × St := (if a1 = 0 then f_X1_total_12 a1 a2 a3 a4 a5 a6 0 M else f_X1_total_12 a1 a2 a3 a4 a5 a6 (f_X1_x  M) M)
set_option maxRecDepth 20000 in
set_option maxHeartbeats 4000000 in
theorem b_X1_total_170 {l : Launch} {L : Nat → Nat → Int64} {V : XJ} (r : Int32 × St) (C : C_X1_total l r L V) (x12 : Int32) (s0 : Int32) (s1 : Int32) (s2 : Int32) (M : St) (ws0 : xrg 0 2 s0) (ws1 : xrg 0 31 s1) (hI : InvK INVC M) (h : f_X1_total_170 x12 s0 s1 s2 M = r) : V 0 0 170 [(12, .int x12)] [.int s0, .int s1, .int s2, .ref 1] LAY (M, L) := by
  unfold f_X1_total_170 at h
  refine x_run C e_X1_total_28 e_X1_total_28_k (pc' := 171) (lv' := [(12, .int x12)]) (st' := [.int (s1 ||| s0), .int s2, .ref 1]) (σ' := (M, L)) rfl ⟨trivial, trivial⟩ ?_
  refine x_callV C (k := 1) (ci := 6) (rest := []) (avs := [.int s2, .int (s1 ||| s0)]) (k_X8_changeFlags l s2 (s1 ||| s0) M L hI) yoX8_changeFlags ml_X1_19 rfl rfl rfl rfl ⟨Nat.zero_le _, Nat.zero_le _⟩ (show decode cX1_total 171 = .ok (.invokevirtual 19, 3) from by decide +kernel) rfl (fun v σ' hPo => ?_)
  obtain ⟨⟨rfl, rfl⟩, hI46⟩ := hPo
  generalize hq44 : f_X8_changeFlags s2 (s1 ||| s0) M = q44 at h hI46 ⊢
  have h := xb_eq h
  show V 0 0 174 [(12, .int x12)] [] LAY (q44, L)
  refine x_run C e_X1_total_29 e_X1_total_29_k (pc' := 176) (lv' := [(12, .int x12)]) (st' := [.int x12]) (σ' := (q44, L)) rfl ⟨trivial, trivial⟩ ?_
  subst h
  exact x_iret C (show decode cX1_total 176 = .ok (.ireturn, 1) from by decide +kernel) (x_finI rfl ⟨⟨rfl, rfl⟩, trivial, hI46⟩) (Nat.le_refl 0) (Nat.le_refl 0)
set_option maxRecDepth 20000 in
set_option maxHeartbeats 4000000 in
theorem b_X1_total_159 {l : Launch} {L : Nat → Nat → Int64} {V : XJ} (r : Int32 × St) (C : C_X1_total l r L V) (x12 : Int32) (x14 : Int32) (s0 : Int32) (s1 : Int32) (s2 : Int32) (M : St) (wx14 : xrg 0 1 x14) (ws0 : xrg 0 17 s0) (ws1 : xrg 0 15 s1) (hI : InvK INVC M) (h : f_X1_total_159 x12 x14 s0 s1 s2 M = r) : V 0 0 159 [(12, .int x12), (14, .int x14)] [.int s0, .int s1, .int s2, .ref 1] LAY (M, L) := by
  unfold f_X1_total_159 at h
  refine x_run C e_X1_total_25 e_X1_total_25_k (pc' := 162) (lv' := [(12, .int x12), (14, .int x14)]) (st' := [.int x14, .int (s1 ||| s0), .int s2, .ref 1]) (σ' := (M, L)) rfl ⟨trivial, trivial, trivial⟩ ?_
  refine x_if_eq C (show decode cX1_total 162 = .ok (.ifCond .eq 7, 3) from by decide +kernel) (tgt := 169) (by decide) (fun c41 => ?_) (fun c41 => ?_)
  · rw [if_pos c41] at h
    have g42 : xrg 0 0 x14 := (x_c_eq wx14 (x_rgc (x := 0) (k := 0) (by decide)) c41).1
    refine x_run C e_X1_total_26 e_X1_total_26_k (pc' := 170) (lv' := [(12, .int x12), (14, .int x14)]) (st' := [.int 0, .int (s1 ||| s0), .int s2, .ref 1]) (σ' := (M, L)) rfl ⟨trivial, trivial⟩ ?_
    refine x_lv C [0] rfl ?_
    exact b_X1_total_170 r C x12 0 (s1 ||| s0) s2 M (x_rgw (x_rgc (x := 0) (k := 0) (by decide)) (lo' := 0) (hi' := 2) (by decide) (by decide)) (x_rg_or 5 (by decide) ws1 ws0 (by decide) (by decide)) hI h
  · rw [if_neg c41] at h
    have g43 : xrg 1 1 x14 := (x_c_ne wx14 (by decide) c41)
    refine x_run C e_X1_total_27 e_X1_total_27_k (pc' := 166) (lv' := [(12, .int x12), (14, .int x14)]) (st' := [.int 2, .int (s1 ||| s0), .int s2, .ref 1]) (σ' := (M, L)) rfl ⟨trivial, trivial⟩ ?_
    refine x_goto C (show decode cX1_total 166 = .ok (.goto 4, 3) from by decide +kernel) (tgt := 170) (by decide) ?_
    refine x_lv C [0] rfl ?_
    exact b_X1_total_170 r C x12 2 (s1 ||| s0) s2 M (x_rgw (x_rgc (x := 2) (k := 2) (by decide)) (lo' := 0) (hi' := 2) (by decide) (by decide)) (x_rg_or 5 (by decide) ws1 ws0 (by decide) (by decide)) hI h
set_option maxRecDepth 20000 in
set_option maxHeartbeats 4000000 in
theorem b_X1_total_128 {l : Launch} {L : Nat → Nat → Int64} {V : XJ} (r : Int32 × St) (C : C_X1_total l r L V) (x5 : Int32) (x6 : Int32) (x12 : Int32) (x13 : Int32) (x14 : Int32) (s0 : Int32) (M : St) (wx13 : xrg 0 1 x13) (wx14 : xrg 0 1 x14) (ws0 : xrg 0 4 s0) (hI : InvK INVC M) (h : f_X1_total_128 x5 x6 x12 x13 x14 s0 M = r) : V 0 0 128 [(0, .ref 13), (5, .int x5), (6, .int x6), (12, .int x12), (13, .int x13), (14, .int x14)] [.int s0] LAY (M, L) := by
  unfold f_X1_total_128 at h
  refine x_run C e_X1_total_21 e_X1_total_21_k (pc' := 145) (lv' := [(15, .int s0), (0, .ref 13), (5, .int x5), (6, .int x6), (12, .int x12), (13, .int x13), (14, .int x14)]) (st' := [.int x5, .int x12, .int (x6 &&& (s0 ^^^ (-1))), .ref 1]) (σ' := (M, L)) rfl ⟨trivial, trivial, trivial, trivial, trivial, trivial, trivial, trivial, trivial, trivial, trivial⟩ ?_
  refine x_callS C (rest := [.int (x6 &&& (s0 ^^^ (-1))), .ref 1]) (avs := [.int x12, .int x5]) (k_X1_signs l x12 x5 M L) yoX1_signs ml_X1_15 rfl ⟨Nat.zero_le _, Nat.zero_le _⟩ (show decode cX1_total 145 = .ok (.invokestatic 15, 3) from by decide +kernel) rfl (fun v σ' hPo => ?_)
  obtain ⟨⟨rfl, rfl⟩, g36, -⟩ := hPo
  show V 0 0 148 [(15, .int s0), (0, .ref 13), (5, .int x5), (6, .int x6), (12, .int x12), (13, .int x13), (14, .int x14)] [.int (f_X1_signs x12 x5), .int (x6 &&& (s0 ^^^ (-1))), .ref 1] LAY (M, L)
  refine x_run C e_X1_total_22 e_X1_total_22_k (pc' := 150) (lv' := [(15, .int s0), (0, .ref 13), (5, .int x5), (6, .int x6), (12, .int x12), (13, .int x13), (14, .int x14)]) (st' := [.int x13, .int (f_X1_signs x12 x5), .int (x6 &&& (s0 ^^^ (-1))), .ref 1]) (σ' := (M, L)) rfl ⟨trivial, trivial⟩ ?_
  refine x_if_eq C (show decode cX1_total 150 = .ok (.ifCond .eq 8, 3) from by decide +kernel) (tgt := 158) (by decide) (fun c38 => ?_) (fun c38 => ?_)
  · rw [if_pos c38] at h
    have g39 : xrg 0 0 x13 := (x_c_eq wx13 (x_rgc (x := 0) (k := 0) (by decide)) c38).1
    refine x_run C e_X1_total_23 e_X1_total_23_k (pc' := 159) (lv' := [(15, .int s0), (0, .ref 13), (5, .int x5), (6, .int x6), (12, .int x12), (13, .int x13), (14, .int x14)]) (st' := [.int 0, .int (f_X1_signs x12 x5), .int (x6 &&& (s0 ^^^ (-1))), .ref 1]) (σ' := (M, L)) rfl ⟨trivial, trivial⟩ ?_
    refine x_lv C [4, 6] rfl ?_
    exact b_X1_total_159 r C x12 x14 0 (f_X1_signs x12 x5) (x6 &&& (s0 ^^^ (-1))) M wx14 (x_rgw (x_rgc (x := 0) (k := 0) (by decide)) (lo' := 0) (hi' := 17) (by decide) (by decide)) g36 hI h
  · rw [if_neg c38] at h
    have g40 : xrg 1 1 x13 := (x_c_ne wx13 (by decide) c38)
    refine x_run C e_X1_total_24 e_X1_total_24_k (pc' := 155) (lv' := [(15, .int s0), (0, .ref 13), (5, .int x5), (6, .int x6), (12, .int x12), (13, .int x13), (14, .int x14)]) (st' := [.int 17, .int (f_X1_signs x12 x5), .int (x6 &&& (s0 ^^^ (-1))), .ref 1]) (σ' := (M, L)) rfl ⟨trivial, trivial⟩ ?_
    refine x_goto C (show decode cX1_total 155 = .ok (.goto 4, 3) from by decide +kernel) (tgt := 159) (by decide) ?_
    refine x_lv C [4, 6] rfl ?_
    exact b_X1_total_159 r C x12 x14 17 (f_X1_signs x12 x5) (x6 &&& (s0 ^^^ (-1))) M wx14 (x_rgw (x_rgc (x := 17) (k := 17) (by decide)) (lo' := 0) (hi' := 17) (by decide) (by decide)) g36 hI h
set_option maxRecDepth 20000 in
set_option maxHeartbeats 4000000 in
theorem b_X1_total_127 {l : Launch} {L : Nat → Nat → Int64} {V : XJ} (r : Int32 × St) (C : C_X1_total l r L V) (x5 : Int32) (x6 : Int32) (x12 : Int32) (x13 : Int32) (x14 : Int32) (M : St) (wx13 : xrg 0 1 x13) (wx14 : xrg 0 1 x14) (hI : InvK INVC M) (h : f_X1_total_127 x5 x6 x12 x13 x14 M = r) : V 0 0 127 [(0, .ref 13), (5, .int x5), (6, .int x6), (12, .int x12), (13, .int x13), (14, .int x14)] [] LAY (M, L) := by
  unfold f_X1_total_127 at h
  refine x_run C e_X1_total_20 e_X1_total_20_k (pc' := 128) (lv' := [(0, .ref 13), (5, .int x5), (6, .int x6), (12, .int x12), (13, .int x13), (14, .int x14)]) (st' := [.int 0]) (σ' := (M, L)) rfl ⟨trivial, trivial⟩ ?_
  exact b_X1_total_128 r C x5 x6 x12 x13 x14 0 M wx13 wx14 (x_rgw (x_rgc (x := 0) (k := 0) (by decide)) (lo' := 0) (hi' := 4) (by decide) (by decide)) hI h
set_option maxRecDepth 20000 in
set_option maxHeartbeats 4000000 in
theorem b_X1_total_112 {l : Launch} {L : Nat → Nat → Int64} {V : XJ} (r : Int32 × St) (C : C_X1_total l r L V) (x1 : Int32) (x5 : Int32) (x6 : Int32) (x12 : Int32) (x13 : Int32) (s0 : Int32) (M : St) (wx13 : xrg 0 1 x13) (ws0 : xrg 0 1 s0) (hI : InvK INVC M) (h : f_X1_total_112 x1 x5 x6 x12 x13 s0 M = r) : V 0 0 112 [(0, .ref 13), (1, .int x1), (5, .int x5), (6, .int x6), (12, .int x12), (13, .int x13)] [.int s0] LAY (M, L) := by
  unfold f_X1_total_112 at h
  refine x_run C e_X1_total_17 e_X1_total_17_k (pc' := 115) (lv' := [(14, .int s0), (0, .ref 13), (1, .int x1), (5, .int x5), (6, .int x6), (12, .int x12), (13, .int x13)]) (st' := [.int x1]) (σ' := (M, L)) rfl ⟨trivial, trivial, trivial⟩ ?_
  refine x_if_eq C (show decode cX1_total 115 = .ok (.ifCond .eq 12, 3) from by decide +kernel) (tgt := 127) (by decide) (fun c31 => ?_) (fun c31 => ?_)
  · rw [if_pos c31] at h
    have g32 : xrg 0 0 x1 := (x_c_eq (x_rgt x1) (x_rgc (x := 0) (k := 0) (by decide)) c31).1
    refine x_lv C [1, 3, 4, 5, 6, 0] rfl ?_
    exact b_X1_total_127 r C x5 x6 x12 x13 s0 M wx13 ws0 hI h
  · rw [if_neg c31] at h
    refine x_run C e_X1_total_18 e_X1_total_18_k (pc' := 120) (lv' := [(14, .int s0), (0, .ref 13), (1, .int x1), (5, .int x5), (6, .int x6), (12, .int x12), (13, .int x13)]) (st' := [.int x12]) (σ' := (M, L)) rfl ⟨trivial, trivial⟩ ?_
    refine x_if_ne C (show decode cX1_total 120 = .ok (.ifCond .ne 7, 3) from by decide +kernel) (tgt := 127) (by decide) (fun c33 => ?_) (fun c33 => ?_)
    · rw [if_neg c33] at h
      refine x_lv C [1, 3, 4, 5, 6, 0] rfl ?_
      exact b_X1_total_127 r C x5 x6 x12 x13 s0 M wx13 ws0 hI h
    · rw [if_pos c33] at h
      have g34 : xrg 0 0 x12 := (x_c_eq (x_rgt x12) (x_rgc (x := 0) (k := 0) (by decide)) c33).1
      refine x_run C e_X1_total_19 e_X1_total_19_k (pc' := 124) (lv' := [(14, .int s0), (0, .ref 13), (1, .int x1), (5, .int x5), (6, .int x6), (12, .int x12), (13, .int x13)]) (st' := [.int 4]) (σ' := (M, L)) rfl ⟨trivial, trivial⟩ ?_
      refine x_goto C (show decode cX1_total 124 = .ok (.goto 4, 3) from by decide +kernel) (tgt := 128) (by decide) ?_
      refine x_lv C [1, 3, 4, 5, 6, 0] rfl ?_
      exact b_X1_total_128 r C x5 x6 x12 x13 s0 4 M wx13 ws0 (x_rgw (x_rgc (x := 4) (k := 4) (by decide)) (lo' := 0) (hi' := 4) (by decide) (by decide)) hI h
set_option maxRecDepth 20000 in
set_option maxHeartbeats 4000000 in
theorem b_X1_total_91 {l : Launch} {L : Nat → Nat → Int64} {V : XJ} (r : Int32 × St) (C : C_X1_total l r L V) (x1 : Int32) (x5 : Int32) (x6 : Int32) (x10 : Int64) (x12 : Int32) (s0 : Int32) (M : St) (ws0 : xrg 0 1 s0) (hI : InvK INVC M) (h : f_X1_total_91 x1 x5 x6 x10 x12 s0 M = r) : V 0 0 91 [(0, .ref 13), (1, .int x1), (5, .int x5), (6, .int x6), (10, .long x10), (12, .int x12)] [.int s0] LAY (M, L) := by
  unfold f_X1_total_91 at h
  refine x_run C e_X1_total_13 e_X1_total_13_k (pc' := 99) (lv' := [(13, .int s0), (0, .ref 13), (1, .int x1), (5, .int x5), (6, .int x6), (10, .long x10), (12, .int x12)]) (st' := [.int x5, .int x12, .long x10]) (σ' := (M, L)) rfl ⟨trivial, trivial, trivial, trivial, trivial⟩ ?_
  refine x_callSN C (rest := [.long x10]) (avs := [.int x12, .int x5]) (k_X10_extended l x12 x5 M L) yoX10_extended ml_X1_60 rfl ⟨Nat.zero_le _, Nat.zero_le _⟩ (show decode cX1_total 99 = .ok (.invokestatic 60, 3) from by decide +kernel) rfl (fun v σ' hPo => ?_)
  obtain ⟨⟨rfl, rfl⟩, g27, -⟩ := hPo
  show V 0 0 102 [(13, .int s0), (0, .ref 13), (1, .int x1), (5, .int x5), (6, .int x6), (10, .long x10), (12, .int x12)] [.int (f_X10_extended x12 x5), .long x10] LAY (M, L)
  refine x_run C e_X1_total_14 e_X1_total_14_k (pc' := 104) (lv' := [(13, .int s0), (0, .ref 13), (1, .int x1), (5, .int x5), (6, .int x6), (10, .long x10), (12, .int x12)]) (st' := [.int (lg_cmp x10 (f_X10_extended x12 x5).toInt64)]) (σ' := (M, L)) rfl ⟨trivial, trivial, trivial⟩ ?_
  refine x_if_eq C (show decode cX1_total 104 = .ok (.ifCond .eq 7, 3) from by decide +kernel) (tgt := 111) (by decide) (fun c29 => ?_) (fun c29 => ?_)
  · rw [if_pos c29] at h
    have g30 : xrg 0 0 (lg_cmp x10 (f_X10_extended x12 x5).toInt64) := (x_c_eq (x_rgt (lg_cmp x10 (f_X10_extended x12 x5).toInt64)) (x_rgc (x := 0) (k := 0) (by decide)) c29).1
    refine x_run C e_X1_total_15 e_X1_total_15_k (pc' := 112) (lv' := [(13, .int s0), (0, .ref 13), (1, .int x1), (5, .int x5), (6, .int x6), (10, .long x10), (12, .int x12)]) (st' := [.int 0]) (σ' := (M, L)) rfl ⟨trivial, trivial⟩ ?_
    refine x_lv C [1, 2, 3, 4, 6, 0] rfl ?_
    exact b_X1_total_112 r C x1 x5 x6 x12 s0 0 M ws0 (x_rgw (x_rgc (x := 0) (k := 0) (by decide)) (lo' := 0) (hi' := 1) (by decide) (by decide)) hI h
  · rw [if_neg c29] at h
    refine x_run C e_X1_total_16 e_X1_total_16_k (pc' := 108) (lv' := [(13, .int s0), (0, .ref 13), (1, .int x1), (5, .int x5), (6, .int x6), (10, .long x10), (12, .int x12)]) (st' := [.int 1]) (σ' := (M, L)) rfl ⟨trivial, trivial⟩ ?_
    refine x_goto C (show decode cX1_total 108 = .ok (.goto 4, 3) from by decide +kernel) (tgt := 112) (by decide) ?_
    refine x_lv C [1, 2, 3, 4, 6, 0] rfl ?_
    exact b_X1_total_112 r C x1 x5 x6 x12 s0 1 M ws0 (x_rgw (x_rgc (x := 1) (k := 1) (by decide)) (lo' := 0) (hi' := 1) (by decide) (by decide)) hI h
set_option maxRecDepth 20000 in
set_option maxHeartbeats 4000000 in
theorem b_X1_total_12 {l : Launch} {L : Nat → Nat → Int64} {V : XJ} (r : Int32 × St) (C : C_X1_total l r L V) (x1 : Int32) (x2 : Int32) (x3 : Int32) (x4 : Int32) (x5 : Int32) (x6 : Int32) (s0 : Int32) (M : St) (ws0 : xrg 0 1 s0) (hI : InvK INVC M) (h : f_X1_total_12 x1 x2 x3 x4 x5 x6 s0 M = r) : V 0 0 12 [(0, .ref 13), (1, .int x1), (2, .int x2), (3, .int x3), (4, .int x4), (5, .int x5), (6, .int x6)] [.int s0] LAY (M, L) := by
  unfold f_X1_total_12 at h
  refine x_run C e_X1_total_4 e_X1_total_4_k (pc' := 17) (lv' := [(7, .int s0), (0, .ref 13), (1, .int x1), (2, .int x2), (3, .int x3), (4, .int x4), (5, .int x5), (6, .int x6)]) (st' := [.int x5, .int x2]) (σ' := (M, L)) rfl ⟨trivial, trivial, trivial, trivial⟩ ?_
  refine x_callSN C (rest := []) (avs := [.int x2, .int x5]) (k_X10_withoutSign l x2 x5 M L) yoX10_withoutSign ml_X1_67 rfl ⟨Nat.zero_le _, Nat.zero_le _⟩ (show decode cX1_total 17 = .ok (.invokestatic 67, 3) from by decide +kernel) rfl (fun v σ' hPo => ?_)
  obtain ⟨⟨rfl, rfl⟩, -⟩ := hPo
  show V 0 0 20 [(7, .int s0), (0, .ref 13), (1, .int x1), (2, .int x2), (3, .int x3), (4, .int x4), (5, .int x5), (6, .int x6)] [.long (f_X10_withoutSign x2 x5)] LAY (M, L)
  refine x_run C e_X1_total_5 e_X1_total_5_k (pc' := 26) (lv' := [(7, .int s0), (0, .ref 13), (1, .int x1), (2, .int x2), (3, .int x3), (4, .int x4), (5, .int x5), (6, .int x6)]) (st' := [.int x5, .int x3, .long x4.toInt64, .long (f_X10_withoutSign x2 x5)]) (σ' := (M, L)) rfl ⟨trivial, trivial, trivial, trivial, trivial⟩ ?_
  refine x_callSN C (rest := [.long x4.toInt64, .long (f_X10_withoutSign x2 x5)]) (avs := [.int x3, .int x5]) (k_X10_withoutSign l x3 x5 M L) yoX10_withoutSign ml_X1_67 rfl ⟨Nat.zero_le _, Nat.zero_le _⟩ (show decode cX1_total 26 = .ok (.invokestatic 67, 3) from by decide +kernel) rfl (fun v σ' hPo => ?_)
  obtain ⟨⟨rfl, rfl⟩, -⟩ := hPo
  show V 0 0 29 [(7, .int s0), (0, .ref 13), (1, .int x1), (2, .int x2), (3, .int x3), (4, .int x4), (5, .int x5), (6, .int x6)] [.long (f_X10_withoutSign x3 x5), .long x4.toInt64, .long (f_X10_withoutSign x2 x5)] LAY (M, L)
  refine x_run C e_X1_total_6 e_X1_total_6_k (pc' := 40) (lv' := [(8, .long ((f_X10_withoutSign x2 x5) + (x4.toInt64 * ((f_X10_withoutSign x3 x5) + s0.toInt64)))), (7, .int s0), (0, .ref 13), (1, .int x1), (2, .int x2), (3, .int x3), (4, .int x4), (5, .int x5), (6, .int x6)]) (st' := [.int x5, .int x2]) (σ' := (M, L)) rfl ⟨trivial, trivial, trivial, trivial, trivial, trivial, trivial, trivial, trivial⟩ ?_
  refine x_callSN C (rest := []) (avs := [.int x2, .int x5]) (k_X10_extended l x2 x5 M L) yoX10_extended ml_X1_60 rfl ⟨Nat.zero_le _, Nat.zero_le _⟩ (show decode cX1_total 40 = .ok (.invokestatic 60, 3) from by decide +kernel) rfl (fun v σ' hPo => ?_)
  obtain ⟨⟨rfl, rfl⟩, g13, -⟩ := hPo
  show V 0 0 43 [(8, .long ((f_X10_withoutSign x2 x5) + (x4.toInt64 * ((f_X10_withoutSign x3 x5) + s0.toInt64)))), (7, .int s0), (0, .ref 13), (1, .int x1), (2, .int x2), (3, .int x3), (4, .int x4), (5, .int x5), (6, .int x6)] [.int (f_X10_extended x2 x5)] LAY (M, L)
  refine x_run C e_X1_total_7 e_X1_total_7_k (pc' := 50) (lv' := [(8, .long ((f_X10_withoutSign x2 x5) + (x4.toInt64 * ((f_X10_withoutSign x3 x5) + s0.toInt64)))), (7, .int s0), (0, .ref 13), (1, .int x1), (2, .int x2), (3, .int x3), (4, .int x4), (5, .int x5), (6, .int x6)]) (st' := [.int x5, .int x3, .long x4.toInt64, .long (f_X10_extended x2 x5).toInt64]) (σ' := (M, L)) rfl ⟨trivial, trivial, trivial, trivial, trivial, trivial⟩ ?_
  refine x_callSN C (rest := [.long x4.toInt64, .long (f_X10_extended x2 x5).toInt64]) (avs := [.int x3, .int x5]) (k_X10_extended l x3 x5 M L) yoX10_extended ml_X1_60 rfl ⟨Nat.zero_le _, Nat.zero_le _⟩ (show decode cX1_total 50 = .ok (.invokestatic 60, 3) from by decide +kernel) rfl (fun v σ' hPo => ?_)
  obtain ⟨⟨rfl, rfl⟩, g16, -⟩ := hPo
  show V 0 0 53 [(8, .long ((f_X10_withoutSign x2 x5) + (x4.toInt64 * ((f_X10_withoutSign x3 x5) + s0.toInt64)))), (7, .int s0), (0, .ref 13), (1, .int x1), (2, .int x2), (3, .int x3), (4, .int x4), (5, .int x5), (6, .int x6)] [.int (f_X10_extended x3 x5), .long x4.toInt64, .long (f_X10_extended x2 x5).toInt64] LAY (M, L)
  refine x_run C e_X1_total_8 e_X1_total_8_k (pc' := 67) (lv' := [(10, .long ((f_X10_extended x2 x5).toInt64 + (x4.toInt64 * ((f_X10_extended x3 x5).toInt64 + s0.toInt64)))), (8, .long ((f_X10_withoutSign x2 x5) + (x4.toInt64 * ((f_X10_withoutSign x3 x5) + s0.toInt64)))), (7, .int s0), (0, .ref 13), (1, .int x1), (2, .int x2), (3, .int x3), (4, .int x4), (5, .int x5), (6, .int x6)]) (st' := [.int x5, .int ((f_X10_withoutSign x2 x5) + (x4.toInt64 * ((f_X10_withoutSign x3 x5) + s0.toInt64))).toInt32]) (σ' := (M, L)) rfl ⟨trivial, trivial, trivial, trivial, trivial, trivial, trivial, trivial, trivial, trivial, trivial⟩ ?_
  refine x_callSN C (rest := [.int ((f_X10_withoutSign x2 x5) + (x4.toInt64 * ((f_X10_withoutSign x3 x5) + s0.toInt64))).toInt32]) (avs := [.int x5]) (k_X10_maskOf l x5 M L) yoX10_maskOf ml_X1_57 rfl ⟨Nat.zero_le _, Nat.zero_le _⟩ (show decode cX1_total 67 = .ok (.invokestatic 57, 3) from by decide +kernel) rfl (fun v σ' hPo => ?_)
  obtain ⟨⟨rfl, rfl⟩, g19, -⟩ := hPo
  show V 0 0 70 [(10, .long ((f_X10_extended x2 x5).toInt64 + (x4.toInt64 * ((f_X10_extended x3 x5).toInt64 + s0.toInt64)))), (8, .long ((f_X10_withoutSign x2 x5) + (x4.toInt64 * ((f_X10_withoutSign x3 x5) + s0.toInt64)))), (7, .int s0), (0, .ref 13), (1, .int x1), (2, .int x2), (3, .int x3), (4, .int x4), (5, .int x5), (6, .int x6)] [.int (f_X10_maskOf x5), .int ((f_X10_withoutSign x2 x5) + (x4.toInt64 * ((f_X10_withoutSign x3 x5) + s0.toInt64))).toInt32] LAY (M, L)
  refine x_run C e_X1_total_9 e_X1_total_9_k (pc' := 79) (lv' := [(12, .int (((f_X10_withoutSign x2 x5) + (x4.toInt64 * ((f_X10_withoutSign x3 x5) + s0.toInt64))).toInt32 &&& (f_X10_maskOf x5))), (10, .long ((f_X10_extended x2 x5).toInt64 + (x4.toInt64 * ((f_X10_extended x3 x5).toInt64 + s0.toInt64)))), (8, .long ((f_X10_withoutSign x2 x5) + (x4.toInt64 * ((f_X10_withoutSign x3 x5) + s0.toInt64)))), (7, .int s0), (0, .ref 13), (1, .int x1), (2, .int x2), (3, .int x3), (4, .int x4), (5, .int x5), (6, .int x6)]) (st' := [.int x5, .int (((f_X10_withoutSign x2 x5) + (x4.toInt64 * ((f_X10_withoutSign x3 x5) + s0.toInt64))).toInt32 &&& (f_X10_maskOf x5)), .long ((f_X10_withoutSign x2 x5) + (x4.toInt64 * ((f_X10_withoutSign x3 x5) + s0.toInt64)))]) (σ' := (M, L)) rfl ⟨trivial, trivial, trivial, trivial, trivial, trivial⟩ ?_
  refine x_callSN C (rest := [.long ((f_X10_withoutSign x2 x5) + (x4.toInt64 * ((f_X10_withoutSign x3 x5) + s0.toInt64)))]) (avs := [.int (((f_X10_withoutSign x2 x5) + (x4.toInt64 * ((f_X10_withoutSign x3 x5) + s0.toInt64))).toInt32 &&& (f_X10_maskOf x5)), .int x5]) (k_X10_withoutSign l (((f_X10_withoutSign x2 x5) + (x4.toInt64 * ((f_X10_withoutSign x3 x5) + s0.toInt64))).toInt32 &&& (f_X10_maskOf x5)) x5 M L) yoX10_withoutSign ml_X1_67 rfl ⟨Nat.zero_le _, Nat.zero_le _⟩ (show decode cX1_total 79 = .ok (.invokestatic 67, 3) from by decide +kernel) rfl (fun v σ' hPo => ?_)
  obtain ⟨⟨rfl, rfl⟩, -⟩ := hPo
  generalize hq21 : f_X10_withoutSign (((f_X10_withoutSign x2 x5) + (x4.toInt64 * ((f_X10_withoutSign x3 x5) + s0.toInt64))).toInt32 &&& (f_X10_maskOf x5)) x5 = q21 at h ⊢
  have h := xb_eq h
  show V 0 0 82 [(12, .int (((f_X10_withoutSign x2 x5) + (x4.toInt64 * ((f_X10_withoutSign x3 x5) + s0.toInt64))).toInt32 &&& (f_X10_maskOf x5))), (10, .long ((f_X10_extended x2 x5).toInt64 + (x4.toInt64 * ((f_X10_extended x3 x5).toInt64 + s0.toInt64)))), (8, .long ((f_X10_withoutSign x2 x5) + (x4.toInt64 * ((f_X10_withoutSign x3 x5) + s0.toInt64)))), (7, .int s0), (0, .ref 13), (1, .int x1), (2, .int x2), (3, .int x3), (4, .int x4), (5, .int x5), (6, .int x6)] [.long q21, .long ((f_X10_withoutSign x2 x5) + (x4.toInt64 * ((f_X10_withoutSign x3 x5) + s0.toInt64)))] LAY (M, L)
  refine x_run C e_X1_total_10 e_X1_total_10_k (pc' := 83) (lv' := [(12, .int (((f_X10_withoutSign x2 x5) + (x4.toInt64 * ((f_X10_withoutSign x3 x5) + s0.toInt64))).toInt32 &&& (f_X10_maskOf x5))), (10, .long ((f_X10_extended x2 x5).toInt64 + (x4.toInt64 * ((f_X10_extended x3 x5).toInt64 + s0.toInt64)))), (8, .long ((f_X10_withoutSign x2 x5) + (x4.toInt64 * ((f_X10_withoutSign x3 x5) + s0.toInt64)))), (7, .int s0), (0, .ref 13), (1, .int x1), (2, .int x2), (3, .int x3), (4, .int x4), (5, .int x5), (6, .int x6)]) (st' := [.int (lg_cmp ((f_X10_withoutSign x2 x5) + (x4.toInt64 * ((f_X10_withoutSign x3 x5) + s0.toInt64))) q21)]) (σ' := (M, L)) rfl ⟨trivial, trivial⟩ ?_
  refine x_if_eq C (show decode cX1_total 83 = .ok (.ifCond .eq 7, 3) from by decide +kernel) (tgt := 90) (by decide) (fun c24 => ?_) (fun c24 => ?_)
  · rw [if_pos c24] at h
    have g25 : xrg 0 0 (lg_cmp ((f_X10_withoutSign x2 x5) + (x4.toInt64 * ((f_X10_withoutSign x3 x5) + s0.toInt64))) q21) := (x_c_eq (x_rgt (lg_cmp ((f_X10_withoutSign x2 x5) + (x4.toInt64 * ((f_X10_withoutSign x3 x5) + s0.toInt64))) q21)) (x_rgc (x := 0) (k := 0) (by decide)) c24).1
    refine x_run C e_X1_total_11 e_X1_total_11_k (pc' := 91) (lv' := [(12, .int (((f_X10_withoutSign x2 x5) + (x4.toInt64 * ((f_X10_withoutSign x3 x5) + s0.toInt64))).toInt32 &&& (f_X10_maskOf x5))), (10, .long ((f_X10_extended x2 x5).toInt64 + (x4.toInt64 * ((f_X10_extended x3 x5).toInt64 + s0.toInt64)))), (8, .long ((f_X10_withoutSign x2 x5) + (x4.toInt64 * ((f_X10_withoutSign x3 x5) + s0.toInt64)))), (7, .int s0), (0, .ref 13), (1, .int x1), (2, .int x2), (3, .int x3), (4, .int x4), (5, .int x5), (6, .int x6)]) (st' := [.int 0]) (σ' := (M, L)) rfl ⟨trivial, trivial⟩ ?_
    refine x_lv C [4, 5, 9, 10, 1, 0] rfl ?_
    exact b_X1_total_91 r C x1 x5 x6 ((f_X10_extended x2 x5).toInt64 + (x4.toInt64 * ((f_X10_extended x3 x5).toInt64 + s0.toInt64))) (((f_X10_withoutSign x2 x5) + (x4.toInt64 * ((f_X10_withoutSign x3 x5) + s0.toInt64))).toInt32 &&& (f_X10_maskOf x5)) 0 M (x_rgw (x_rgc (x := 0) (k := 0) (by decide)) (lo' := 0) (hi' := 1) (by decide) (by decide)) hI h
  · rw [if_neg c24] at h
    refine x_run C e_X1_total_12 e_X1_total_12_k (pc' := 87) (lv' := [(12, .int (((f_X10_withoutSign x2 x5) + (x4.toInt64 * ((f_X10_withoutSign x3 x5) + s0.toInt64))).toInt32 &&& (f_X10_maskOf x5))), (10, .long ((f_X10_extended x2 x5).toInt64 + (x4.toInt64 * ((f_X10_extended x3 x5).toInt64 + s0.toInt64)))), (8, .long ((f_X10_withoutSign x2 x5) + (x4.toInt64 * ((f_X10_withoutSign x3 x5) + s0.toInt64)))), (7, .int s0), (0, .ref 13), (1, .int x1), (2, .int x2), (3, .int x3), (4, .int x4), (5, .int x5), (6, .int x6)]) (st' := [.int 1]) (σ' := (M, L)) rfl ⟨trivial, trivial⟩ ?_
    refine x_goto C (show decode cX1_total 87 = .ok (.goto 4, 3) from by decide +kernel) (tgt := 91) (by decide) ?_
    refine x_lv C [4, 5, 9, 10, 1, 0] rfl ?_
    exact b_X1_total_91 r C x1 x5 x6 ((f_X10_extended x2 x5).toInt64 + (x4.toInt64 * ((f_X10_extended x3 x5).toInt64 + s0.toInt64))) (((f_X10_withoutSign x2 x5) + (x4.toInt64 * ((f_X10_withoutSign x3 x5) + s0.toInt64))).toInt32 &&& (f_X10_maskOf x5)) 1 M (x_rgw (x_rgc (x := 1) (k := 1) (by decide)) (lo' := 0) (hi' := 1) (by decide) (by decide)) hI h
set_option maxRecDepth 20000 in
set_option maxHeartbeats 4000000 in
theorem k_X1_total (l : Launch) (a1 : Int32) (a2 : Int32) (a3 : Int32) (a4 : Int32) (a5 : Int32) (a6 : Int32) (M : St) (L : Nat → Nat → Int64) (hI : InvK INVC M) : XM l yX1_total cX1_total 16 (some .int) R_X1_total LAY [.ref 13, .int a1, .int a2, .int a3, .int a4, .int a5, .int a6] (M, L) (P_X1_total (f_X1_total a1 a2 a3 a4 a5 a6 M) L) := by
  refine XM.of (by decide) (Nat.le_of_ble_eq_true rfl) LAY_in cl_ok fl_X1_ok kc_X1_ok (fun V C => ?_)
  obtain ⟨r, h⟩ : ∃ r, f_X1_total a1 a2 a3 a4 a5 a6 M = r := ⟨_, rfl⟩
  rw [h] at C
  change C_X1_total l r L V at C
  unfold f_X1_total at h
  show V 0 0 0 [(0, .ref 13), (1, .int a1), (2, .int a2), (3, .int a3), (4, .int a4), (5, .int a5), (6, .int a6)] [] LAY (M, L)
  refine x_run C e_X1_total_1 e_X1_total_1_k (pc' := 1) (lv' := [(0, .ref 13), (1, .int a1), (2, .int a2), (3, .int a3), (4, .int a4), (5, .int a5), (6, .int a6)]) (st' := [.int a1]) (σ' := (M, L)) rfl ⟨trivial, trivial⟩ ?_
  refine x_if_eq C (show decode cX1_total 1 = .ok (.ifCond .eq 10, 3) from by decide +kernel) (tgt := 11) (by decide) (fun c1 => ?_) (fun c1 => ?_)
  · rw [if_pos c1] at h
    have g2 : xrg 0 0 a1 := (x_c_eq (x_rgt a1) (x_rgc (x := 0) (k := 0) (by decide)) c1).1
    refine x_run C e_X1_total_2 e_X1_total_2_k (pc' := 12) (lv' := [(0, .ref 13), (1, .int a1), (2, .int a2), (3, .int a3), (4, .int a4), (5, .int a5), (6, .int a6)]) (st' := [.int 0]) (σ' := (M, L)) rfl ⟨trivial, trivial⟩ ?_
    exact b_X1_total_12 r C a1 a2 a3 a4 a5 a6 0 M (x_rgw (x_rgc (x := 0) (k := 0) (by decide)) (lo' := 0) (hi' := 1) (by decide) (by decide)) hI h
  · rw [if_neg c1] at h
    refine x_run C e_X1_total_3 e_X1_total_3_k (pc' := 5) (lv' := [(0, .ref 13), (1, .int a1), (2, .int a2), (3, .int a3), (4, .int a4), (5, .int a5), (6, .int a6)]) (st' := [.ref 13]) (σ' := (M, L)) rfl ⟨trivial, trivial⟩ ?_
    refine x_callV C (k := 13) (ci := 0) (rest := []) (avs := []) (k_X1_x l  M L hI) yoX1_x ml_X1_54 rfl rfl rfl rfl ⟨Nat.zero_le _, Nat.zero_le _⟩ (show decode cX1_total 5 = .ok (.invokevirtual 54, 3) from by decide +kernel) rfl (fun v σ' hPo => ?_)
    obtain ⟨⟨rfl, rfl⟩, g4, hI5⟩ := hPo
    show V 0 0 8 [(0, .ref 13), (1, .int a1), (2, .int a2), (3, .int a3), (4, .int a4), (5, .int a5), (6, .int a6)] [.int (f_X1_x  M)] LAY (M, L)
    refine x_goto C (show decode cX1_total 8 = .ok (.goto 4, 3) from by decide +kernel) (tgt := 12) (by decide) ?_
    exact b_X1_total_12 r C a1 a2 a3 a4 a5 a6 (f_X1_x  M) M g4 hI h
-- X1_settledInTens
def e_X1_settledInTens_1 : List xI := [(0, .iload_n 1, 1, .null), (1, .sipush 255, 3, .int 255), (4, .iand, 1, .null), (5, .istore_n 3, 1, .null), (6, .iload_n 3, 1, .null)]
theorem e_X1_settledInTens_1_k : e_X1_settledInTens_1.all (fun q => xokB cX1_settledInTens q && xokL q) = true := by decide +kernel
def e_X1_settledInTens_2 : List xI := [(15, .bipush 31, 2, .int 31)]
theorem e_X1_settledInTens_2_k : e_X1_settledInTens_2.all (fun q => xokB cX1_settledInTens q && xokL q) = true := by decide +kernel
def e_X1_settledInTens_3 : List xI := [(10, .bipush 27, 2, .int 27)]
theorem e_X1_settledInTens_3_k : e_X1_settledInTens_3.all (fun q => xokB cX1_settledInTens q && xokL q) = true := by decide +kernel
def e_X1_settledInTens_4 : List xI := [(17, .istore 4, 2, .null), (19, .aload_n 0, 1, .null), (20, .getfield 9, 3, .null), (23, .iload 4, 2, .null), (25, .iload_n 3, 1, .null), (26, .sipush 128, 3, .int 128), (29, .iand, 1, .null)]
theorem e_X1_settledInTens_4_k : e_X1_settledInTens_4.all (fun q => xokB cX1_settledInTens q && xokL q) = true := by decide +kernel
def e_X1_settledInTens_5 : List xI := [(38, .iconst 0, 1, .int 0)]
theorem e_X1_settledInTens_5_k : e_X1_settledInTens_5.all (fun q => xokB cX1_settledInTens q && xokL q) = true := by decide +kernel
def e_X1_settledInTens_6 : List xI := [(33, .bipush 8, 2, .int 8)]
theorem e_X1_settledInTens_6_k : e_X1_settledInTens_6.all (fun q => xokB cX1_settledInTens q && xokL q) = true := by decide +kernel
def e_X1_settledInTens_7 : List xI := [(39, .iload_n 2, 1, .null)]
theorem e_X1_settledInTens_7_k : e_X1_settledInTens_7.all (fun q => xokB cX1_settledInTens q && xokL q) = true := by decide +kernel
def e_X1_settledInTens_8 : List xI := [(48, .iconst 0, 1, .int 0)]
theorem e_X1_settledInTens_8_k : e_X1_settledInTens_8.all (fun q => xokB cX1_settledInTens q && xokL q) = true := by decide +kernel
def e_X1_settledInTens_9 : List xI := [(43, .bipush 17, 2, .int 17)]
theorem e_X1_settledInTens_9_k : e_X1_settledInTens_9.all (fun q => xokB cX1_settledInTens q && xokL q) = true := by decide +kernel
def e_X1_settledInTens_10 : List xI := [(49, .ior, 1, .null)]
theorem e_X1_settledInTens_10_k : e_X1_settledInTens_10.all (fun q => xokB cX1_settledInTens q && xokL q) = true := by decide +kernel
def e_X1_settledInTens_11 : List xI := [(53, .iload_n 3, 1, .null)]
theorem e_X1_settledInTens_11_k : e_X1_settledInTens_11.all (fun q => xokB cX1_settledInTens q && xokL q) = true := by decide +kernel
abbrev P_X1_settledInTens (r : Int32 × St) (L : Nat → Nat → Int64) : Option Value → xG → Prop := fun v σ' => PoI r.1 r.2 L v σ' ∧ xrg 0 255 r.1 ∧ InvK INVC r.2
abbrev R_X1_settledInTens : Room := { frames := 1, cells := 0, slots := 0, locals := 22 }
abbrev C_X1_settledInTens (l : Launch) (r : Int32 × St) (L : Nat → Nat → Int64) (V : XJ) : Prop := XC l yX1_settledInTens.cls yX1_settledInTens.name cX1_settledInTens 5 R_X1_settledInTens 0 0 fl_X1 kc_X1 LAY.length (xfin (some .int) LAY (P_X1_settledInTens r L)) V
def f_X1_settledInTens_49 (x3 : Int32) (s0 : Int32) (s1 : Int32) (s2 : Int32) (M : St) : Int32 × St := (xb (f_X8_changeFlags s2 (s1 ||| s0) M) fun q9 => (x3, q9))
def f_X1_settledInTens_39 (x2 : Int32) (x3 : Int32) (s0 : Int32) (s1 : Int32) (M : St) : Int32 × St := (if x2 = 0 then f_X1_settledInTens_49 x3 0 s0 s1 M else f_X1_settledInTens_49 x3 17 s0 s1 M)
def f_X1_settledInTens_17 (x2 : Int32) (x3 : Int32) (s0 : Int32) (M : St) : Int32 × St := (if (x3 &&& 128) = 0 then f_X1_settledInTens_39 x2 x3 0 s0 M else f_X1_settledInTens_39 x2 x3 8 s0 M)
def f_X1_settledInTens (a1 : Int32) (a2 : Int32) (M : St) : Int32 × St := (if (a1 &&& 255) = 0 then f_X1_settledInTens_17 a2 (a1 &&& 255) 27 M else f_X1_settledInTens_17 a2 (a1 &&& 255) 31 M)
set_option maxRecDepth 20000 in
set_option maxHeartbeats 4000000 in
theorem b_X1_settledInTens_49 {l : Launch} {L : Nat → Nat → Int64} {V : XJ} (r : Int32 × St) (C : C_X1_settledInTens l r L V) (x3 : Int32) (s0 : Int32) (s1 : Int32) (s2 : Int32) (M : St) (wx3 : xrg 0 255 x3) (ws0 : xrg 0 17 s0) (ws1 : xrg 0 8 s1) (ws2 : xrg 27 31 s2) (hI : InvK INVC M) (h : f_X1_settledInTens_49 x3 s0 s1 s2 M = r) : V 0 0 49 [(3, .int x3)] [.int s0, .int s1, .int s2, .ref 1] LAY (M, L) := by
  unfold f_X1_settledInTens_49 at h
  refine x_run C e_X1_settledInTens_10 e_X1_settledInTens_10_k (pc' := 50) (lv' := [(3, .int x3)]) (st' := [.int (s1 ||| s0), .int s2, .ref 1]) (σ' := (M, L)) rfl ⟨trivial, trivial⟩ ?_
  refine x_callV C (k := 1) (ci := 6) (rest := []) (avs := [.int s2, .int (s1 ||| s0)]) (k_X8_changeFlags l s2 (s1 ||| s0) M L hI) yoX8_changeFlags ml_X1_19 rfl rfl rfl rfl ⟨Nat.zero_le _, Nat.zero_le _⟩ (show decode cX1_settledInTens 50 = .ok (.invokevirtual 19, 3) from by decide +kernel) rfl (fun v σ' hPo => ?_)
  obtain ⟨⟨rfl, rfl⟩, hI11⟩ := hPo
  generalize hq9 : f_X8_changeFlags s2 (s1 ||| s0) M = q9 at h hI11 ⊢
  have h := xb_eq h
  show V 0 0 53 [(3, .int x3)] [] LAY (q9, L)
  refine x_run C e_X1_settledInTens_11 e_X1_settledInTens_11_k (pc' := 54) (lv' := [(3, .int x3)]) (st' := [.int x3]) (σ' := (q9, L)) rfl ⟨trivial, trivial⟩ ?_
  subst h
  exact x_iret C (show decode cX1_settledInTens 54 = .ok (.ireturn, 1) from by decide +kernel) (x_finI rfl ⟨⟨rfl, rfl⟩, wx3, hI11⟩) (Nat.le_refl 0) (Nat.le_refl 0)
set_option maxRecDepth 20000 in
set_option maxHeartbeats 4000000 in
theorem b_X1_settledInTens_39 {l : Launch} {L : Nat → Nat → Int64} {V : XJ} (r : Int32 × St) (C : C_X1_settledInTens l r L V) (x2 : Int32) (x3 : Int32) (s0 : Int32) (s1 : Int32) (M : St) (wx3 : xrg 0 255 x3) (ws0 : xrg 0 8 s0) (ws1 : xrg 27 31 s1) (hI : InvK INVC M) (h : f_X1_settledInTens_39 x2 x3 s0 s1 M = r) : V 0 0 39 [(2, .int x2), (3, .int x3)] [.int s0, .int s1, .ref 1] LAY (M, L) := by
  unfold f_X1_settledInTens_39 at h
  refine x_run C e_X1_settledInTens_7 e_X1_settledInTens_7_k (pc' := 40) (lv' := [(2, .int x2), (3, .int x3)]) (st' := [.int x2, .int s0, .int s1, .ref 1]) (σ' := (M, L)) rfl ⟨trivial, trivial⟩ ?_
  refine x_if_eq C (show decode cX1_settledInTens 40 = .ok (.ifCond .eq 8, 3) from by decide +kernel) (tgt := 48) (by decide) (fun c7 => ?_) (fun c7 => ?_)
  · rw [if_pos c7] at h
    have g8 : xrg 0 0 x2 := (x_c_eq (x_rgt x2) (x_rgc (x := 0) (k := 0) (by decide)) c7).1
    refine x_run C e_X1_settledInTens_8 e_X1_settledInTens_8_k (pc' := 49) (lv' := [(2, .int x2), (3, .int x3)]) (st' := [.int 0, .int s0, .int s1, .ref 1]) (σ' := (M, L)) rfl ⟨trivial, trivial⟩ ?_
    refine x_lv C [1] rfl ?_
    exact b_X1_settledInTens_49 r C x3 0 s0 s1 M wx3 (x_rgw (x_rgc (x := 0) (k := 0) (by decide)) (lo' := 0) (hi' := 17) (by decide) (by decide)) ws0 ws1 hI h
  · rw [if_neg c7] at h
    refine x_run C e_X1_settledInTens_9 e_X1_settledInTens_9_k (pc' := 45) (lv' := [(2, .int x2), (3, .int x3)]) (st' := [.int 17, .int s0, .int s1, .ref 1]) (σ' := (M, L)) rfl ⟨trivial, trivial⟩ ?_
    refine x_goto C (show decode cX1_settledInTens 45 = .ok (.goto 4, 3) from by decide +kernel) (tgt := 49) (by decide) ?_
    refine x_lv C [1] rfl ?_
    exact b_X1_settledInTens_49 r C x3 17 s0 s1 M wx3 (x_rgw (x_rgc (x := 17) (k := 17) (by decide)) (lo' := 0) (hi' := 17) (by decide) (by decide)) ws0 ws1 hI h
set_option maxRecDepth 20000 in
set_option maxHeartbeats 4000000 in
theorem b_X1_settledInTens_17 {l : Launch} {L : Nat → Nat → Int64} {V : XJ} (r : Int32 × St) (C : C_X1_settledInTens l r L V) (x2 : Int32) (x3 : Int32) (s0 : Int32) (M : St) (wx3 : xrg 0 255 x3) (ws0 : xrg 27 31 s0) (hI : InvK INVC M) (h : f_X1_settledInTens_17 x2 x3 s0 M = r) : V 0 0 17 [(0, .ref 13), (2, .int x2), (3, .int x3)] [.int s0] LAY (M, L) := by
  unfold f_X1_settledInTens_17 at h
  refine x_run C e_X1_settledInTens_4 e_X1_settledInTens_4_k (pc' := 30) (lv' := [(4, .int s0), (0, .ref 13), (2, .int x2), (3, .int x3)]) (st' := [.int (x3 &&& 128), .int s0, .ref 1]) (σ' := (M, L)) rfl ⟨trivial, trivial, trivial, trivial, trivial, trivial, trivial, trivial⟩ ?_
  refine x_if_eq C (show decode cX1_settledInTens 30 = .ok (.ifCond .eq 8, 3) from by decide +kernel) (tgt := 38) (by decide) (fun c4 => ?_) (fun c4 => ?_)
  · rw [if_pos c4] at h
    have g5 : xrg 0 0 (x3 &&& 128) := (x_c_eq (x_rg_and (x := x3) (m := 128) (k := 128) (by decide) (by decide)) (x_rgc (x := 0) (k := 0) (by decide)) c4).1
    refine x_run C e_X1_settledInTens_5 e_X1_settledInTens_5_k (pc' := 39) (lv' := [(4, .int s0), (0, .ref 13), (2, .int x2), (3, .int x3)]) (st' := [.int 0, .int s0, .ref 1]) (σ' := (M, L)) rfl ⟨trivial, trivial⟩ ?_
    refine x_lv C [2, 3] rfl ?_
    exact b_X1_settledInTens_39 r C x2 x3 0 s0 M wx3 (x_rgw (x_rgc (x := 0) (k := 0) (by decide)) (lo' := 0) (hi' := 8) (by decide) (by decide)) ws0 hI h
  · rw [if_neg c4] at h
    have g6 : xrg 1 128 (x3 &&& 128) := (x_c_ne (x_rg_and (x := x3) (m := 128) (k := 128) (by decide) (by decide)) (by decide) c4)
    refine x_run C e_X1_settledInTens_6 e_X1_settledInTens_6_k (pc' := 35) (lv' := [(4, .int s0), (0, .ref 13), (2, .int x2), (3, .int x3)]) (st' := [.int 8, .int s0, .ref 1]) (σ' := (M, L)) rfl ⟨trivial, trivial⟩ ?_
    refine x_goto C (show decode cX1_settledInTens 35 = .ok (.goto 4, 3) from by decide +kernel) (tgt := 39) (by decide) ?_
    refine x_lv C [2, 3] rfl ?_
    exact b_X1_settledInTens_39 r C x2 x3 8 s0 M wx3 (x_rgw (x_rgc (x := 8) (k := 8) (by decide)) (lo' := 0) (hi' := 8) (by decide) (by decide)) ws0 hI h
set_option maxRecDepth 20000 in
set_option maxHeartbeats 4000000 in
theorem k_X1_settledInTens (l : Launch) (a1 : Int32) (a2 : Int32) (M : St) (L : Nat → Nat → Int64) (hI : InvK INVC M) : XM l yX1_settledInTens cX1_settledInTens 5 (some .int) R_X1_settledInTens LAY [.ref 13, .int a1, .int a2] (M, L) (P_X1_settledInTens (f_X1_settledInTens a1 a2 M) L) := by
  refine XM.of (by decide) (Nat.le_of_ble_eq_true rfl) LAY_in cl_ok fl_X1_ok kc_X1_ok (fun V C => ?_)
  obtain ⟨r, h⟩ : ∃ r, f_X1_settledInTens a1 a2 M = r := ⟨_, rfl⟩
  rw [h] at C
  change C_X1_settledInTens l r L V at C
  unfold f_X1_settledInTens at h
  show V 0 0 0 [(0, .ref 13), (1, .int a1), (2, .int a2)] [] LAY (M, L)
  refine x_run C e_X1_settledInTens_1 e_X1_settledInTens_1_k (pc' := 7) (lv' := [(3, .int (a1 &&& 255)), (0, .ref 13), (1, .int a1), (2, .int a2)]) (st' := [.int (a1 &&& 255)]) (σ' := (M, L)) rfl ⟨trivial, trivial, trivial, trivial, trivial, trivial⟩ ?_
  refine x_if_ne C (show decode cX1_settledInTens 7 = .ok (.ifCond .ne 8, 3) from by decide +kernel) (tgt := 15) (by decide) (fun c1 => ?_) (fun c1 => ?_)
  · rw [if_neg c1] at h
    have g2 : xrg 1 255 (a1 &&& 255) := (x_c_ne (x_rg_and (x := a1) (m := 255) (k := 255) (by decide) (by decide)) (by decide) c1)
    refine x_run C e_X1_settledInTens_2 e_X1_settledInTens_2_k (pc' := 17) (lv' := [(3, .int (a1 &&& 255)), (0, .ref 13), (1, .int a1), (2, .int a2)]) (st' := [.int 31]) (σ' := (M, L)) rfl ⟨trivial, trivial⟩ ?_
    refine x_lv C [1, 3, 0] rfl ?_
    exact b_X1_settledInTens_17 r C a2 (a1 &&& 255) 31 M (x_rgw g2 (lo' := 0) (hi' := 255) (by decide) (by decide)) (x_rgw (x_rgc (x := 31) (k := 31) (by decide)) (lo' := 27) (hi' := 31) (by decide) (by decide)) hI h
  · rw [if_pos c1] at h
    have g3 : xrg 0 0 (a1 &&& 255) := (x_c_eq (x_rg_and (x := a1) (m := 255) (k := 255) (by decide) (by decide)) (x_rgc (x := 0) (k := 0) (by decide)) c1).1
    refine x_run C e_X1_settledInTens_3 e_X1_settledInTens_3_k (pc' := 12) (lv' := [(3, .int (a1 &&& 255)), (0, .ref 13), (1, .int a1), (2, .int a2)]) (st' := [.int 27]) (σ' := (M, L)) rfl ⟨trivial, trivial⟩ ?_
    refine x_goto C (show decode cX1_settledInTens 12 = .ok (.goto 5, 3) from by decide +kernel) (tgt := 17) (by decide) ?_
    refine x_lv C [1, 3, 0] rfl ?_
    exact b_X1_settledInTens_17 r C a2 (a1 &&& 255) 27 M (x_rgw g3 (lo' := 0) (hi' := 255) (by decide) (by decide)) (x_rgw (x_rgc (x := 27) (k := 27) (by decide)) (lo' := 27) (hi' := 31) (by decide) (by decide)) hI h
-- X1_addedInTens
def e_X1_addedInTens_1 : List xI := [(0, .iload_n 2, 1, .null), (1, .bipush 15, 2, .int 15), (3, .iand, 1, .null), (4, .iload_n 1, 1, .null), (5, .bipush 15, 2, .int 15), (7, .iand, 1, .null), (8, .iadd, 1, .null), (9, .aload_n 0, 1, .null)]
theorem e_X1_addedInTens_1_k : e_X1_addedInTens_1.all (fun q => xokB cX1_addedInTens q && xokL q) = true := by decide +kernel
def e_X1_addedInTens_2 : List xI := [(13, .iadd, 1, .null), (14, .istore_n 3, 1, .null), (15, .iload_n 3, 1, .null), (16, .iload_n 3, 1, .null), (17, .bipush 9, 2, .int 9)]
theorem e_X1_addedInTens_2_k : e_X1_addedInTens_2.all (fun q => xokB cX1_addedInTens q && xokL q) = true := by decide +kernel
def e_X1_addedInTens_3 : List xI := [(27, .iconst 0, 1, .int 0)]
theorem e_X1_addedInTens_3_k : e_X1_addedInTens_3.all (fun q => xokB cX1_addedInTens q && xokL q) = true := by decide +kernel
def e_X1_addedInTens_4 : List xI := [(22, .bipush 6, 2, .int 6)]
theorem e_X1_addedInTens_4_k : e_X1_addedInTens_4.all (fun q => xokB cX1_addedInTens q && xokL q) = true := by decide +kernel
def e_X1_addedInTens_5 : List xI := [(28, .iadd, 1, .null), (29, .istore_n 3, 1, .null), (30, .iload_n 3, 1, .null), (31, .iload_n 2, 1, .null), (32, .sipush 240, 3, .int 240), (35, .iand, 1, .null), (36, .iload_n 1, 1, .null), (37, .sipush 240, 3, .int 240), (40, .iand, 1, .null), (41, .iadd, 1, .null), (42, .iadd, 1, .null), (43, .istore_n 3, 1, .null), (44, .iload_n 3, 1, .null), (45, .sipush 159, 3, .int 159)]
theorem e_X1_addedInTens_5_k : e_X1_addedInTens_5.all (fun q => xokB cX1_addedInTens q && xokL q) = true := by decide +kernel
def e_X1_addedInTens_6 : List xI := [(55, .iconst 0, 1, .int 0)]
theorem e_X1_addedInTens_6_k : e_X1_addedInTens_6.all (fun q => xokB cX1_addedInTens q && xokL q) = true := by decide +kernel
def e_X1_addedInTens_7 : List xI := [(51, .iconst 1, 1, .int 1)]
theorem e_X1_addedInTens_7_k : e_X1_addedInTens_7.all (fun q => xokB cX1_addedInTens q && xokL q) = true := by decide +kernel
def e_X1_addedInTens_8 : List xI := [(56, .istore 4, 2, .null), (58, .aload_n 0, 1, .null), (59, .iload 4, 2, .null)]
theorem e_X1_addedInTens_8_k : e_X1_addedInTens_8.all (fun q => xokB cX1_addedInTens q && xokL q) = true := by decide +kernel
def e_X1_addedInTens_9 : List xI := [(71, .iload_n 3, 1, .null)]
theorem e_X1_addedInTens_9_k : e_X1_addedInTens_9.all (fun q => xokB cX1_addedInTens q && xokL q) = true := by decide +kernel
def e_X1_addedInTens_10 : List xI := [(64, .iload_n 3, 1, .null), (65, .bipush 96, 2, .int 96), (67, .iadd, 1, .null)]
theorem e_X1_addedInTens_10_k : e_X1_addedInTens_10.all (fun q => xokB cX1_addedInTens q && xokL q) = true := by decide +kernel
def e_X1_addedInTens_11 : List xI := [(72, .iload 4, 2, .null)]
theorem e_X1_addedInTens_11_k : e_X1_addedInTens_11.all (fun q => xokB cX1_addedInTens q && xokL q) = true := by decide +kernel
abbrev P_X1_addedInTens (r : Int32 × St) (L : Nat → Nat → Int64) : Option Value → xG → Prop := fun v σ' => PoI r.1 r.2 L v σ' ∧ xrg 0 255 r.1 ∧ InvK INVC r.2
abbrev R_X1_addedInTens : Room := { frames := 2, cells := 0, slots := 0, locals := 46 }
abbrev C_X1_addedInTens (l : Launch) (r : Int32 × St) (L : Nat → Nat → Int64) (V : XJ) : Prop := XC l yX1_addedInTens.cls yX1_addedInTens.name cX1_addedInTens 5 R_X1_addedInTens 0 0 fl_X1 kc_X1 LAY.length (xfin (some .int) LAY (P_X1_addedInTens r L)) V
def f_X1_addedInTens_72 (x4 : Int32) (s0 : Int32) (M : St) : Int32 × St := (xb (f_X1_settledInTens s0 x4 M) fun q13 => (q13.1, q13.2))
def f_X1_addedInTens_56 (x3 : Int32) (s0 : Int32) (M : St) : Int32 × St := (if s0 = 0 then f_X1_addedInTens_72 s0 x3 M else f_X1_addedInTens_72 s0 (x3 + 96) M)
def f_X1_addedInTens_28 (x1 : Int32) (x2 : Int32) (s0 : Int32) (s1 : Int32) (M : St) : Int32 × St := (if ((s1 + s0) + ((x2 &&& 240) + (x1 &&& 240))) ≤ 159 then f_X1_addedInTens_56 ((s1 + s0) + ((x2 &&& 240) + (x1 &&& 240))) 0 M else f_X1_addedInTens_56 ((s1 + s0) + ((x2 &&& 240) + (x1 &&& 240))) 1 M)
def f_X1_addedInTens (a1 : Int32) (a2 : Int32) (M : St) : Int32 × St := (if (((a2 &&& 15) + (a1 &&& 15)) + (f_X1_x  M)) ≤ 9 then f_X1_addedInTens_28 a1 a2 0 (((a2 &&& 15) + (a1 &&& 15)) + (f_X1_x  M)) M else f_X1_addedInTens_28 a1 a2 6 (((a2 &&& 15) + (a1 &&& 15)) + (f_X1_x  M)) M)
set_option maxRecDepth 20000 in
set_option maxHeartbeats 4000000 in
theorem b_X1_addedInTens_72 {l : Launch} {L : Nat → Nat → Int64} {V : XJ} (r : Int32 × St) (C : C_X1_addedInTens l r L V) (x4 : Int32) (s0 : Int32) (M : St) (wx4 : xrg 0 1 x4) (ws0 : xrg 0 613 s0) (hI : InvK INVC M) (h : f_X1_addedInTens_72 x4 s0 M = r) : V 0 0 72 [(4, .int x4)] [.int s0, .ref 13] LAY (M, L) := by
  unfold f_X1_addedInTens_72 at h
  refine x_run C e_X1_addedInTens_11 e_X1_addedInTens_11_k (pc' := 74) (lv' := [(4, .int x4)]) (st' := [.int x4, .int s0, .ref 13]) (σ' := (M, L)) rfl ⟨trivial, trivial⟩ ?_
  refine x_callV C (k := 13) (ci := 0) (rest := []) (avs := [.int s0, .int x4]) (k_X1_settledInTens l s0 x4 M L hI) yoX1_settledInTens ml_X1_71 rfl rfl rfl rfl ⟨Nat.zero_le _, Nat.zero_le _⟩ (show decode cX1_addedInTens 74 = .ok (.invokevirtual 71, 3) from by decide +kernel) rfl (fun v σ' hPo => ?_)
  obtain ⟨⟨rfl, rfl⟩, g14, hI15⟩ := hPo
  generalize hq13 : f_X1_settledInTens s0 x4 M = q13 at h g14 hI15 ⊢
  obtain ⟨r13, M13⟩ := q13
  have h := xb_eq h
  try dsimp only at h g14 hI15
  show V 0 0 77 [(4, .int x4)] [.int r13] LAY (M13, L)
  subst h
  exact x_iret C (show decode cX1_addedInTens 77 = .ok (.ireturn, 1) from by decide +kernel) (x_finI rfl ⟨⟨rfl, rfl⟩, g14, hI15⟩) (Nat.le_refl 0) (Nat.le_refl 0)
set_option maxRecDepth 20000 in
set_option maxHeartbeats 4000000 in
theorem b_X1_addedInTens_56 {l : Launch} {L : Nat → Nat → Int64} {V : XJ} (r : Int32 × St) (C : C_X1_addedInTens l r L V) (x3 : Int32) (s0 : Int32) (M : St) (wx3 : xrg 0 517 x3) (ws0 : xrg 0 1 s0) (hI : InvK INVC M) (h : f_X1_addedInTens_56 x3 s0 M = r) : V 0 0 56 [(0, .ref 13), (3, .int x3)] [.int s0] LAY (M, L) := by
  unfold f_X1_addedInTens_56 at h
  refine x_run C e_X1_addedInTens_8 e_X1_addedInTens_8_k (pc' := 61) (lv' := [(4, .int s0), (0, .ref 13), (3, .int x3)]) (st' := [.int s0, .ref 13]) (σ' := (M, L)) rfl ⟨trivial, trivial, trivial, trivial⟩ ?_
  refine x_if_eq C (show decode cX1_addedInTens 61 = .ok (.ifCond .eq 10, 3) from by decide +kernel) (tgt := 71) (by decide) (fun c10 => ?_) (fun c10 => ?_)
  · rw [if_pos c10] at h
    have g11 : xrg 0 0 s0 := (x_c_eq ws0 (x_rgc (x := 0) (k := 0) (by decide)) c10).1
    refine x_run C e_X1_addedInTens_9 e_X1_addedInTens_9_k (pc' := 72) (lv' := [(4, .int s0), (0, .ref 13), (3, .int x3)]) (st' := [.int x3, .ref 13]) (σ' := (M, L)) rfl ⟨trivial, trivial⟩ ?_
    refine x_lv C [0] rfl ?_
    exact b_X1_addedInTens_72 r C s0 x3 M (x_rgw g11 (lo' := 0) (hi' := 1) (by decide) (by decide)) (x_rgw wx3 (lo' := 0) (hi' := 613) (by decide) (by decide)) hI h
  · rw [if_neg c10] at h
    have g12 : xrg 1 1 s0 := (x_c_ne ws0 (by decide) c10)
    refine x_run C e_X1_addedInTens_10 e_X1_addedInTens_10_k (pc' := 68) (lv' := [(4, .int s0), (0, .ref 13), (3, .int x3)]) (st' := [.int (x3 + 96), .ref 13]) (σ' := (M, L)) rfl ⟨trivial, trivial, trivial, trivial⟩ ?_
    refine x_goto C (show decode cX1_addedInTens 68 = .ok (.goto 4, 3) from by decide +kernel) (tgt := 72) (by decide) ?_
    refine x_lv C [0] rfl ?_
    exact b_X1_addedInTens_72 r C s0 (x3 + 96) M (x_rgw g12 (lo' := 0) (hi' := 1) (by decide) (by decide)) (x_rgw (x_rg_add wx3 (x_rgc (x := 96) (k := 96) (by decide)) (by decide) (by decide)) (lo' := 0) (hi' := 613) (by decide) (by decide)) hI h
set_option maxRecDepth 20000 in
set_option maxHeartbeats 4000000 in
theorem b_X1_addedInTens_28 {l : Launch} {L : Nat → Nat → Int64} {V : XJ} (r : Int32 × St) (C : C_X1_addedInTens l r L V) (x1 : Int32) (x2 : Int32) (s0 : Int32) (s1 : Int32) (M : St) (ws0 : xrg 0 6 s0) (ws1 : xrg 0 31 s1) (hI : InvK INVC M) (h : f_X1_addedInTens_28 x1 x2 s0 s1 M = r) : V 0 0 28 [(0, .ref 13), (1, .int x1), (2, .int x2)] [.int s0, .int s1] LAY (M, L) := by
  unfold f_X1_addedInTens_28 at h
  refine x_run C e_X1_addedInTens_5 e_X1_addedInTens_5_k (pc' := 48) (lv' := [(3, .int ((s1 + s0) + ((x2 &&& 240) + (x1 &&& 240)))), (0, .ref 13), (1, .int x1), (2, .int x2)]) (st' := [.int 159, .int ((s1 + s0) + ((x2 &&& 240) + (x1 &&& 240)))]) (σ' := (M, L)) rfl ⟨trivial, trivial, trivial, trivial, trivial, trivial, trivial, trivial, trivial, trivial, trivial, trivial, trivial, trivial, trivial⟩ ?_
  refine x_icmp_le C (show decode cX1_addedInTens 48 = .ok (.if_icmp .le 7, 3) from by decide +kernel) (tgt := 55) (by decide) (fun c7 => ?_) (fun c7 => ?_)
  · rw [if_pos c7] at h
    have g8 : xrg 0 159 ((s1 + s0) + ((x2 &&& 240) + (x1 &&& 240))) := (x_c_le (x_rg_add (x_rg_add ws1 ws0 (by decide) (by decide)) (x_rg_add (x_rg_and (x := x2) (m := 240) (k := 240) (by decide) (by decide)) (x_rg_and (x := x1) (m := 240) (k := 240) (by decide) (by decide)) (by decide) (by decide)) (by decide) (by decide)) (x_rgc (x := 159) (k := 159) (by decide)) c7).1
    refine x_run C e_X1_addedInTens_6 e_X1_addedInTens_6_k (pc' := 56) (lv' := [(3, .int ((s1 + s0) + ((x2 &&& 240) + (x1 &&& 240)))), (0, .ref 13), (1, .int x1), (2, .int x2)]) (st' := [.int 0]) (σ' := (M, L)) rfl ⟨trivial, trivial⟩ ?_
    refine x_lv C [1, 0] rfl ?_
    exact b_X1_addedInTens_56 r C ((s1 + s0) + ((x2 &&& 240) + (x1 &&& 240))) 0 M (x_rgw g8 (lo' := 0) (hi' := 517) (by decide) (by decide)) (x_rgw (x_rgc (x := 0) (k := 0) (by decide)) (lo' := 0) (hi' := 1) (by decide) (by decide)) hI h
  · rw [if_neg c7] at h
    have g9 : xrg 160 517 ((s1 + s0) + ((x2 &&& 240) + (x1 &&& 240))) := (x_c_nle (x_rg_add (x_rg_add ws1 ws0 (by decide) (by decide)) (x_rg_add (x_rg_and (x := x2) (m := 240) (k := 240) (by decide) (by decide)) (x_rg_and (x := x1) (m := 240) (k := 240) (by decide) (by decide)) (by decide) (by decide)) (by decide) (by decide)) (x_rgc (x := 159) (k := 159) (by decide)) c7).1
    refine x_run C e_X1_addedInTens_7 e_X1_addedInTens_7_k (pc' := 52) (lv' := [(3, .int ((s1 + s0) + ((x2 &&& 240) + (x1 &&& 240)))), (0, .ref 13), (1, .int x1), (2, .int x2)]) (st' := [.int 1]) (σ' := (M, L)) rfl ⟨trivial, trivial⟩ ?_
    refine x_goto C (show decode cX1_addedInTens 52 = .ok (.goto 4, 3) from by decide +kernel) (tgt := 56) (by decide) ?_
    refine x_lv C [1, 0] rfl ?_
    exact b_X1_addedInTens_56 r C ((s1 + s0) + ((x2 &&& 240) + (x1 &&& 240))) 1 M (x_rgw g9 (lo' := 0) (hi' := 517) (by decide) (by decide)) (x_rgw (x_rgc (x := 1) (k := 1) (by decide)) (lo' := 0) (hi' := 1) (by decide) (by decide)) hI h
set_option maxRecDepth 20000 in
set_option maxHeartbeats 4000000 in
theorem k_X1_addedInTens (l : Launch) (a1 : Int32) (a2 : Int32) (M : St) (L : Nat → Nat → Int64) (hI : InvK INVC M) : XM l yX1_addedInTens cX1_addedInTens 5 (some .int) R_X1_addedInTens LAY [.ref 13, .int a1, .int a2] (M, L) (P_X1_addedInTens (f_X1_addedInTens a1 a2 M) L) := by
  refine XM.of (by decide) (Nat.le_of_ble_eq_true rfl) LAY_in cl_ok fl_X1_ok kc_X1_ok (fun V C => ?_)
  obtain ⟨r, h⟩ : ∃ r, f_X1_addedInTens a1 a2 M = r := ⟨_, rfl⟩
  rw [h] at C
  change C_X1_addedInTens l r L V at C
  unfold f_X1_addedInTens at h
  show V 0 0 0 [(0, .ref 13), (1, .int a1), (2, .int a2)] [] LAY (M, L)
  refine x_run C e_X1_addedInTens_1 e_X1_addedInTens_1_k (pc' := 10) (lv' := [(0, .ref 13), (1, .int a1), (2, .int a2)]) (st' := [.ref 13, .int ((a2 &&& 15) + (a1 &&& 15))]) (σ' := (M, L)) rfl ⟨trivial, trivial, trivial, trivial, trivial, trivial, trivial, trivial, trivial⟩ ?_
  refine x_callV C (k := 13) (ci := 0) (rest := [.int ((a2 &&& 15) + (a1 &&& 15))]) (avs := []) (k_X1_x l  M L hI) yoX1_x ml_X1_54 rfl rfl rfl rfl ⟨Nat.zero_le _, Nat.zero_le _⟩ (show decode cX1_addedInTens 10 = .ok (.invokevirtual 54, 3) from by decide +kernel) rfl (fun v σ' hPo => ?_)
  obtain ⟨⟨rfl, rfl⟩, g2, hI3⟩ := hPo
  show V 0 0 13 [(0, .ref 13), (1, .int a1), (2, .int a2)] [.int (f_X1_x  M), .int ((a2 &&& 15) + (a1 &&& 15))] LAY (M, L)
  refine x_run C e_X1_addedInTens_2 e_X1_addedInTens_2_k (pc' := 19) (lv' := [(3, .int (((a2 &&& 15) + (a1 &&& 15)) + (f_X1_x  M))), (0, .ref 13), (1, .int a1), (2, .int a2)]) (st' := [.int 9, .int (((a2 &&& 15) + (a1 &&& 15)) + (f_X1_x  M)), .int (((a2 &&& 15) + (a1 &&& 15)) + (f_X1_x  M))]) (σ' := (M, L)) rfl ⟨trivial, trivial, trivial, trivial, trivial, trivial⟩ ?_
  refine x_icmp_le C (show decode cX1_addedInTens 19 = .ok (.if_icmp .le 8, 3) from by decide +kernel) (tgt := 27) (by decide) (fun c4 => ?_) (fun c4 => ?_)
  · rw [if_pos c4] at h
    have g5 : xrg 0 9 (((a2 &&& 15) + (a1 &&& 15)) + (f_X1_x  M)) := (x_c_le (x_rg_add (x_rg_add (x_rg_and (x := a2) (m := 15) (k := 15) (by decide) (by decide)) (x_rg_and (x := a1) (m := 15) (k := 15) (by decide) (by decide)) (by decide) (by decide)) g2 (by decide) (by decide)) (x_rgc (x := 9) (k := 9) (by decide)) c4).1
    refine x_run C e_X1_addedInTens_3 e_X1_addedInTens_3_k (pc' := 28) (lv' := [(3, .int (((a2 &&& 15) + (a1 &&& 15)) + (f_X1_x  M))), (0, .ref 13), (1, .int a1), (2, .int a2)]) (st' := [.int 0, .int (((a2 &&& 15) + (a1 &&& 15)) + (f_X1_x  M))]) (σ' := (M, L)) rfl ⟨trivial, trivial⟩ ?_
    refine x_lv C [1, 2, 3] rfl ?_
    exact b_X1_addedInTens_28 r C a1 a2 0 (((a2 &&& 15) + (a1 &&& 15)) + (f_X1_x  M)) M (x_rgw (x_rgc (x := 0) (k := 0) (by decide)) (lo' := 0) (hi' := 6) (by decide) (by decide)) (x_rgw g5 (lo' := 0) (hi' := 31) (by decide) (by decide)) hI h
  · rw [if_neg c4] at h
    have g6 : xrg 10 31 (((a2 &&& 15) + (a1 &&& 15)) + (f_X1_x  M)) := (x_c_nle (x_rg_add (x_rg_add (x_rg_and (x := a2) (m := 15) (k := 15) (by decide) (by decide)) (x_rg_and (x := a1) (m := 15) (k := 15) (by decide) (by decide)) (by decide) (by decide)) g2 (by decide) (by decide)) (x_rgc (x := 9) (k := 9) (by decide)) c4).1
    refine x_run C e_X1_addedInTens_4 e_X1_addedInTens_4_k (pc' := 24) (lv' := [(3, .int (((a2 &&& 15) + (a1 &&& 15)) + (f_X1_x  M))), (0, .ref 13), (1, .int a1), (2, .int a2)]) (st' := [.int 6, .int (((a2 &&& 15) + (a1 &&& 15)) + (f_X1_x  M))]) (σ' := (M, L)) rfl ⟨trivial, trivial⟩ ?_
    refine x_goto C (show decode cX1_addedInTens 24 = .ok (.goto 4, 3) from by decide +kernel) (tgt := 28) (by decide) ?_
    refine x_lv C [1, 2, 3] rfl ?_
    exact b_X1_addedInTens_28 r C a1 a2 6 (((a2 &&& 15) + (a1 &&& 15)) + (f_X1_x  M)) M (x_rgw (x_rgc (x := 6) (k := 6) (by decide)) (lo' := 0) (hi' := 6) (by decide) (by decide)) (x_rgw g6 (lo' := 0) (hi' := 31) (by decide) (by decide)) hI h
-- X1_subtractedInTens
def e_X1_subtractedInTens_1 : List xI := [(0, .iload_n 1, 1, .null), (1, .bipush 15, 2, .int 15), (3, .iand, 1, .null), (4, .iload_n 2, 1, .null), (5, .bipush 15, 2, .int 15), (7, .iand, 1, .null), (8, .isub, 1, .null), (9, .aload_n 0, 1, .null)]
theorem e_X1_subtractedInTens_1_k : e_X1_subtractedInTens_1.all (fun q => xokB cX1_subtractedInTens q && xokL q) = true := by decide +kernel
def e_X1_subtractedInTens_2 : List xI := [(13, .isub, 1, .null), (14, .istore_n 3, 1, .null), (15, .iload_n 3, 1, .null), (16, .iload_n 3, 1, .null)]
theorem e_X1_subtractedInTens_2_k : e_X1_subtractedInTens_2.all (fun q => xokB cX1_subtractedInTens q && xokL q) = true := by decide +kernel
def e_X1_subtractedInTens_3 : List xI := [(25, .iconst 0, 1, .int 0)]
theorem e_X1_subtractedInTens_3_k : e_X1_subtractedInTens_3.all (fun q => xokB cX1_subtractedInTens q && xokL q) = true := by decide +kernel
def e_X1_subtractedInTens_4 : List xI := [(20, .bipush 6, 2, .int 6)]
theorem e_X1_subtractedInTens_4_k : e_X1_subtractedInTens_4.all (fun q => xokB cX1_subtractedInTens q && xokL q) = true := by decide +kernel
def e_X1_subtractedInTens_5 : List xI := [(26, .isub, 1, .null), (27, .istore_n 3, 1, .null), (28, .iload_n 3, 1, .null), (29, .iload_n 1, 1, .null), (30, .sipush 240, 3, .int 240), (33, .iand, 1, .null), (34, .iload_n 2, 1, .null), (35, .sipush 240, 3, .int 240), (38, .iand, 1, .null), (39, .isub, 1, .null), (40, .iadd, 1, .null), (41, .istore_n 3, 1, .null), (42, .iload_n 3, 1, .null)]
theorem e_X1_subtractedInTens_5_k : e_X1_subtractedInTens_5.all (fun q => xokB cX1_subtractedInTens q && xokL q) = true := by decide +kernel
def e_X1_subtractedInTens_6 : List xI := [(50, .iconst 0, 1, .int 0)]
theorem e_X1_subtractedInTens_6_k : e_X1_subtractedInTens_6.all (fun q => xokB cX1_subtractedInTens q && xokL q) = true := by decide +kernel
def e_X1_subtractedInTens_7 : List xI := [(46, .iconst 1, 1, .int 1)]
theorem e_X1_subtractedInTens_7_k : e_X1_subtractedInTens_7.all (fun q => xokB cX1_subtractedInTens q && xokL q) = true := by decide +kernel
def e_X1_subtractedInTens_8 : List xI := [(51, .istore 4, 2, .null), (53, .aload_n 0, 1, .null), (54, .iload 4, 2, .null)]
theorem e_X1_subtractedInTens_8_k : e_X1_subtractedInTens_8.all (fun q => xokB cX1_subtractedInTens q && xokL q) = true := by decide +kernel
def e_X1_subtractedInTens_9 : List xI := [(66, .iload_n 3, 1, .null)]
theorem e_X1_subtractedInTens_9_k : e_X1_subtractedInTens_9.all (fun q => xokB cX1_subtractedInTens q && xokL q) = true := by decide +kernel
def e_X1_subtractedInTens_10 : List xI := [(59, .iload_n 3, 1, .null), (60, .bipush 96, 2, .int 96), (62, .isub, 1, .null)]
theorem e_X1_subtractedInTens_10_k : e_X1_subtractedInTens_10.all (fun q => xokB cX1_subtractedInTens q && xokL q) = true := by decide +kernel
def e_X1_subtractedInTens_11 : List xI := [(67, .iload 4, 2, .null)]
theorem e_X1_subtractedInTens_11_k : e_X1_subtractedInTens_11.all (fun q => xokB cX1_subtractedInTens q && xokL q) = true := by decide +kernel
abbrev P_X1_subtractedInTens (r : Int32 × St) (L : Nat → Nat → Int64) : Option Value → xG → Prop := fun v σ' => PoI r.1 r.2 L v σ' ∧ xrg 0 255 r.1 ∧ InvK INVC r.2
abbrev R_X1_subtractedInTens : Room := { frames := 2, cells := 0, slots := 0, locals := 46 }
abbrev C_X1_subtractedInTens (l : Launch) (r : Int32 × St) (L : Nat → Nat → Int64) (V : XJ) : Prop := XC l yX1_subtractedInTens.cls yX1_subtractedInTens.name cX1_subtractedInTens 5 R_X1_subtractedInTens 0 0 fl_X1 kc_X1 LAY.length (xfin (some .int) LAY (P_X1_subtractedInTens r L)) V
def f_X1_subtractedInTens_67 (x4 : Int32) (s0 : Int32) (M : St) : Int32 × St := (xb (f_X1_settledInTens s0 x4 M) fun q13 => (q13.1, q13.2))
def f_X1_subtractedInTens_51 (x3 : Int32) (s0 : Int32) (M : St) : Int32 × St := (if s0 = 0 then f_X1_subtractedInTens_67 s0 x3 M else f_X1_subtractedInTens_67 s0 (x3 - 96) M)
def f_X1_subtractedInTens_26 (x1 : Int32) (x2 : Int32) (s0 : Int32) (s1 : Int32) (M : St) : Int32 × St := (if 0 ≤ ((s1 - s0) + ((x1 &&& 240) - (x2 &&& 240))) then f_X1_subtractedInTens_51 ((s1 - s0) + ((x1 &&& 240) - (x2 &&& 240))) 0 M else f_X1_subtractedInTens_51 ((s1 - s0) + ((x1 &&& 240) - (x2 &&& 240))) 1 M)
def f_X1_subtractedInTens (a1 : Int32) (a2 : Int32) (M : St) : Int32 × St := (if 0 ≤ (((a1 &&& 15) - (a2 &&& 15)) - (f_X1_x  M)) then f_X1_subtractedInTens_26 a1 a2 0 (((a1 &&& 15) - (a2 &&& 15)) - (f_X1_x  M)) M else f_X1_subtractedInTens_26 a1 a2 6 (((a1 &&& 15) - (a2 &&& 15)) - (f_X1_x  M)) M)
set_option maxRecDepth 20000 in
set_option maxHeartbeats 4000000 in
theorem b_X1_subtractedInTens_67 {l : Launch} {L : Nat → Nat → Int64} {V : XJ} (r : Int32 × St) (C : C_X1_subtractedInTens l r L V) (x4 : Int32) (s0 : Int32) (M : St) (wx4 : xrg 0 1 x4) (ws0 : xrg (-358) 255 s0) (hI : InvK INVC M) (h : f_X1_subtractedInTens_67 x4 s0 M = r) : V 0 0 67 [(4, .int x4)] [.int s0, .ref 13] LAY (M, L) := by
  unfold f_X1_subtractedInTens_67 at h
  refine x_run C e_X1_subtractedInTens_11 e_X1_subtractedInTens_11_k (pc' := 69) (lv' := [(4, .int x4)]) (st' := [.int x4, .int s0, .ref 13]) (σ' := (M, L)) rfl ⟨trivial, trivial⟩ ?_
  refine x_callV C (k := 13) (ci := 0) (rest := []) (avs := [.int s0, .int x4]) (k_X1_settledInTens l s0 x4 M L hI) yoX1_settledInTens ml_X1_71 rfl rfl rfl rfl ⟨Nat.zero_le _, Nat.zero_le _⟩ (show decode cX1_subtractedInTens 69 = .ok (.invokevirtual 71, 3) from by decide +kernel) rfl (fun v σ' hPo => ?_)
  obtain ⟨⟨rfl, rfl⟩, g14, hI15⟩ := hPo
  generalize hq13 : f_X1_settledInTens s0 x4 M = q13 at h g14 hI15 ⊢
  obtain ⟨r13, M13⟩ := q13
  have h := xb_eq h
  try dsimp only at h g14 hI15
  show V 0 0 72 [(4, .int x4)] [.int r13] LAY (M13, L)
  subst h
  exact x_iret C (show decode cX1_subtractedInTens 72 = .ok (.ireturn, 1) from by decide +kernel) (x_finI rfl ⟨⟨rfl, rfl⟩, g14, hI15⟩) (Nat.le_refl 0) (Nat.le_refl 0)
set_option maxRecDepth 20000 in
set_option maxHeartbeats 4000000 in
theorem b_X1_subtractedInTens_51 {l : Launch} {L : Nat → Nat → Int64} {V : XJ} (r : Int32 × St) (C : C_X1_subtractedInTens l r L V) (x3 : Int32) (s0 : Int32) (M : St) (wx3 : xrg (-262) 255 x3) (ws0 : xrg 0 1 s0) (hI : InvK INVC M) (h : f_X1_subtractedInTens_51 x3 s0 M = r) : V 0 0 51 [(0, .ref 13), (3, .int x3)] [.int s0] LAY (M, L) := by
  unfold f_X1_subtractedInTens_51 at h
  refine x_run C e_X1_subtractedInTens_8 e_X1_subtractedInTens_8_k (pc' := 56) (lv' := [(4, .int s0), (0, .ref 13), (3, .int x3)]) (st' := [.int s0, .ref 13]) (σ' := (M, L)) rfl ⟨trivial, trivial, trivial, trivial⟩ ?_
  refine x_if_eq C (show decode cX1_subtractedInTens 56 = .ok (.ifCond .eq 10, 3) from by decide +kernel) (tgt := 66) (by decide) (fun c10 => ?_) (fun c10 => ?_)
  · rw [if_pos c10] at h
    have g11 : xrg 0 0 s0 := (x_c_eq ws0 (x_rgc (x := 0) (k := 0) (by decide)) c10).1
    refine x_run C e_X1_subtractedInTens_9 e_X1_subtractedInTens_9_k (pc' := 67) (lv' := [(4, .int s0), (0, .ref 13), (3, .int x3)]) (st' := [.int x3, .ref 13]) (σ' := (M, L)) rfl ⟨trivial, trivial⟩ ?_
    refine x_lv C [0] rfl ?_
    exact b_X1_subtractedInTens_67 r C s0 x3 M (x_rgw g11 (lo' := 0) (hi' := 1) (by decide) (by decide)) (x_rgw wx3 (lo' := (-358)) (hi' := 255) (by decide) (by decide)) hI h
  · rw [if_neg c10] at h
    have g12 : xrg 1 1 s0 := (x_c_ne ws0 (by decide) c10)
    refine x_run C e_X1_subtractedInTens_10 e_X1_subtractedInTens_10_k (pc' := 63) (lv' := [(4, .int s0), (0, .ref 13), (3, .int x3)]) (st' := [.int (x3 - 96), .ref 13]) (σ' := (M, L)) rfl ⟨trivial, trivial, trivial, trivial⟩ ?_
    refine x_goto C (show decode cX1_subtractedInTens 63 = .ok (.goto 4, 3) from by decide +kernel) (tgt := 67) (by decide) ?_
    refine x_lv C [0] rfl ?_
    exact b_X1_subtractedInTens_67 r C s0 (x3 - 96) M (x_rgw g12 (lo' := 0) (hi' := 1) (by decide) (by decide)) (x_rgw (x_rg_sub wx3 (x_rgc (x := 96) (k := 96) (by decide)) (by decide) (by decide)) (lo' := (-358)) (hi' := 255) (by decide) (by decide)) hI h
set_option maxRecDepth 20000 in
set_option maxHeartbeats 4000000 in
theorem b_X1_subtractedInTens_26 {l : Launch} {L : Nat → Nat → Int64} {V : XJ} (r : Int32 × St) (C : C_X1_subtractedInTens l r L V) (x1 : Int32) (x2 : Int32) (s0 : Int32) (s1 : Int32) (M : St) (ws0 : xrg 0 6 s0) (ws1 : xrg (-16) 15 s1) (hI : InvK INVC M) (h : f_X1_subtractedInTens_26 x1 x2 s0 s1 M = r) : V 0 0 26 [(0, .ref 13), (1, .int x1), (2, .int x2)] [.int s0, .int s1] LAY (M, L) := by
  unfold f_X1_subtractedInTens_26 at h
  refine x_run C e_X1_subtractedInTens_5 e_X1_subtractedInTens_5_k (pc' := 43) (lv' := [(3, .int ((s1 - s0) + ((x1 &&& 240) - (x2 &&& 240)))), (0, .ref 13), (1, .int x1), (2, .int x2)]) (st' := [.int ((s1 - s0) + ((x1 &&& 240) - (x2 &&& 240)))]) (σ' := (M, L)) rfl ⟨trivial, trivial, trivial, trivial, trivial, trivial, trivial, trivial, trivial, trivial, trivial, trivial, trivial, trivial⟩ ?_
  refine x_if_ge C (show decode cX1_subtractedInTens 43 = .ok (.ifCond .ge 7, 3) from by decide +kernel) (tgt := 50) (by decide) (fun c7 => ?_) (fun c7 => ?_)
  · rw [if_pos c7] at h
    have g8 : xrg 0 255 ((s1 - s0) + ((x1 &&& 240) - (x2 &&& 240))) := (x_c_le (x_rgc (x := 0) (k := 0) (by decide)) (x_rg_add (x_rg_sub ws1 ws0 (by decide) (by decide)) (x_rg_sub (x_rg_and (x := x1) (m := 240) (k := 240) (by decide) (by decide)) (x_rg_and (x := x2) (m := 240) (k := 240) (by decide) (by decide)) (by decide) (by decide)) (by decide) (by decide)) c7).2
    refine x_run C e_X1_subtractedInTens_6 e_X1_subtractedInTens_6_k (pc' := 51) (lv' := [(3, .int ((s1 - s0) + ((x1 &&& 240) - (x2 &&& 240)))), (0, .ref 13), (1, .int x1), (2, .int x2)]) (st' := [.int 0]) (σ' := (M, L)) rfl ⟨trivial, trivial⟩ ?_
    refine x_lv C [1, 0] rfl ?_
    exact b_X1_subtractedInTens_51 r C ((s1 - s0) + ((x1 &&& 240) - (x2 &&& 240))) 0 M (x_rgw g8 (lo' := (-262)) (hi' := 255) (by decide) (by decide)) (x_rgw (x_rgc (x := 0) (k := 0) (by decide)) (lo' := 0) (hi' := 1) (by decide) (by decide)) hI h
  · rw [if_neg c7] at h
    have g9 : xrg (-262) (-1) ((s1 - s0) + ((x1 &&& 240) - (x2 &&& 240))) := (x_c_nle (x_rgc (x := 0) (k := 0) (by decide)) (x_rg_add (x_rg_sub ws1 ws0 (by decide) (by decide)) (x_rg_sub (x_rg_and (x := x1) (m := 240) (k := 240) (by decide) (by decide)) (x_rg_and (x := x2) (m := 240) (k := 240) (by decide) (by decide)) (by decide) (by decide)) (by decide) (by decide)) c7).2
    refine x_run C e_X1_subtractedInTens_7 e_X1_subtractedInTens_7_k (pc' := 47) (lv' := [(3, .int ((s1 - s0) + ((x1 &&& 240) - (x2 &&& 240)))), (0, .ref 13), (1, .int x1), (2, .int x2)]) (st' := [.int 1]) (σ' := (M, L)) rfl ⟨trivial, trivial⟩ ?_
    refine x_goto C (show decode cX1_subtractedInTens 47 = .ok (.goto 4, 3) from by decide +kernel) (tgt := 51) (by decide) ?_
    refine x_lv C [1, 0] rfl ?_
    exact b_X1_subtractedInTens_51 r C ((s1 - s0) + ((x1 &&& 240) - (x2 &&& 240))) 1 M (x_rgw g9 (lo' := (-262)) (hi' := 255) (by decide) (by decide)) (x_rgw (x_rgc (x := 1) (k := 1) (by decide)) (lo' := 0) (hi' := 1) (by decide) (by decide)) hI h
set_option maxRecDepth 20000 in
set_option maxHeartbeats 4000000 in
theorem k_X1_subtractedInTens (l : Launch) (a1 : Int32) (a2 : Int32) (M : St) (L : Nat → Nat → Int64) (hI : InvK INVC M) : XM l yX1_subtractedInTens cX1_subtractedInTens 5 (some .int) R_X1_subtractedInTens LAY [.ref 13, .int a1, .int a2] (M, L) (P_X1_subtractedInTens (f_X1_subtractedInTens a1 a2 M) L) := by
  refine XM.of (by decide) (Nat.le_of_ble_eq_true rfl) LAY_in cl_ok fl_X1_ok kc_X1_ok (fun V C => ?_)
  obtain ⟨r, h⟩ : ∃ r, f_X1_subtractedInTens a1 a2 M = r := ⟨_, rfl⟩
  rw [h] at C
  change C_X1_subtractedInTens l r L V at C
  unfold f_X1_subtractedInTens at h
  show V 0 0 0 [(0, .ref 13), (1, .int a1), (2, .int a2)] [] LAY (M, L)
  refine x_run C e_X1_subtractedInTens_1 e_X1_subtractedInTens_1_k (pc' := 10) (lv' := [(0, .ref 13), (1, .int a1), (2, .int a2)]) (st' := [.ref 13, .int ((a1 &&& 15) - (a2 &&& 15))]) (σ' := (M, L)) rfl ⟨trivial, trivial, trivial, trivial, trivial, trivial, trivial, trivial, trivial⟩ ?_
  refine x_callV C (k := 13) (ci := 0) (rest := [.int ((a1 &&& 15) - (a2 &&& 15))]) (avs := []) (k_X1_x l  M L hI) yoX1_x ml_X1_54 rfl rfl rfl rfl ⟨Nat.zero_le _, Nat.zero_le _⟩ (show decode cX1_subtractedInTens 10 = .ok (.invokevirtual 54, 3) from by decide +kernel) rfl (fun v σ' hPo => ?_)
  obtain ⟨⟨rfl, rfl⟩, g2, hI3⟩ := hPo
  show V 0 0 13 [(0, .ref 13), (1, .int a1), (2, .int a2)] [.int (f_X1_x  M), .int ((a1 &&& 15) - (a2 &&& 15))] LAY (M, L)
  refine x_run C e_X1_subtractedInTens_2 e_X1_subtractedInTens_2_k (pc' := 17) (lv' := [(3, .int (((a1 &&& 15) - (a2 &&& 15)) - (f_X1_x  M))), (0, .ref 13), (1, .int a1), (2, .int a2)]) (st' := [.int (((a1 &&& 15) - (a2 &&& 15)) - (f_X1_x  M)), .int (((a1 &&& 15) - (a2 &&& 15)) - (f_X1_x  M))]) (σ' := (M, L)) rfl ⟨trivial, trivial, trivial, trivial, trivial⟩ ?_
  refine x_if_ge C (show decode cX1_subtractedInTens 17 = .ok (.ifCond .ge 8, 3) from by decide +kernel) (tgt := 25) (by decide) (fun c4 => ?_) (fun c4 => ?_)
  · rw [if_pos c4] at h
    have g5 : xrg 0 15 (((a1 &&& 15) - (a2 &&& 15)) - (f_X1_x  M)) := (x_c_le (x_rgc (x := 0) (k := 0) (by decide)) (x_rg_sub (x_rg_sub (x_rg_and (x := a1) (m := 15) (k := 15) (by decide) (by decide)) (x_rg_and (x := a2) (m := 15) (k := 15) (by decide) (by decide)) (by decide) (by decide)) g2 (by decide) (by decide)) c4).2
    refine x_run C e_X1_subtractedInTens_3 e_X1_subtractedInTens_3_k (pc' := 26) (lv' := [(3, .int (((a1 &&& 15) - (a2 &&& 15)) - (f_X1_x  M))), (0, .ref 13), (1, .int a1), (2, .int a2)]) (st' := [.int 0, .int (((a1 &&& 15) - (a2 &&& 15)) - (f_X1_x  M))]) (σ' := (M, L)) rfl ⟨trivial, trivial⟩ ?_
    refine x_lv C [1, 2, 3] rfl ?_
    exact b_X1_subtractedInTens_26 r C a1 a2 0 (((a1 &&& 15) - (a2 &&& 15)) - (f_X1_x  M)) M (x_rgw (x_rgc (x := 0) (k := 0) (by decide)) (lo' := 0) (hi' := 6) (by decide) (by decide)) (x_rgw g5 (lo' := (-16)) (hi' := 15) (by decide) (by decide)) hI h
  · rw [if_neg c4] at h
    have g6 : xrg (-16) (-1) (((a1 &&& 15) - (a2 &&& 15)) - (f_X1_x  M)) := (x_c_nle (x_rgc (x := 0) (k := 0) (by decide)) (x_rg_sub (x_rg_sub (x_rg_and (x := a1) (m := 15) (k := 15) (by decide) (by decide)) (x_rg_and (x := a2) (m := 15) (k := 15) (by decide) (by decide)) (by decide) (by decide)) g2 (by decide) (by decide)) c4).2
    refine x_run C e_X1_subtractedInTens_4 e_X1_subtractedInTens_4_k (pc' := 22) (lv' := [(3, .int (((a1 &&& 15) - (a2 &&& 15)) - (f_X1_x  M))), (0, .ref 13), (1, .int a1), (2, .int a2)]) (st' := [.int 6, .int (((a1 &&& 15) - (a2 &&& 15)) - (f_X1_x  M))]) (σ' := (M, L)) rfl ⟨trivial, trivial⟩ ?_
    refine x_goto C (show decode cX1_subtractedInTens 22 = .ok (.goto 4, 3) from by decide +kernel) (tgt := 26) (by decide) ?_
    refine x_lv C [1, 2, 3] rfl ?_
    exact b_X1_subtractedInTens_26 r C a1 a2 6 (((a1 &&& 15) - (a2 &&& 15)) - (f_X1_x  M)) M (x_rgw (x_rgc (x := 6) (k := 6) (by decide)) (lo' := 0) (hi' := 6) (by decide) (by decide)) (x_rgw g6 (lo' := (-16)) (hi' := 15) (by decide) (by decide)) hI h
-- X1_combined
def e_X1_combined_1 : List xI := [(3, .aload_n 1, 1, .null)]
theorem e_X1_combined_1_k : e_X1_combined_1.all (fun q => xokB cX1_combined q && xokL q) = true := by decide +kernel
def e_X1_combined_2 : List xI := [(64, .aload_n 0, 1, .null), (65, .iconst 0, 1, .int 0), (66, .iload_n 2, 1, .null), (67, .iload_n 3, 1, .null), (68, .iconst 1, 1, .int 1), (69, .iload 4, 2, .null), (71, .bipush 31, 2, .int 31)]
theorem e_X1_combined_2_k : e_X1_combined_2.all (fun q => xokB cX1_combined q && xokL q) = true := by decide +kernel
def e_X1_combined_3 : List xI := [(77, .aload_n 0, 1, .null), (78, .iconst 1, 1, .int 1), (79, .iload_n 2, 1, .null), (80, .iload_n 3, 1, .null), (81, .iconst 1, 1, .int 1), (82, .iload 4, 2, .null), (84, .bipush 31, 2, .int 31)]
theorem e_X1_combined_3_k : e_X1_combined_3.all (fun q => xokB cX1_combined q && xokL q) = true := by decide +kernel
def e_X1_combined_4 : List xI := [(90, .aload_n 0, 1, .null), (91, .iload_n 2, 1, .null), (92, .iload_n 3, 1, .null)]
theorem e_X1_combined_4_k : e_X1_combined_4.all (fun q => xokB cX1_combined q && xokL q) = true := by decide +kernel
def e_X1_combined_5 : List xI := [(97, .aload_n 0, 1, .null), (98, .iconst 0, 1, .int 0), (99, .iload_n 2, 1, .null), (100, .iload_n 3, 1, .null), (101, .iconst (-1), 1, .int (-1)), (102, .iload 4, 2, .null), (104, .bipush 31, 2, .int 31)]
theorem e_X1_combined_5_k : e_X1_combined_5.all (fun q => xokB cX1_combined q && xokL q) = true := by decide +kernel
def e_X1_combined_6 : List xI := [(110, .aload_n 0, 1, .null), (111, .iconst 1, 1, .int 1), (112, .iload_n 2, 1, .null), (113, .iload_n 3, 1, .null), (114, .iconst (-1), 1, .int (-1)), (115, .iload 4, 2, .null), (117, .bipush 31, 2, .int 31)]
theorem e_X1_combined_6_k : e_X1_combined_6.all (fun q => xokB cX1_combined q && xokL q) = true := by decide +kernel
def e_X1_combined_7 : List xI := [(123, .aload_n 0, 1, .null), (124, .iload_n 2, 1, .null), (125, .iload_n 3, 1, .null)]
theorem e_X1_combined_7_k : e_X1_combined_7.all (fun q => xokB cX1_combined q && xokL q) = true := by decide +kernel
def e_X1_combined_8 : List xI := [(130, .aload_n 0, 1, .null), (131, .iconst 0, 1, .int 0), (132, .iload_n 2, 1, .null), (133, .iload_n 3, 1, .null), (134, .iconst (-1), 1, .int (-1)), (135, .iload 4, 2, .null), (137, .bipush 15, 2, .int 15)]
theorem e_X1_combined_8_k : e_X1_combined_8.all (fun q => xokB cX1_combined q && xokL q) = true := by decide +kernel
def e_X1_combined_9 : List xI := [(143, .aload_n 0, 1, .null), (144, .iload_n 2, 1, .null), (145, .iload_n 3, 1, .null), (146, .iand, 1, .null), (147, .iload 4, 2, .null)]
theorem e_X1_combined_9_k : e_X1_combined_9.all (fun q => xokB cX1_combined q && xokL q) = true := by decide +kernel
def e_X1_combined_10 : List xI := [(153, .aload_n 0, 1, .null), (154, .iload_n 2, 1, .null), (155, .iload_n 3, 1, .null), (156, .ior, 1, .null), (157, .iload 4, 2, .null)]
theorem e_X1_combined_10_k : e_X1_combined_10.all (fun q => xokB cX1_combined q && xokL q) = true := by decide +kernel
def e_X1_combined_11 : List xI := [(163, .aload_n 0, 1, .null), (164, .iload_n 2, 1, .null), (165, .iload_n 3, 1, .null), (166, .ixor, 1, .null), (167, .iload 4, 2, .null)]
theorem e_X1_combined_11_k : e_X1_combined_11.all (fun q => xokB cX1_combined q && xokL q) = true := by decide +kernel
def e_X1_combined_12 : List xI := [(173, .aload_n 0, 1, .null), (174, .iload_n 3, 1, .null), (175, .iload 4, 2, .null)]
theorem e_X1_combined_12_k : e_X1_combined_12.all (fun q => xokB cX1_combined q && xokL q) = true := by decide +kernel
abbrev P_X1_combined (r : Int32 × St) (L : Nat → Nat → Int64) : Option Value → xG → Prop := fun v σ' => PoI r.1 r.2 L v σ' ∧ True ∧ InvK INVC r.2
abbrev R_X1_combined : Room := { frames := 3, cells := 0, slots := 0, locals := 78 }
abbrev C_X1_combined (l : Launch) (r : Int32 × St) (L : Nat → Nat → Int64) (V : XJ) : Prop := XC l yX1_combined.cls yX1_combined.name cX1_combined 5 R_X1_combined 0 0 fl_X1 kc_X1 LAY.length (xfin (some .int) LAY (P_X1_combined r L)) V
def f_X1_combined (a1 : Nat) (a2 : Int32) (a3 : Int32) (a4 : Int32) (M : St) : Int32 × St := (if (opS.getD a1 0) = 1 then (xb (f_X1_total 0 a2 a3 1 a4 31 M) fun q2 => (q2.1, q2.2)) else (if (opS.getD a1 0) = 2 then (xb (f_X1_total 1 a2 a3 1 a4 31 M) fun q6 => (q6.1, q6.2)) else (if (opS.getD a1 0) = 3 then (xb (f_X1_addedInTens a2 a3 M) fun q10 => (q10.1, q10.2)) else (if (opS.getD a1 0) = 4 then (xb (f_X1_total 0 a2 a3 (-1) a4 31 M) fun q14 => (q14.1, q14.2)) else (if (opS.getD a1 0) = 5 then (xb (f_X1_total 1 a2 a3 (-1) a4 31 M) fun q18 => (q18.1, q18.2)) else (if (opS.getD a1 0) = 6 then (xb (f_X1_subtractedInTens a2 a3 M) fun q22 => (q22.1, q22.2)) else (if (opS.getD a1 0) = 7 then (xb (f_X1_total 0 a2 a3 (-1) a4 15 M) fun q26 => (q26.1, q26.2)) else (if (opS.getD a1 0) = 8 then (xb (f_X1_tested (a2 &&& a3) a4 M) fun q30 => (q30.1, q30.2)) else (if (opS.getD a1 0) = 9 then (xb (f_X1_tested (a2 ||| a3) a4 M) fun q34 => (q34.1, q34.2)) else (if (opS.getD a1 0) = 10 then (xb (f_X1_tested (a2 ^^^ a3) a4 M) fun q38 => (q38.1, q38.2)) else (xb (f_X1_tested a3 a4 M) fun q41 => (q41.1, q41.2))))))))))))
set_option maxRecDepth 20000 in
set_option maxHeartbeats 4000000 in
theorem k_X1_combined (l : Launch) (a1 : Nat) (a2 : Int32) (a3 : Int32) (a4 : Int32) (M : St) (L : Nat → Nat → Int64) (hb1 : a1 < 66) (hI : InvK INVC M) : XM l yX1_combined cX1_combined 5 (some .int) R_X1_combined LAY [.ref 13, .ref (1000 + a1), .int a2, .int a3, .int a4] (M, L) (P_X1_combined (f_X1_combined a1 a2 a3 a4 M) L) := by
  refine XM.of (by decide) (Nat.le_of_ble_eq_true rfl) LAY_in cl_ok fl_X1_ok kc_X1_ok (fun V C => ?_)
  obtain ⟨r, h⟩ : ∃ r, f_X1_combined a1 a2 a3 a4 M = r := ⟨_, rfl⟩
  rw [h] at C
  change C_X1_combined l r L V at C
  unfold f_X1_combined at h
  show V 0 0 0 [(0, .ref 13), (1, .ref (1000 + a1)), (2, .int a2), (3, .int a3), (4, .int a4)] [] LAY (M, L)
  refine x_getSw C (x_in 987 (by decide +kernel) rfl) (show decode cX1_combined 0 = .ok (.getstatic 25, 3) from by decide +kernel) ?_
  refine x_run C e_X1_combined_1 e_X1_combined_1_k (pc' := 4) (lv' := [(0, .ref 13), (1, .ref (1000 + a1)), (2, .int a2), (3, .int a3), (4, .int a4)]) (st' := [.ref (1000 + a1), .ref 2000]) (σ' := (M, L)) rfl ⟨trivial, trivial⟩ ?_
  refine x_callU C hb1 (k_ord l a1 hb1 M L) ord_code ord_ws1 rfl (by decide +kernel) rfl ⟨Nat.zero_le _, Nat.zero_le _⟩ (show decode cX1_combined 4 = .ok (.invokevirtual 31, 3) from by decide +kernel) (fun v σ' hPo => ?_)
  obtain ⟨rfl, rfl⟩ := hPo
  show V 0 0 7 [(0, .ref 13), (1, .ref (1000 + a1)), (2, .int a2), (3, .int a3), (4, .int a4)] [.int (nI a1), .ref 2000] LAY (M, L)
  refine x_swld C hb1 (show decode cX1_combined 7 = .ok (.iaload, 1) from by decide +kernel) ?_
  by_cases c1 : (opS.getD a1 0) = 1
  · rw [if_pos c1] at h
    refine x_tin C (show decode cX1_combined 8 = .ok (.tableswitch 165 1 10 #[56, 69, 82, 89, 102, 115, 122, 135, 145, 155], 56) from by decide +kernel) 1 c1 (off := 56) (tgt := 64) (by decide) ?_
    refine x_run C e_X1_combined_2 e_X1_combined_2_k (pc' := 73) (lv' := [(0, .ref 13), (1, .ref (1000 + a1)), (2, .int a2), (3, .int a3), (4, .int a4)]) (st' := [.int 31, .int a4, .int 1, .int a3, .int a2, .int 0, .ref 13]) (σ' := (M, L)) rfl ⟨trivial, trivial, trivial, trivial, trivial, trivial, trivial, trivial⟩ ?_
    refine x_callV C (k := 13) (ci := 0) (rest := []) (avs := [.int 0, .int a2, .int a3, .int 1, .int a4, .int 31]) (k_X1_total l 0 a2 a3 1 a4 31 M L hI) yoX1_total ml_X1_37 rfl rfl rfl rfl ⟨Nat.zero_le _, Nat.zero_le _⟩ (show decode cX1_combined 73 = .ok (.invokevirtual 37, 3) from by decide +kernel) rfl (fun v σ' hPo => ?_)
    obtain ⟨⟨rfl, rfl⟩, g3, hI4⟩ := hPo
    generalize hq2 : f_X1_total 0 a2 a3 1 a4 31 M = q2 at h g3 hI4 ⊢
    obtain ⟨r2, M2⟩ := q2
    have h := xb_eq h
    try dsimp only at h g3 hI4
    show V 0 0 76 [(0, .ref 13), (1, .ref (1000 + a1)), (2, .int a2), (3, .int a3), (4, .int a4)] [.int r2] LAY (M2, L)
    subst h
    exact x_iret C (show decode cX1_combined 76 = .ok (.ireturn, 1) from by decide +kernel) (x_finI rfl ⟨⟨rfl, rfl⟩, trivial, hI4⟩) (Nat.le_refl 0) (Nat.le_refl 0)
  rw [if_neg c1] at h
  by_cases c5 : (opS.getD a1 0) = 2
  · rw [if_pos c5] at h
    refine x_tin C (show decode cX1_combined 8 = .ok (.tableswitch 165 1 10 #[56, 69, 82, 89, 102, 115, 122, 135, 145, 155], 56) from by decide +kernel) 2 c5 (off := 69) (tgt := 77) (by decide) ?_
    refine x_run C e_X1_combined_3 e_X1_combined_3_k (pc' := 86) (lv' := [(0, .ref 13), (1, .ref (1000 + a1)), (2, .int a2), (3, .int a3), (4, .int a4)]) (st' := [.int 31, .int a4, .int 1, .int a3, .int a2, .int 1, .ref 13]) (σ' := (M, L)) rfl ⟨trivial, trivial, trivial, trivial, trivial, trivial, trivial, trivial⟩ ?_
    refine x_callV C (k := 13) (ci := 0) (rest := []) (avs := [.int 1, .int a2, .int a3, .int 1, .int a4, .int 31]) (k_X1_total l 1 a2 a3 1 a4 31 M L hI) yoX1_total ml_X1_37 rfl rfl rfl rfl ⟨Nat.zero_le _, Nat.zero_le _⟩ (show decode cX1_combined 86 = .ok (.invokevirtual 37, 3) from by decide +kernel) rfl (fun v σ' hPo => ?_)
    obtain ⟨⟨rfl, rfl⟩, g7, hI8⟩ := hPo
    generalize hq6 : f_X1_total 1 a2 a3 1 a4 31 M = q6 at h g7 hI8 ⊢
    obtain ⟨r6, M6⟩ := q6
    have h := xb_eq h
    try dsimp only at h g7 hI8
    show V 0 0 89 [(0, .ref 13), (1, .ref (1000 + a1)), (2, .int a2), (3, .int a3), (4, .int a4)] [.int r6] LAY (M6, L)
    subst h
    exact x_iret C (show decode cX1_combined 89 = .ok (.ireturn, 1) from by decide +kernel) (x_finI rfl ⟨⟨rfl, rfl⟩, trivial, hI8⟩) (Nat.le_refl 0) (Nat.le_refl 0)
  rw [if_neg c5] at h
  by_cases c9 : (opS.getD a1 0) = 3
  · rw [if_pos c9] at h
    refine x_tin C (show decode cX1_combined 8 = .ok (.tableswitch 165 1 10 #[56, 69, 82, 89, 102, 115, 122, 135, 145, 155], 56) from by decide +kernel) 3 c9 (off := 82) (tgt := 90) (by decide) ?_
    refine x_run C e_X1_combined_4 e_X1_combined_4_k (pc' := 93) (lv' := [(0, .ref 13), (1, .ref (1000 + a1)), (2, .int a2), (3, .int a3), (4, .int a4)]) (st' := [.int a3, .int a2, .ref 13]) (σ' := (M, L)) rfl ⟨trivial, trivial, trivial, trivial⟩ ?_
    refine x_callV C (k := 13) (ci := 0) (rest := []) (avs := [.int a2, .int a3]) (k_X1_addedInTens l a2 a3 M L hI) yoX1_addedInTens ml_X1_41 rfl rfl rfl rfl ⟨Nat.zero_le _, Nat.zero_le _⟩ (show decode cX1_combined 93 = .ok (.invokevirtual 41, 3) from by decide +kernel) rfl (fun v σ' hPo => ?_)
    obtain ⟨⟨rfl, rfl⟩, g11, hI12⟩ := hPo
    generalize hq10 : f_X1_addedInTens a2 a3 M = q10 at h g11 hI12 ⊢
    obtain ⟨r10, M10⟩ := q10
    have h := xb_eq h
    try dsimp only at h g11 hI12
    show V 0 0 96 [(0, .ref 13), (1, .ref (1000 + a1)), (2, .int a2), (3, .int a3), (4, .int a4)] [.int r10] LAY (M10, L)
    subst h
    exact x_iret C (show decode cX1_combined 96 = .ok (.ireturn, 1) from by decide +kernel) (x_finI rfl ⟨⟨rfl, rfl⟩, trivial, hI12⟩) (Nat.le_refl 0) (Nat.le_refl 0)
  rw [if_neg c9] at h
  by_cases c13 : (opS.getD a1 0) = 4
  · rw [if_pos c13] at h
    refine x_tin C (show decode cX1_combined 8 = .ok (.tableswitch 165 1 10 #[56, 69, 82, 89, 102, 115, 122, 135, 145, 155], 56) from by decide +kernel) 4 c13 (off := 89) (tgt := 97) (by decide) ?_
    refine x_run C e_X1_combined_5 e_X1_combined_5_k (pc' := 106) (lv' := [(0, .ref 13), (1, .ref (1000 + a1)), (2, .int a2), (3, .int a3), (4, .int a4)]) (st' := [.int 31, .int a4, .int (-1), .int a3, .int a2, .int 0, .ref 13]) (σ' := (M, L)) rfl ⟨trivial, trivial, trivial, trivial, trivial, trivial, trivial, trivial⟩ ?_
    refine x_callV C (k := 13) (ci := 0) (rest := []) (avs := [.int 0, .int a2, .int a3, .int (-1), .int a4, .int 31]) (k_X1_total l 0 a2 a3 (-1) a4 31 M L hI) yoX1_total ml_X1_37 rfl rfl rfl rfl ⟨Nat.zero_le _, Nat.zero_le _⟩ (show decode cX1_combined 106 = .ok (.invokevirtual 37, 3) from by decide +kernel) rfl (fun v σ' hPo => ?_)
    obtain ⟨⟨rfl, rfl⟩, g15, hI16⟩ := hPo
    generalize hq14 : f_X1_total 0 a2 a3 (-1) a4 31 M = q14 at h g15 hI16 ⊢
    obtain ⟨r14, M14⟩ := q14
    have h := xb_eq h
    try dsimp only at h g15 hI16
    show V 0 0 109 [(0, .ref 13), (1, .ref (1000 + a1)), (2, .int a2), (3, .int a3), (4, .int a4)] [.int r14] LAY (M14, L)
    subst h
    exact x_iret C (show decode cX1_combined 109 = .ok (.ireturn, 1) from by decide +kernel) (x_finI rfl ⟨⟨rfl, rfl⟩, trivial, hI16⟩) (Nat.le_refl 0) (Nat.le_refl 0)
  rw [if_neg c13] at h
  by_cases c17 : (opS.getD a1 0) = 5
  · rw [if_pos c17] at h
    refine x_tin C (show decode cX1_combined 8 = .ok (.tableswitch 165 1 10 #[56, 69, 82, 89, 102, 115, 122, 135, 145, 155], 56) from by decide +kernel) 5 c17 (off := 102) (tgt := 110) (by decide) ?_
    refine x_run C e_X1_combined_6 e_X1_combined_6_k (pc' := 119) (lv' := [(0, .ref 13), (1, .ref (1000 + a1)), (2, .int a2), (3, .int a3), (4, .int a4)]) (st' := [.int 31, .int a4, .int (-1), .int a3, .int a2, .int 1, .ref 13]) (σ' := (M, L)) rfl ⟨trivial, trivial, trivial, trivial, trivial, trivial, trivial, trivial⟩ ?_
    refine x_callV C (k := 13) (ci := 0) (rest := []) (avs := [.int 1, .int a2, .int a3, .int (-1), .int a4, .int 31]) (k_X1_total l 1 a2 a3 (-1) a4 31 M L hI) yoX1_total ml_X1_37 rfl rfl rfl rfl ⟨Nat.zero_le _, Nat.zero_le _⟩ (show decode cX1_combined 119 = .ok (.invokevirtual 37, 3) from by decide +kernel) rfl (fun v σ' hPo => ?_)
    obtain ⟨⟨rfl, rfl⟩, g19, hI20⟩ := hPo
    generalize hq18 : f_X1_total 1 a2 a3 (-1) a4 31 M = q18 at h g19 hI20 ⊢
    obtain ⟨r18, M18⟩ := q18
    have h := xb_eq h
    try dsimp only at h g19 hI20
    show V 0 0 122 [(0, .ref 13), (1, .ref (1000 + a1)), (2, .int a2), (3, .int a3), (4, .int a4)] [.int r18] LAY (M18, L)
    subst h
    exact x_iret C (show decode cX1_combined 122 = .ok (.ireturn, 1) from by decide +kernel) (x_finI rfl ⟨⟨rfl, rfl⟩, trivial, hI20⟩) (Nat.le_refl 0) (Nat.le_refl 0)
  rw [if_neg c17] at h
  by_cases c21 : (opS.getD a1 0) = 6
  · rw [if_pos c21] at h
    refine x_tin C (show decode cX1_combined 8 = .ok (.tableswitch 165 1 10 #[56, 69, 82, 89, 102, 115, 122, 135, 145, 155], 56) from by decide +kernel) 6 c21 (off := 115) (tgt := 123) (by decide) ?_
    refine x_run C e_X1_combined_7 e_X1_combined_7_k (pc' := 126) (lv' := [(0, .ref 13), (1, .ref (1000 + a1)), (2, .int a2), (3, .int a3), (4, .int a4)]) (st' := [.int a3, .int a2, .ref 13]) (σ' := (M, L)) rfl ⟨trivial, trivial, trivial, trivial⟩ ?_
    refine x_callV C (k := 13) (ci := 0) (rest := []) (avs := [.int a2, .int a3]) (k_X1_subtractedInTens l a2 a3 M L hI) yoX1_subtractedInTens ml_X1_44 rfl rfl rfl rfl ⟨Nat.zero_le _, Nat.zero_le _⟩ (show decode cX1_combined 126 = .ok (.invokevirtual 44, 3) from by decide +kernel) rfl (fun v σ' hPo => ?_)
    obtain ⟨⟨rfl, rfl⟩, g23, hI24⟩ := hPo
    generalize hq22 : f_X1_subtractedInTens a2 a3 M = q22 at h g23 hI24 ⊢
    obtain ⟨r22, M22⟩ := q22
    have h := xb_eq h
    try dsimp only at h g23 hI24
    show V 0 0 129 [(0, .ref 13), (1, .ref (1000 + a1)), (2, .int a2), (3, .int a3), (4, .int a4)] [.int r22] LAY (M22, L)
    subst h
    exact x_iret C (show decode cX1_combined 129 = .ok (.ireturn, 1) from by decide +kernel) (x_finI rfl ⟨⟨rfl, rfl⟩, trivial, hI24⟩) (Nat.le_refl 0) (Nat.le_refl 0)
  rw [if_neg c21] at h
  by_cases c25 : (opS.getD a1 0) = 7
  · rw [if_pos c25] at h
    refine x_tin C (show decode cX1_combined 8 = .ok (.tableswitch 165 1 10 #[56, 69, 82, 89, 102, 115, 122, 135, 145, 155], 56) from by decide +kernel) 7 c25 (off := 122) (tgt := 130) (by decide) ?_
    refine x_run C e_X1_combined_8 e_X1_combined_8_k (pc' := 139) (lv' := [(0, .ref 13), (1, .ref (1000 + a1)), (2, .int a2), (3, .int a3), (4, .int a4)]) (st' := [.int 15, .int a4, .int (-1), .int a3, .int a2, .int 0, .ref 13]) (σ' := (M, L)) rfl ⟨trivial, trivial, trivial, trivial, trivial, trivial, trivial, trivial⟩ ?_
    refine x_callV C (k := 13) (ci := 0) (rest := []) (avs := [.int 0, .int a2, .int a3, .int (-1), .int a4, .int 15]) (k_X1_total l 0 a2 a3 (-1) a4 15 M L hI) yoX1_total ml_X1_37 rfl rfl rfl rfl ⟨Nat.zero_le _, Nat.zero_le _⟩ (show decode cX1_combined 139 = .ok (.invokevirtual 37, 3) from by decide +kernel) rfl (fun v σ' hPo => ?_)
    obtain ⟨⟨rfl, rfl⟩, g27, hI28⟩ := hPo
    generalize hq26 : f_X1_total 0 a2 a3 (-1) a4 15 M = q26 at h g27 hI28 ⊢
    obtain ⟨r26, M26⟩ := q26
    have h := xb_eq h
    try dsimp only at h g27 hI28
    show V 0 0 142 [(0, .ref 13), (1, .ref (1000 + a1)), (2, .int a2), (3, .int a3), (4, .int a4)] [.int r26] LAY (M26, L)
    subst h
    exact x_iret C (show decode cX1_combined 142 = .ok (.ireturn, 1) from by decide +kernel) (x_finI rfl ⟨⟨rfl, rfl⟩, trivial, hI28⟩) (Nat.le_refl 0) (Nat.le_refl 0)
  rw [if_neg c25] at h
  by_cases c29 : (opS.getD a1 0) = 8
  · rw [if_pos c29] at h
    refine x_tin C (show decode cX1_combined 8 = .ok (.tableswitch 165 1 10 #[56, 69, 82, 89, 102, 115, 122, 135, 145, 155], 56) from by decide +kernel) 8 c29 (off := 135) (tgt := 143) (by decide) ?_
    refine x_run C e_X1_combined_9 e_X1_combined_9_k (pc' := 149) (lv' := [(0, .ref 13), (1, .ref (1000 + a1)), (2, .int a2), (3, .int a3), (4, .int a4)]) (st' := [.int a4, .int (a2 &&& a3), .ref 13]) (σ' := (M, L)) rfl ⟨trivial, trivial, trivial, trivial, trivial, trivial⟩ ?_
    refine x_callV C (k := 13) (ci := 0) (rest := []) (avs := [.int (a2 &&& a3), .int a4]) (k_X1_tested l (a2 &&& a3) a4 M L hI) yoX1_tested ml_X1_47 rfl rfl rfl rfl ⟨Nat.zero_le _, Nat.zero_le _⟩ (show decode cX1_combined 149 = .ok (.invokevirtual 47, 3) from by decide +kernel) rfl (fun v σ' hPo => ?_)
    obtain ⟨⟨rfl, rfl⟩, g31, hI32⟩ := hPo
    generalize hq30 : f_X1_tested (a2 &&& a3) a4 M = q30 at h g31 hI32 ⊢
    obtain ⟨r30, M30⟩ := q30
    have h := xb_eq h
    try dsimp only at h g31 hI32
    show V 0 0 152 [(0, .ref 13), (1, .ref (1000 + a1)), (2, .int a2), (3, .int a3), (4, .int a4)] [.int r30] LAY (M30, L)
    subst h
    exact x_iret C (show decode cX1_combined 152 = .ok (.ireturn, 1) from by decide +kernel) (x_finI rfl ⟨⟨rfl, rfl⟩, trivial, hI32⟩) (Nat.le_refl 0) (Nat.le_refl 0)
  rw [if_neg c29] at h
  by_cases c33 : (opS.getD a1 0) = 9
  · rw [if_pos c33] at h
    refine x_tin C (show decode cX1_combined 8 = .ok (.tableswitch 165 1 10 #[56, 69, 82, 89, 102, 115, 122, 135, 145, 155], 56) from by decide +kernel) 9 c33 (off := 145) (tgt := 153) (by decide) ?_
    refine x_run C e_X1_combined_10 e_X1_combined_10_k (pc' := 159) (lv' := [(0, .ref 13), (1, .ref (1000 + a1)), (2, .int a2), (3, .int a3), (4, .int a4)]) (st' := [.int a4, .int (a2 ||| a3), .ref 13]) (σ' := (M, L)) rfl ⟨trivial, trivial, trivial, trivial, trivial, trivial⟩ ?_
    refine x_callV C (k := 13) (ci := 0) (rest := []) (avs := [.int (a2 ||| a3), .int a4]) (k_X1_tested l (a2 ||| a3) a4 M L hI) yoX1_tested ml_X1_47 rfl rfl rfl rfl ⟨Nat.zero_le _, Nat.zero_le _⟩ (show decode cX1_combined 159 = .ok (.invokevirtual 47, 3) from by decide +kernel) rfl (fun v σ' hPo => ?_)
    obtain ⟨⟨rfl, rfl⟩, g35, hI36⟩ := hPo
    generalize hq34 : f_X1_tested (a2 ||| a3) a4 M = q34 at h g35 hI36 ⊢
    obtain ⟨r34, M34⟩ := q34
    have h := xb_eq h
    try dsimp only at h g35 hI36
    show V 0 0 162 [(0, .ref 13), (1, .ref (1000 + a1)), (2, .int a2), (3, .int a3), (4, .int a4)] [.int r34] LAY (M34, L)
    subst h
    exact x_iret C (show decode cX1_combined 162 = .ok (.ireturn, 1) from by decide +kernel) (x_finI rfl ⟨⟨rfl, rfl⟩, trivial, hI36⟩) (Nat.le_refl 0) (Nat.le_refl 0)
  rw [if_neg c33] at h
  by_cases c37 : (opS.getD a1 0) = 10
  · rw [if_pos c37] at h
    refine x_tin C (show decode cX1_combined 8 = .ok (.tableswitch 165 1 10 #[56, 69, 82, 89, 102, 115, 122, 135, 145, 155], 56) from by decide +kernel) 10 c37 (off := 155) (tgt := 163) (by decide) ?_
    refine x_run C e_X1_combined_11 e_X1_combined_11_k (pc' := 169) (lv' := [(0, .ref 13), (1, .ref (1000 + a1)), (2, .int a2), (3, .int a3), (4, .int a4)]) (st' := [.int a4, .int (a2 ^^^ a3), .ref 13]) (σ' := (M, L)) rfl ⟨trivial, trivial, trivial, trivial, trivial, trivial⟩ ?_
    refine x_callV C (k := 13) (ci := 0) (rest := []) (avs := [.int (a2 ^^^ a3), .int a4]) (k_X1_tested l (a2 ^^^ a3) a4 M L hI) yoX1_tested ml_X1_47 rfl rfl rfl rfl ⟨Nat.zero_le _, Nat.zero_le _⟩ (show decode cX1_combined 169 = .ok (.invokevirtual 47, 3) from by decide +kernel) rfl (fun v σ' hPo => ?_)
    obtain ⟨⟨rfl, rfl⟩, g39, hI40⟩ := hPo
    generalize hq38 : f_X1_tested (a2 ^^^ a3) a4 M = q38 at h g39 hI40 ⊢
    obtain ⟨r38, M38⟩ := q38
    have h := xb_eq h
    try dsimp only at h g39 hI40
    show V 0 0 172 [(0, .ref 13), (1, .ref (1000 + a1)), (2, .int a2), (3, .int a3), (4, .int a4)] [.int r38] LAY (M38, L)
    subst h
    exact x_iret C (show decode cX1_combined 172 = .ok (.ireturn, 1) from by decide +kernel) (x_finI rfl ⟨⟨rfl, rfl⟩, trivial, hI40⟩) (Nat.le_refl 0) (Nat.le_refl 0)
  rw [if_neg c37] at h
  have hz : (opS.getD a1 0).toInt < 1 ∨ 10 < (opS.getD a1 0).toInt := by
    have zc1 := lv_neT (a := 1) c1 (by decide)
    have zc5 := lv_neT (a := 2) c5 (by decide)
    have zc9 := lv_neT (a := 3) c9 (by decide)
    have zc13 := lv_neT (a := 4) c13 (by decide)
    have zc17 := lv_neT (a := 5) c17 (by decide)
    have zc21 := lv_neT (a := 6) c21 (by decide)
    have zc25 := lv_neT (a := 7) c25 (by decide)
    have zc29 := lv_neT (a := 8) c29 (by decide)
    have zc33 := lv_neT (a := 9) c33 (by decide)
    have zc37 := lv_neT (a := 10) c37 (by decide)
    omega
  refine x_tout C (show decode cX1_combined 8 = .ok (.tableswitch 165 1 10 #[56, 69, 82, 89, 102, 115, 122, 135, 145, 155], 56) from by decide +kernel) hz (tgt := 173) (by decide) ?_
  refine x_run C e_X1_combined_12 e_X1_combined_12_k (pc' := 177) (lv' := [(0, .ref 13), (1, .ref (1000 + a1)), (2, .int a2), (3, .int a3), (4, .int a4)]) (st' := [.int a4, .int a3, .ref 13]) (σ' := (M, L)) rfl ⟨trivial, trivial, trivial, trivial⟩ ?_
  refine x_callV C (k := 13) (ci := 0) (rest := []) (avs := [.int a3, .int a4]) (k_X1_tested l a3 a4 M L hI) yoX1_tested ml_X1_47 rfl rfl rfl rfl ⟨Nat.zero_le _, Nat.zero_le _⟩ (show decode cX1_combined 177 = .ok (.invokevirtual 47, 3) from by decide +kernel) rfl (fun v σ' hPo => ?_)
  obtain ⟨⟨rfl, rfl⟩, g42, hI43⟩ := hPo
  generalize hq41 : f_X1_tested a3 a4 M = q41 at h g42 hI43 ⊢
  obtain ⟨r41, M41⟩ := q41
  have h := xb_eq h
  try dsimp only at h g42 hI43
  show V 0 0 180 [(0, .ref 13), (1, .ref (1000 + a1)), (2, .int a2), (3, .int a3), (4, .int a4)] [.int r41] LAY (M41, L)
  subst h
  exact x_iret C (show decode cX1_combined 180 = .ok (.ireturn, 1) from by decide +kernel) (x_finI rfl ⟨⟨rfl, rfl⟩, trivial, hI43⟩) (Nat.le_refl 0) (Nat.le_refl 0)
-- X4_change
def e_X4_change_1 : List xI := [(0, .aload_n 0, 1, .null), (1, .getfield 30, 3, .null), (4, .getfield 65, 3, .null), (7, .istore_n 3, 1, .null), (8, .aload_n 0, 1, .null), (9, .getfield 26, 3, .null), (12, .aload_n 0, 1, .null), (13, .getfield 30, 3, .null), (16, .getfield 250, 3, .null), (19, .iload_n 3, 1, .null)]
theorem e_X4_change_1_k : e_X4_change_1.all (fun q => xokB cX4_change q && xokL q) = true := by decide +kernel
def e_X4_change_2 : List xI := [(23, .aload_n 0, 1, .null), (24, .getfield 26, 3, .null), (27, .iload_n 3, 1, .null), (28, .aload_n 0, 1, .null), (29, .getfield 39, 3, .null), (32, .aload_n 1, 1, .null), (33, .aload_n 0, 1, .null), (34, .getfield 26, 3, .null), (37, .iload_n 3, 1, .null)]
theorem e_X4_change_2_k : e_X4_change_2.all (fun q => xokB cX4_change q && xokL q) = true := by decide +kernel
def e_X4_change_3 : List xI := [(41, .iload_n 2, 1, .null), (42, .iload_n 3, 1, .null)]
theorem e_X4_change_3_k : e_X4_change_3.all (fun q => xokB cX4_change q && xokL q) = true := by decide +kernel
abbrev P_X4_change (r : St) (L : Nat → Nat → Int64) : Option Value → xG → Prop := fun v σ' => PoV r L v σ' ∧ InvK INVC r
abbrev R_X4_change : Room := { frames := 4, cells := 0, slots := 0, locals := 102 }
abbrev C_X4_change (l : Launch) (r : St) (L : Nat → Nat → Int64) (V : XJ) : Prop := XC l yX4_change.cls yX4_change.name cX4_change 4 R_X4_change 0 0 fl_X4 kc_X4 LAY.length (xfin none LAY (P_X4_change r L)) V
def f_X4_change (a1 : Nat) (a2 : Int32) (M : St) : St := (xb (f_X6_find (M 11 3) (M 11 1) M) fun q1 => (xb (f_X6_read (M 11 1) q1) fun q4 => (xb (f_X1_combined a1 q4.1 a2 (M 11 1) q4.2) fun q7 => (xb (f_X6_write (M 11 1) q7.1 q7.2) fun q10 => q10))))
set_option maxRecDepth 20000 in
set_option maxHeartbeats 4000000 in
theorem k_X4_change (l : Launch) (a1 : Nat) (a2 : Int32) (M : St) (L : Nat → Nat → Int64) (hb1 : a1 < 66) (hI : InvK INVC M) : XM l yX4_change cX4_change 4 none R_X4_change LAY [.ref 12, .ref (1000 + a1), .int a2] (M, L) (P_X4_change (f_X4_change a1 a2 M) L) := by
  refine XM.of (by decide) (Nat.le_of_ble_eq_true rfl) LAY_in cl_ok fl_X4_ok kc_X4_ok (fun V C => ?_)
  obtain ⟨r, h⟩ : ∃ r, f_X4_change a1 a2 M = r := ⟨_, rfl⟩
  rw [h] at C
  change C_X4_change l r L V at C
  unfold f_X4_change at h
  show V 0 0 0 [(0, .ref 12), (1, .ref (1000 + a1)), (2, .int a2)] [] LAY (M, L)
  refine x_run C e_X4_change_1 e_X4_change_1_k (pc' := 20) (lv' := [(3, .int (M 11 1)), (0, .ref 12), (1, .ref (1000 + a1)), (2, .int a2)]) (st' := [.int (M 11 1), .int (M 11 3), .ref 10]) (σ' := (M, L)) rfl ⟨trivial, trivial, trivial, trivial, trivial, trivial, trivial, trivial, trivial, trivial, trivial⟩ ?_
  refine x_callV C (k := 10) (ci := 4) (rest := []) (avs := [.int (M 11 3), .int (M 11 1)]) (k_X6_find l (M 11 3) (M 11 1) M L hI) yoX6_find ml_X4_241 rfl rfl rfl rfl ⟨Nat.zero_le _, Nat.zero_le _⟩ (show decode cX4_change 20 = .ok (.invokevirtual 241, 3) from by decide +kernel) rfl (fun v σ' hPo => ?_)
  obtain ⟨⟨rfl, rfl⟩, hI3⟩ := hPo
  generalize hq1 : f_X6_find (M 11 3) (M 11 1) M = q1 at h hI3 ⊢
  have h := xb_eq h
  show V 0 0 23 [(3, .int (M 11 1)), (0, .ref 12), (1, .ref (1000 + a1)), (2, .int a2)] [] LAY (q1, L)
  refine x_run C e_X4_change_2 e_X4_change_2_k (pc' := 38) (lv' := [(3, .int (M 11 1)), (0, .ref 12), (1, .ref (1000 + a1)), (2, .int a2)]) (st' := [.int (M 11 1), .ref 10, .ref (1000 + a1), .ref 13, .int (M 11 1), .ref 10]) (σ' := (q1, L)) rfl ⟨trivial, trivial, trivial, trivial, trivial, trivial, trivial, trivial, trivial, trivial⟩ ?_
  refine x_callV C (k := 10) (ci := 4) (rest := [.ref (1000 + a1), .ref 13, .int (M 11 1), .ref 10]) (avs := [.int (M 11 1)]) (k_X6_read l (M 11 1) q1 L hI3) yoX6_read ml_X4_244 rfl rfl rfl rfl ⟨Nat.zero_le _, Nat.zero_le _⟩ (show decode cX4_change 38 = .ok (.invokevirtual 244, 3) from by decide +kernel) rfl (fun v σ' hPo => ?_)
  obtain ⟨⟨rfl, rfl⟩, g5, hI6⟩ := hPo
  generalize hq4 : f_X6_read (M 11 1) q1 = q4 at h g5 hI6 ⊢
  obtain ⟨r4, M4⟩ := q4
  have h := xb_eq h
  try dsimp only at h g5 hI6
  show V 0 0 41 [(3, .int (M 11 1)), (0, .ref 12), (1, .ref (1000 + a1)), (2, .int a2)] [.int r4, .ref (1000 + a1), .ref 13, .int (M 11 1), .ref 10] LAY (M4, L)
  refine x_run C e_X4_change_3 e_X4_change_3_k (pc' := 43) (lv' := [(3, .int (M 11 1)), (0, .ref 12), (1, .ref (1000 + a1)), (2, .int a2)]) (st' := [.int (M 11 1), .int a2, .int r4, .ref (1000 + a1), .ref 13, .int (M 11 1), .ref 10]) (σ' := (M4, L)) rfl ⟨trivial, trivial, trivial⟩ ?_
  refine x_callV C (k := 13) (ci := 0) (rest := [.int (M 11 1), .ref 10]) (avs := [.ref (1000 + a1), .int r4, .int a2, .int (M 11 1)]) (k_X1_combined l a1 r4 a2 (M 11 1) M4 L hb1 hI6) yoX1_combined ml_X4_256 rfl rfl rfl rfl ⟨Nat.zero_le _, Nat.zero_le _⟩ (show decode cX4_change 43 = .ok (.invokevirtual 256, 3) from by decide +kernel) rfl (fun v σ' hPo => ?_)
  obtain ⟨⟨rfl, rfl⟩, g8, hI9⟩ := hPo
  generalize hq7 : f_X1_combined a1 r4 a2 (M 11 1) M4 = q7 at h g8 hI9 ⊢
  obtain ⟨r7, M7⟩ := q7
  have h := xb_eq h
  try dsimp only at h g8 hI9
  show V 0 0 46 [(3, .int (M 11 1)), (0, .ref 12), (1, .ref (1000 + a1)), (2, .int a2)] [.int r7, .int (M 11 1), .ref 10] LAY (M7, L)
  refine x_callV C (k := 10) (ci := 4) (rest := []) (avs := [.int (M 11 1), .int r7]) (k_X6_write l (M 11 1) r7 M7 L hI9) yoX6_write ml_X4_253 rfl rfl rfl rfl ⟨Nat.zero_le _, Nat.zero_le _⟩ (show decode cX4_change 46 = .ok (.invokevirtual 253, 3) from by decide +kernel) rfl (fun v σ' hPo => ?_)
  obtain ⟨⟨rfl, rfl⟩, hI12⟩ := hPo
  generalize hq10 : f_X6_write (M 11 1) r7 M7 = q10 at h hI12 ⊢
  have h := xb_eq h
  show V 0 0 49 [(3, .int (M 11 1)), (0, .ref 12), (1, .ref (1000 + a1)), (2, .int a2)] [] LAY (q10, L)
  subst h
  exact x_vret C (show decode cX4_change 49 = .ok (.return_, 1) from by decide +kernel) (x_finV ⟨⟨rfl, rfl⟩, hI12⟩) (Nat.le_refl 0) (Nat.le_refl 0)
-- X4_compare
def e_X4_compare_1 : List xI := [(0, .aload_n 0, 1, .null), (1, .getfield 26, 3, .null), (4, .aload_n 0, 1, .null), (5, .getfield 30, 3, .null), (8, .getfield 250, 3, .null), (11, .aload_n 0, 1, .null), (12, .getfield 30, 3, .null), (15, .getfield 65, 3, .null)]
theorem e_X4_compare_1_k : e_X4_compare_1.all (fun q => xokB cX4_compare q && xokL q) = true := by decide +kernel
def e_X4_compare_2 : List xI := [(21, .aload_n 0, 1, .null), (22, .getfield 39, 3, .null)]
theorem e_X4_compare_2_k : e_X4_compare_2.all (fun q => xokB cX4_compare q && xokL q) = true := by decide +kernel
def e_X4_compare_3 : List xI := [(28, .aload_n 0, 1, .null), (29, .getfield 26, 3, .null), (32, .aload_n 0, 1, .null), (33, .getfield 30, 3, .null), (36, .getfield 65, 3, .null)]
theorem e_X4_compare_3_k : e_X4_compare_3.all (fun q => xokB cX4_compare q && xokL q) = true := by decide +kernel
def e_X4_compare_4 : List xI := [(42, .iload_n 1, 1, .null), (43, .aload_n 0, 1, .null), (44, .getfield 30, 3, .null), (47, .getfield 65, 3, .null)]
theorem e_X4_compare_4_k : e_X4_compare_4.all (fun q => xokB cX4_compare q && xokL q) = true := by decide +kernel
def e_X4_compare_5 : List xI := [(53, .pop, 1, .null)]
theorem e_X4_compare_5_k : e_X4_compare_5.all (fun q => xokB cX4_compare q && xokL q) = true := by decide +kernel
abbrev P_X4_compare (r : St) (L : Nat → Nat → Int64) : Option Value → xG → Prop := fun v σ' => PoV r L v σ' ∧ InvK INVC r
abbrev R_X4_compare : Room := { frames := 4, cells := 0, slots := 0, locals := 102 }
abbrev C_X4_compare (l : Launch) (r : St) (L : Nat → Nat → Int64) (V : XJ) : Prop := XC l yX4_compare.cls yX4_compare.name cX4_compare 2 R_X4_compare 0 0 fl_X4 kc_X4 LAY.length (xfin none LAY (P_X4_compare r L)) V
def f_X4_compare (a1 : Int32) (M : St) : St := (xb (f_X6_find (M 11 3) (M 11 1) M) fun q1 => (xb (f_X6_read (q1 11 1) q1) fun q4 => (xb (f_X1_combined 7 q4.1 a1 (q4.2 11 1) q4.2) fun q7 => q7.2)))
set_option maxRecDepth 20000 in
set_option maxHeartbeats 4000000 in
theorem k_X4_compare (l : Launch) (a1 : Int32) (M : St) (L : Nat → Nat → Int64) (hI : InvK INVC M) : XM l yX4_compare cX4_compare 2 none R_X4_compare LAY [.ref 12, .int a1] (M, L) (P_X4_compare (f_X4_compare a1 M) L) := by
  refine XM.of (by decide) (Nat.le_of_ble_eq_true rfl) LAY_in cl_ok fl_X4_ok kc_X4_ok (fun V C => ?_)
  obtain ⟨r, h⟩ : ∃ r, f_X4_compare a1 M = r := ⟨_, rfl⟩
  rw [h] at C
  change C_X4_compare l r L V at C
  unfold f_X4_compare at h
  show V 0 0 0 [(0, .ref 12), (1, .int a1)] [] LAY (M, L)
  refine x_run C e_X4_compare_1 e_X4_compare_1_k (pc' := 18) (lv' := [(0, .ref 12), (1, .int a1)]) (st' := [.int (M 11 1), .int (M 11 3), .ref 10]) (σ' := (M, L)) rfl ⟨trivial, trivial, trivial, trivial, trivial, trivial, trivial, trivial, trivial⟩ ?_
  refine x_callV C (k := 10) (ci := 4) (rest := []) (avs := [.int (M 11 3), .int (M 11 1)]) (k_X6_find l (M 11 3) (M 11 1) M L hI) yoX6_find ml_X4_241 rfl rfl rfl rfl ⟨Nat.zero_le _, Nat.zero_le _⟩ (show decode cX4_compare 18 = .ok (.invokevirtual 241, 3) from by decide +kernel) rfl (fun v σ' hPo => ?_)
  obtain ⟨⟨rfl, rfl⟩, hI3⟩ := hPo
  generalize hq1 : f_X6_find (M 11 3) (M 11 1) M = q1 at h hI3 ⊢
  have h := xb_eq h
  show V 0 0 21 [(0, .ref 12), (1, .int a1)] [] LAY (q1, L)
  refine x_run C e_X4_compare_2 e_X4_compare_2_k (pc' := 25) (lv' := [(0, .ref 12), (1, .int a1)]) (st' := [.ref 13]) (σ' := (q1, L)) rfl ⟨trivial, trivial, trivial⟩ ?_
  refine x_getE C 7 (by decide) (x_in 1019 (by decide +kernel) rfl) (show decode cX4_compare 25 = .ok (.getstatic 260, 3) from by decide +kernel) ?_
  refine x_run C e_X4_compare_3 e_X4_compare_3_k (pc' := 39) (lv' := [(0, .ref 12), (1, .int a1)]) (st' := [.int (q1 11 1), .ref 10, .ref (1000 + 7), .ref 13]) (σ' := (q1, L)) rfl ⟨trivial, trivial, trivial, trivial, trivial, trivial⟩ ?_
  refine x_callV C (k := 10) (ci := 4) (rest := [.ref (1000 + 7), .ref 13]) (avs := [.int (q1 11 1)]) (k_X6_read l (q1 11 1) q1 L hI3) yoX6_read ml_X4_244 rfl rfl rfl rfl ⟨Nat.zero_le _, Nat.zero_le _⟩ (show decode cX4_compare 39 = .ok (.invokevirtual 244, 3) from by decide +kernel) rfl (fun v σ' hPo => ?_)
  obtain ⟨⟨rfl, rfl⟩, g5, hI6⟩ := hPo
  generalize hq4 : f_X6_read (q1 11 1) q1 = q4 at h g5 hI6 ⊢
  obtain ⟨r4, M4⟩ := q4
  have h := xb_eq h
  try dsimp only at h g5 hI6
  show V 0 0 42 [(0, .ref 12), (1, .int a1)] [.int r4, .ref (1000 + 7), .ref 13] LAY (M4, L)
  refine x_run C e_X4_compare_4 e_X4_compare_4_k (pc' := 50) (lv' := [(0, .ref 12), (1, .int a1)]) (st' := [.int (M4 11 1), .int a1, .int r4, .ref (1000 + 7), .ref 13]) (σ' := (M4, L)) rfl ⟨trivial, trivial, trivial, trivial, trivial⟩ ?_
  refine x_callV C (k := 13) (ci := 0) (rest := []) (avs := [.ref (1000 + 7), .int r4, .int a1, .int (M4 11 1)]) (k_X1_combined l 7 r4 a1 (M4 11 1) M4 L (show 7 < 66 by decide) hI6) yoX1_combined ml_X4_256 rfl rfl rfl rfl ⟨Nat.zero_le _, Nat.zero_le _⟩ (show decode cX4_compare 50 = .ok (.invokevirtual 256, 3) from by decide +kernel) rfl (fun v σ' hPo => ?_)
  obtain ⟨⟨rfl, rfl⟩, g8, hI9⟩ := hPo
  generalize hq7 : f_X1_combined 7 r4 a1 (M4 11 1) M4 = q7 at h g8 hI9 ⊢
  obtain ⟨r7, M7⟩ := q7
  have h := xb_eq h
  try dsimp only at h g8 hI9
  show V 0 0 53 [(0, .ref 12), (1, .int a1)] [.int r7] LAY (M7, L)
  refine x_run C e_X4_compare_5 e_X4_compare_5_k (pc' := 54) (lv' := [(0, .ref 12), (1, .int a1)]) (st' := []) (σ' := (M7, L)) rfl ⟨trivial, trivial⟩ ?_
  subst h
  exact x_vret C (show decode cX4_compare 54 = .ok (.return_, 1) from by decide +kernel) (x_finV ⟨⟨rfl, rfl⟩, hI9⟩) (Nat.le_refl 0) (Nat.le_refl 0)
-- X4_changeAddress
def e_X4_changeAddress_1 : List xI := [(0, .iload_n 2, 1, .null), (1, .aload_n 0, 1, .null), (2, .getfield 30, 3, .null), (5, .getfield 65, 3, .null)]
theorem e_X4_changeAddress_1_k : e_X4_changeAddress_1.all (fun q => xokB cX4_changeAddress q && xokL q) = true := by decide +kernel
def e_X4_changeAddress_2 : List xI := [(11, .istore_n 3, 1, .null), (12, .bipush 8, 2, .int 8), (14, .aload_n 0, 1, .null), (15, .getfield 30, 3, .null), (18, .getfield 250, 3, .null), (21, .bipush 7, 2, .int 7), (23, .iand, 1, .null), (24, .iadd, 1, .null), (25, .istore 4, 2, .null), (27, .aload_n 0, 1, .null), (28, .getfield 21, 3, .null), (31, .iload 4, 2, .null), (33, .iaload, 1, .null), (34, .istore 5, 2, .null), (36, .aload_n 0, 1, .null), (37, .getfield 21, 3, .null), (40, .iload 4, 2, .null), (42, .aload_n 1, 1, .null)]
theorem e_X4_changeAddress_2_k : e_X4_changeAddress_2.all (fun q => xokB cX4_changeAddress q && xokL q) = true := by decide +kernel
def e_X4_changeAddress_3 : List xI := [(56, .aload_n 1, 1, .null)]
theorem e_X4_changeAddress_3_k : e_X4_changeAddress_3.all (fun q => xokB cX4_changeAddress q && xokL q) = true := by decide +kernel
def e_X4_changeAddress_4 : List xI := [(70, .iload_n 3, 1, .null)]
theorem e_X4_changeAddress_4_k : e_X4_changeAddress_4.all (fun q => xokB cX4_changeAddress q && xokL q) = true := by decide +kernel
def e_X4_changeAddress_5 : List xI := [(63, .iload 5, 2, .null), (65, .iload_n 3, 1, .null), (66, .isub, 1, .null)]
theorem e_X4_changeAddress_5_k : e_X4_changeAddress_5.all (fun q => xokB cX4_changeAddress q && xokL q) = true := by decide +kernel
def e_X4_changeAddress_6 : List xI := [(49, .iload 5, 2, .null), (51, .iload_n 3, 1, .null), (52, .iadd, 1, .null)]
theorem e_X4_changeAddress_6_k : e_X4_changeAddress_6.all (fun q => xokB cX4_changeAddress q && xokL q) = true := by decide +kernel
def e_X4_changeAddress_7 : List xI := [(71, .iastore, 1, .null)]
theorem e_X4_changeAddress_7_k : e_X4_changeAddress_7.all (fun q => xokB cX4_changeAddress q && xokL q) = true := by decide +kernel
abbrev P_X4_changeAddress (r : St) (L : Nat → Nat → Int64) : Option Value → xG → Prop := fun v σ' => PoV r L v σ' ∧ InvK INVC r
abbrev R_X4_changeAddress : Room := { frames := 1, cells := 0, slots := 0, locals := 21 }
abbrev C_X4_changeAddress (l : Launch) (r : St) (L : Nat → Nat → Int64) (V : XJ) : Prop := XC l yX4_changeAddress.cls yX4_changeAddress.name cX4_changeAddress 6 R_X4_changeAddress 0 0 fl_X4 kc_X4 LAY.length (xfin none LAY (P_X4_changeAddress r L)) V
def f_X4_changeAddress_71 (s0 : Int32) (s1 : Int32) (M : St) : St := (xup M 2 s1.toNatClampNeg s0)
def f_X4_changeAddress (a1 : Nat) (a2 : Int32) (M : St) : St := (if a1 = 12 then f_X4_changeAddress_71 ((M 2 (8 + ((M 11 3) &&& 7)).toNatClampNeg) + (f_X10_extended a2 (M 11 1))) (8 + ((M 11 3) &&& 7)) M else (if a1 = 13 then f_X4_changeAddress_71 ((M 2 (8 + ((M 11 3) &&& 7)).toNatClampNeg) - (f_X10_extended a2 (M 11 1))) (8 + ((M 11 3) &&& 7)) M else f_X4_changeAddress_71 (f_X10_extended a2 (M 11 1)) (8 + ((M 11 3) &&& 7)) M))
set_option maxRecDepth 20000 in
set_option maxHeartbeats 4000000 in
theorem b_X4_changeAddress_71 {l : Launch} {L : Nat → Nat → Int64} {V : XJ} (r : St) (C : C_X4_changeAddress l r L V) (s0 : Int32) (s1 : Int32) (M : St) (ws1 : xrg 8 15 s1) (hI : InvK INVC M) (h : f_X4_changeAddress_71 s0 s1 M = r) : V 0 0 71 [] [.int s0, .int s1, .ref 2] LAY (M, L) := by
  unfold f_X4_changeAddress_71 at h
  refine x_run C e_X4_changeAddress_7 e_X4_changeAddress_7_k (pc' := 72) (lv' := []) (st' := []) (σ' := ((xup M 2 s1.toNatClampNeg s0), L)) rfl ⟨(x_rgv ws1 (by decide) (by decide)), trivial⟩ ?_
  have hI6 : InvK INVC (xup M 2 s1.toNatClampNeg s0) := (hI.arr 2 (s1.toNatClampNeg) s0 (by decide))
  subst h
  exact x_vret C (show decode cX4_changeAddress 72 = .ok (.return_, 1) from by decide +kernel) (x_finV ⟨⟨rfl, rfl⟩, hI6⟩) (Nat.le_refl 0) (Nat.le_refl 0)
set_option maxRecDepth 20000 in
set_option maxHeartbeats 4000000 in
theorem k_X4_changeAddress (l : Launch) (a1 : Nat) (a2 : Int32) (M : St) (L : Nat → Nat → Int64) (hb1 : a1 < 66) (hI : InvK INVC M) : XM l yX4_changeAddress cX4_changeAddress 6 none R_X4_changeAddress LAY [.ref 12, .ref (1000 + a1), .int a2] (M, L) (P_X4_changeAddress (f_X4_changeAddress a1 a2 M) L) := by
  refine XM.of (by decide) (Nat.le_of_ble_eq_true rfl) LAY_in cl_ok fl_X4_ok kc_X4_ok (fun V C => ?_)
  obtain ⟨r, h⟩ : ∃ r, f_X4_changeAddress a1 a2 M = r := ⟨_, rfl⟩
  rw [h] at C
  change C_X4_changeAddress l r L V at C
  unfold f_X4_changeAddress at h
  show V 0 0 0 [(0, .ref 12), (1, .ref (1000 + a1)), (2, .int a2)] [] LAY (M, L)
  refine x_run C e_X4_changeAddress_1 e_X4_changeAddress_1_k (pc' := 8) (lv' := [(0, .ref 12), (1, .ref (1000 + a1)), (2, .int a2)]) (st' := [.int (M 11 1), .int a2]) (σ' := (M, L)) rfl ⟨trivial, trivial, trivial, trivial, trivial⟩ ?_
  refine x_callSN C (rest := []) (avs := [.int a2, .int (M 11 1)]) (k_X10_extended l a2 (M 11 1) M L) yoX10_extended ml_X4_97 rfl ⟨Nat.zero_le _, Nat.zero_le _⟩ (show decode cX4_changeAddress 8 = .ok (.invokestatic 97, 3) from by decide +kernel) rfl (fun v σ' hPo => ?_)
  obtain ⟨⟨rfl, rfl⟩, g2, -⟩ := hPo
  show V 0 0 11 [(0, .ref 12), (1, .ref (1000 + a1)), (2, .int a2)] [.int (f_X10_extended a2 (M 11 1))] LAY (M, L)
  refine x_run C e_X4_changeAddress_2 e_X4_changeAddress_2_k (pc' := 43) (lv' := [(5, .int (M 2 (8 + ((M 11 3) &&& 7)).toNatClampNeg)), (4, .int (8 + ((M 11 3) &&& 7))), (3, .int (f_X10_extended a2 (M 11 1))), (0, .ref 12), (1, .ref (1000 + a1)), (2, .int a2)]) (st' := [.ref (1000 + a1), .int (8 + ((M 11 3) &&& 7)), .ref 2]) (σ' := (M, L)) rfl ⟨trivial, trivial, trivial, trivial, trivial, trivial, trivial, trivial, trivial, trivial, trivial, trivial, (x_rgv (x_rg_add (x_rgc (x := 8) (k := 8) (by decide)) (x_rg_and (x := (M 11 3)) (m := 7) (k := 7) (by decide) (by decide)) (by decide) (by decide)) (by decide) (by decide)), trivial, trivial, trivial, trivial, trivial, trivial⟩ ?_
  refine x_getE C 12 (by decide) (x_in 1025 (by decide +kernel) rfl) (show decode cX4_changeAddress 43 = .ok (.getstatic 263, 3) from by decide +kernel) ?_
  refine x_acmp_ne C hb1 (show 12 < 66 by decide) (show decode cX4_changeAddress 46 = .ok (.if_acmp .ne 10, 3) from by decide +kernel) (tgt := 56) (by decide) (fun c4 => ?_) (fun c4 => ?_)
  · rw [if_neg c4] at h
    refine x_run C e_X4_changeAddress_3 e_X4_changeAddress_3_k (pc' := 57) (lv' := [(5, .int (M 2 (8 + ((M 11 3) &&& 7)).toNatClampNeg)), (4, .int (8 + ((M 11 3) &&& 7))), (3, .int (f_X10_extended a2 (M 11 1))), (0, .ref 12), (1, .ref (1000 + a1)), (2, .int a2)]) (st' := [.ref (1000 + a1), .int (8 + ((M 11 3) &&& 7)), .ref 2]) (σ' := (M, L)) rfl ⟨trivial, trivial⟩ ?_
    refine x_getE C 13 (by decide) (x_in 1026 (by decide +kernel) rfl) (show decode cX4_changeAddress 57 = .ok (.getstatic 266, 3) from by decide +kernel) ?_
    refine x_acmp_ne C hb1 (show 13 < 66 by decide) (show decode cX4_changeAddress 60 = .ok (.if_acmp .ne 10, 3) from by decide +kernel) (tgt := 70) (by decide) (fun c5 => ?_) (fun c5 => ?_)
    · rw [if_neg c5] at h
      refine x_run C e_X4_changeAddress_4 e_X4_changeAddress_4_k (pc' := 71) (lv' := [(5, .int (M 2 (8 + ((M 11 3) &&& 7)).toNatClampNeg)), (4, .int (8 + ((M 11 3) &&& 7))), (3, .int (f_X10_extended a2 (M 11 1))), (0, .ref 12), (1, .ref (1000 + a1)), (2, .int a2)]) (st' := [.int (f_X10_extended a2 (M 11 1)), .int (8 + ((M 11 3) &&& 7)), .ref 2]) (σ' := (M, L)) rfl ⟨trivial, trivial⟩ ?_
      refine x_lv C [] rfl ?_
      exact b_X4_changeAddress_71 r C (f_X10_extended a2 (M 11 1)) (8 + ((M 11 3) &&& 7)) M (x_rg_add (x_rgc (x := 8) (k := 8) (by decide)) (x_rg_and (x := (M 11 3)) (m := 7) (k := 7) (by decide) (by decide)) (by decide) (by decide)) hI h
    · rw [if_pos c5] at h
      refine x_run C e_X4_changeAddress_5 e_X4_changeAddress_5_k (pc' := 67) (lv' := [(5, .int (M 2 (8 + ((M 11 3) &&& 7)).toNatClampNeg)), (4, .int (8 + ((M 11 3) &&& 7))), (3, .int (f_X10_extended a2 (M 11 1))), (0, .ref 12), (1, .ref (1000 + a1)), (2, .int a2)]) (st' := [.int ((M 2 (8 + ((M 11 3) &&& 7)).toNatClampNeg) - (f_X10_extended a2 (M 11 1))), .int (8 + ((M 11 3) &&& 7)), .ref 2]) (σ' := (M, L)) rfl ⟨trivial, trivial, trivial, trivial⟩ ?_
      refine x_goto C (show decode cX4_changeAddress 67 = .ok (.goto 4, 3) from by decide +kernel) (tgt := 71) (by decide) ?_
      refine x_lv C [] rfl ?_
      exact b_X4_changeAddress_71 r C ((M 2 (8 + ((M 11 3) &&& 7)).toNatClampNeg) - (f_X10_extended a2 (M 11 1))) (8 + ((M 11 3) &&& 7)) M (x_rg_add (x_rgc (x := 8) (k := 8) (by decide)) (x_rg_and (x := (M 11 3)) (m := 7) (k := 7) (by decide) (by decide)) (by decide) (by decide)) hI h
  · rw [if_pos c4] at h
    refine x_run C e_X4_changeAddress_6 e_X4_changeAddress_6_k (pc' := 53) (lv' := [(5, .int (M 2 (8 + ((M 11 3) &&& 7)).toNatClampNeg)), (4, .int (8 + ((M 11 3) &&& 7))), (3, .int (f_X10_extended a2 (M 11 1))), (0, .ref 12), (1, .ref (1000 + a1)), (2, .int a2)]) (st' := [.int ((M 2 (8 + ((M 11 3) &&& 7)).toNatClampNeg) + (f_X10_extended a2 (M 11 1))), .int (8 + ((M 11 3) &&& 7)), .ref 2]) (σ' := (M, L)) rfl ⟨trivial, trivial, trivial, trivial⟩ ?_
    refine x_goto C (show decode cX4_changeAddress 53 = .ok (.goto 18, 3) from by decide +kernel) (tgt := 71) (by decide) ?_
    refine x_lv C [] rfl ?_
    exact b_X4_changeAddress_71 r C ((M 2 (8 + ((M 11 3) &&& 7)).toNatClampNeg) + (f_X10_extended a2 (M 11 1))) (8 + ((M 11 3) &&& 7)) M (x_rg_add (x_rgc (x := 8) (k := 8) (by decide)) (x_rg_and (x := (M 11 3)) (m := 7) (k := 7) (by decide) (by decide)) (by decide) (by decide)) hI h
-- X4_compareAddress
def e_X4_compareAddress_1 : List xI := [(0, .aload_n 0, 1, .null), (1, .getfield 21, 3, .null), (4, .bipush 8, 2, .int 8), (6, .aload_n 0, 1, .null), (7, .getfield 30, 3, .null), (10, .getfield 250, 3, .null), (13, .bipush 7, 2, .int 7), (15, .iand, 1, .null), (16, .iadd, 1, .null), (17, .iaload, 1, .null), (18, .istore_n 2, 1, .null), (19, .aload_n 0, 1, .null), (20, .getfield 39, 3, .null)]
theorem e_X4_compareAddress_1_k : e_X4_compareAddress_1.all (fun q => xokB cX4_compareAddress q && xokL q) = true := by decide +kernel
def e_X4_compareAddress_2 : List xI := [(26, .iload_n 2, 1, .null), (27, .iload_n 1, 1, .null), (28, .aload_n 0, 1, .null), (29, .getfield 30, 3, .null), (32, .getfield 65, 3, .null)]
theorem e_X4_compareAddress_2_k : e_X4_compareAddress_2.all (fun q => xokB cX4_compareAddress q && xokL q) = true := by decide +kernel
def e_X4_compareAddress_3 : List xI := [(38, .iconst 2, 1, .int 2)]
theorem e_X4_compareAddress_3_k : e_X4_compareAddress_3.all (fun q => xokB cX4_compareAddress q && xokL q) = true := by decide +kernel
def e_X4_compareAddress_4 : List xI := [(42, .pop, 1, .null)]
theorem e_X4_compareAddress_4_k : e_X4_compareAddress_4.all (fun q => xokB cX4_compareAddress q && xokL q) = true := by decide +kernel
abbrev P_X4_compareAddress (r : St) (L : Nat → Nat → Int64) : Option Value → xG → Prop := fun v σ' => PoV r L v σ' ∧ InvK INVC r
abbrev R_X4_compareAddress : Room := { frames := 4, cells := 0, slots := 0, locals := 102 }
abbrev C_X4_compareAddress (l : Launch) (r : St) (L : Nat → Nat → Int64) (V : XJ) : Prop := XC l yX4_compareAddress.cls yX4_compareAddress.name cX4_compareAddress 3 R_X4_compareAddress 0 0 fl_X4 kc_X4 LAY.length (xfin none LAY (P_X4_compareAddress r L)) V
def f_X4_compareAddress (a1 : Int32) (M : St) : St := (xb (f_X1_combined 7 (M 2 (8 + ((M 11 3) &&& 7)).toNatClampNeg) (f_X10_extended a1 (M 11 1)) 2 M) fun q4 => q4.2)
set_option maxRecDepth 20000 in
set_option maxHeartbeats 4000000 in
theorem k_X4_compareAddress (l : Launch) (a1 : Int32) (M : St) (L : Nat → Nat → Int64) (hI : InvK INVC M) : XM l yX4_compareAddress cX4_compareAddress 3 none R_X4_compareAddress LAY [.ref 12, .int a1] (M, L) (P_X4_compareAddress (f_X4_compareAddress a1 M) L) := by
  refine XM.of (by decide) (Nat.le_of_ble_eq_true rfl) LAY_in cl_ok fl_X4_ok kc_X4_ok (fun V C => ?_)
  obtain ⟨r, h⟩ : ∃ r, f_X4_compareAddress a1 M = r := ⟨_, rfl⟩
  rw [h] at C
  change C_X4_compareAddress l r L V at C
  unfold f_X4_compareAddress at h
  show V 0 0 0 [(0, .ref 12), (1, .int a1)] [] LAY (M, L)
  refine x_run C e_X4_compareAddress_1 e_X4_compareAddress_1_k (pc' := 23) (lv' := [(2, .int (M 2 (8 + ((M 11 3) &&& 7)).toNatClampNeg)), (0, .ref 12), (1, .int a1)]) (st' := [.ref 13]) (σ' := (M, L)) rfl ⟨trivial, trivial, trivial, trivial, trivial, trivial, trivial, trivial, trivial, (x_rgv (x_rg_add (x_rgc (x := 8) (k := 8) (by decide)) (x_rg_and (x := (M 11 3)) (m := 7) (k := 7) (by decide) (by decide)) (by decide) (by decide)) (by decide) (by decide)), trivial, trivial, trivial, trivial⟩ ?_
  refine x_getE C 7 (by decide) (x_in 1019 (by decide +kernel) rfl) (show decode cX4_compareAddress 23 = .ok (.getstatic 260, 3) from by decide +kernel) ?_
  refine x_run C e_X4_compareAddress_2 e_X4_compareAddress_2_k (pc' := 35) (lv' := [(2, .int (M 2 (8 + ((M 11 3) &&& 7)).toNatClampNeg)), (0, .ref 12), (1, .int a1)]) (st' := [.int (M 11 1), .int a1, .int (M 2 (8 + ((M 11 3) &&& 7)).toNatClampNeg), .ref (1000 + 7), .ref 13]) (σ' := (M, L)) rfl ⟨trivial, trivial, trivial, trivial, trivial, trivial⟩ ?_
  refine x_callSN C (rest := [.int (M 2 (8 + ((M 11 3) &&& 7)).toNatClampNeg), .ref (1000 + 7), .ref 13]) (avs := [.int a1, .int (M 11 1)]) (k_X10_extended l a1 (M 11 1) M L) yoX10_extended ml_X4_97 rfl ⟨Nat.zero_le _, Nat.zero_le _⟩ (show decode cX4_compareAddress 35 = .ok (.invokestatic 97, 3) from by decide +kernel) rfl (fun v σ' hPo => ?_)
  obtain ⟨⟨rfl, rfl⟩, g2, -⟩ := hPo
  show V 0 0 38 [(2, .int (M 2 (8 + ((M 11 3) &&& 7)).toNatClampNeg)), (0, .ref 12), (1, .int a1)] [.int (f_X10_extended a1 (M 11 1)), .int (M 2 (8 + ((M 11 3) &&& 7)).toNatClampNeg), .ref (1000 + 7), .ref 13] LAY (M, L)
  refine x_run C e_X4_compareAddress_3 e_X4_compareAddress_3_k (pc' := 39) (lv' := [(2, .int (M 2 (8 + ((M 11 3) &&& 7)).toNatClampNeg)), (0, .ref 12), (1, .int a1)]) (st' := [.int 2, .int (f_X10_extended a1 (M 11 1)), .int (M 2 (8 + ((M 11 3) &&& 7)).toNatClampNeg), .ref (1000 + 7), .ref 13]) (σ' := (M, L)) rfl ⟨trivial, trivial⟩ ?_
  refine x_callV C (k := 13) (ci := 0) (rest := []) (avs := [.ref (1000 + 7), .int (M 2 (8 + ((M 11 3) &&& 7)).toNatClampNeg), .int (f_X10_extended a1 (M 11 1)), .int 2]) (k_X1_combined l 7 (M 2 (8 + ((M 11 3) &&& 7)).toNatClampNeg) (f_X10_extended a1 (M 11 1)) 2 M L (show 7 < 66 by decide) hI) yoX1_combined ml_X4_256 rfl rfl rfl rfl ⟨Nat.zero_le _, Nat.zero_le _⟩ (show decode cX4_compareAddress 39 = .ok (.invokevirtual 256, 3) from by decide +kernel) rfl (fun v σ' hPo => ?_)
  obtain ⟨⟨rfl, rfl⟩, g5, hI6⟩ := hPo
  generalize hq4 : f_X1_combined 7 (M 2 (8 + ((M 11 3) &&& 7)).toNatClampNeg) (f_X10_extended a1 (M 11 1)) 2 M = q4 at h g5 hI6 ⊢
  obtain ⟨r4, M4⟩ := q4
  have h := xb_eq h
  try dsimp only at h g5 hI6
  show V 0 0 42 [(2, .int (M 2 (8 + ((M 11 3) &&& 7)).toNatClampNeg)), (0, .ref 12), (1, .int a1)] [.int r4] LAY (M4, L)
  refine x_run C e_X4_compareAddress_4 e_X4_compareAddress_4_k (pc' := 43) (lv' := [(2, .int (M 2 (8 + ((M 11 3) &&& 7)).toNatClampNeg)), (0, .ref 12), (1, .int a1)]) (st' := []) (σ' := (M4, L)) rfl ⟨trivial, trivial⟩ ?_
  subst h
  exact x_vret C (show decode cX4_compareAddress 43 = .ok (.return_, 1) from by decide +kernel) (x_finV ⟨⟨rfl, rfl⟩, hI6⟩) (Nat.le_refl 0) (Nat.le_refl 0)
-- X4_multiply
def e_X4_multiply_1 : List xI := [(0, .aload_n 0, 1, .null), (1, .getfield 30, 3, .null)]
theorem e_X4_multiply_1_k : e_X4_multiply_1.all (fun q => xokB cX4_multiply q && xokL q) = true := by decide +kernel
def e_X4_multiply_2 : List xI := [(7, .istore_n 2, 1, .null), (8, .aload_n 0, 1, .null), (9, .getfield 21, 3, .null), (12, .iload_n 2, 1, .null), (13, .iaload, 1, .null), (14, .ldc_w 269, 3, .null), (17, .iand, 1, .null), (18, .istore_n 3, 1, .null), (19, .aload_n 0, 1, .null), (20, .getfield 30, 3, .null)]
theorem e_X4_multiply_2_k : e_X4_multiply_2.all (fun q => xokB cX4_multiply q && xokL q) = true := by decide +kernel
def e_X4_multiply_3 : List xI := [(35, .iload_n 3, 1, .null), (36, .iconst 1, 1, .int 1)]
theorem e_X4_multiply_3_k : e_X4_multiply_3.all (fun q => xokB cX4_multiply q && xokL q) = true := by decide +kernel
def e_X4_multiply_4 : List xI := [(40, .iload_n 1, 1, .null), (41, .iconst 1, 1, .int 1)]
theorem e_X4_multiply_4_k : e_X4_multiply_4.all (fun q => xokB cX4_multiply q && xokL q) = true := by decide +kernel
def e_X4_multiply_5 : List xI := [(45, .imul, 1, .null)]
theorem e_X4_multiply_5_k : e_X4_multiply_5.all (fun q => xokB cX4_multiply q && xokL q) = true := by decide +kernel
def e_X4_multiply_6 : List xI := [(29, .iload_n 3, 1, .null), (30, .iload_n 1, 1, .null), (31, .imul, 1, .null)]
theorem e_X4_multiply_6_k : e_X4_multiply_6.all (fun q => xokB cX4_multiply q && xokL q) = true := by decide +kernel
def e_X4_multiply_7 : List xI := [(46, .istore 4, 2, .null), (48, .aload_n 0, 1, .null), (49, .getfield 21, 3, .null), (52, .iload_n 2, 1, .null), (53, .aload_n 0, 1, .null), (54, .getfield 39, 3, .null), (57, .iload 4, 2, .null), (59, .iconst 2, 1, .int 2)]
theorem e_X4_multiply_7_k : e_X4_multiply_7.all (fun q => xokB cX4_multiply q && xokL q) = true := by decide +kernel
def e_X4_multiply_8 : List xI := [(63, .iastore, 1, .null)]
theorem e_X4_multiply_8_k : e_X4_multiply_8.all (fun q => xokB cX4_multiply q && xokL q) = true := by decide +kernel
abbrev P_X4_multiply (r : St) (L : Nat → Nat → Int64) : Option Value → xG → Prop := fun v σ' => PoV r L v σ' ∧ InvK INVC r
abbrev R_X4_multiply : Room := { frames := 3, cells := 0, slots := 0, locals := 65 }
abbrev C_X4_multiply (l : Launch) (r : St) (L : Nat → Nat → Int64) (V : XJ) : Prop := XC l yX4_multiply.cls yX4_multiply.name cX4_multiply 5 R_X4_multiply 0 0 fl_X4 kc_X4 LAY.length (xfin none LAY (P_X4_multiply r L)) V
def f_X4_multiply_46 (x2 : Int32) (s0 : Int32) (M : St) : St := (xb (f_X1_tested s0 2 M) fun q16 => (xup q16.2 2 x2.toNatClampNeg q16.1))
def f_X4_multiply (a1 : Int32) (M : St) : St := (if (f_X3_bit8  M) = 0 then f_X4_multiply_46 (f_X3_upperRegister  M) (((M 2 (f_X3_upperRegister  M).toNatClampNeg) &&& 65535) * a1) M else (xb (f_X10_extended ((M 2 (f_X3_upperRegister  M).toNatClampNeg) &&& 65535) 1) fun q9 => f_X4_multiply_46 (f_X3_upperRegister  M) (q9 * (f_X10_extended a1 1)) M))
set_option maxRecDepth 20000 in
set_option maxHeartbeats 4000000 in
theorem b_X4_multiply_46 {l : Launch} {L : Nat → Nat → Int64} {V : XJ} (r : St) (C : C_X4_multiply l r L V) (x2 : Int32) (s0 : Int32) (M : St) (wx2 : xrg 0 7 x2) (hI : InvK INVC M) (h : f_X4_multiply_46 x2 s0 M = r) : V 0 0 46 [(0, .ref 12), (2, .int x2)] [.int s0] LAY (M, L) := by
  unfold f_X4_multiply_46 at h
  refine x_run C e_X4_multiply_7 e_X4_multiply_7_k (pc' := 60) (lv' := [(4, .int s0), (0, .ref 12), (2, .int x2)]) (st' := [.int 2, .int s0, .ref 13, .int x2, .ref 2]) (σ' := (M, L)) rfl ⟨trivial, trivial, trivial, trivial, trivial, trivial, trivial, trivial, trivial⟩ ?_
  refine x_callV C (k := 13) (ci := 0) (rest := [.int x2, .ref 2]) (avs := [.int s0, .int 2]) (k_X1_tested l s0 2 M L hI) yoX1_tested ml_X4_70 rfl rfl rfl rfl ⟨Nat.zero_le _, Nat.zero_le _⟩ (show decode cX4_multiply 60 = .ok (.invokevirtual 70, 3) from by decide +kernel) rfl (fun v σ' hPo => ?_)
  obtain ⟨⟨rfl, rfl⟩, g17, hI18⟩ := hPo
  generalize hq16 : f_X1_tested s0 2 M = q16 at h g17 hI18 ⊢
  obtain ⟨r16, M16⟩ := q16
  have h := xb_eq h
  try dsimp only at h g17 hI18
  show V 0 0 63 [(4, .int s0), (0, .ref 12), (2, .int x2)] [.int r16, .int x2, .ref 2] LAY (M16, L)
  refine x_run C e_X4_multiply_8 e_X4_multiply_8_k (pc' := 64) (lv' := [(4, .int s0), (0, .ref 12), (2, .int x2)]) (st' := []) (σ' := ((xup M16 2 x2.toNatClampNeg r16), L)) rfl ⟨(x_rgv wx2 (by decide) (by decide)), trivial⟩ ?_
  have hI19 : InvK INVC (xup M16 2 x2.toNatClampNeg r16) := (hI18.arr 2 (x2.toNatClampNeg) r16 (by decide))
  subst h
  exact x_vret C (show decode cX4_multiply 64 = .ok (.return_, 1) from by decide +kernel) (x_finV ⟨⟨rfl, rfl⟩, hI19⟩) (Nat.le_refl 0) (Nat.le_refl 0)
set_option maxRecDepth 20000 in
set_option maxHeartbeats 4000000 in
theorem k_X4_multiply (l : Launch) (a1 : Int32) (M : St) (L : Nat → Nat → Int64) (hI : InvK INVC M) : XM l yX4_multiply cX4_multiply 5 none R_X4_multiply LAY [.ref 12, .int a1] (M, L) (P_X4_multiply (f_X4_multiply a1 M) L) := by
  refine XM.of (by decide) (Nat.le_of_ble_eq_true rfl) LAY_in cl_ok fl_X4_ok kc_X4_ok (fun V C => ?_)
  obtain ⟨r, h⟩ : ∃ r, f_X4_multiply a1 M = r := ⟨_, rfl⟩
  rw [h] at C
  change C_X4_multiply l r L V at C
  unfold f_X4_multiply at h
  show V 0 0 0 [(0, .ref 12), (1, .int a1)] [] LAY (M, L)
  refine x_run C e_X4_multiply_1 e_X4_multiply_1_k (pc' := 4) (lv' := [(0, .ref 12), (1, .int a1)]) (st' := [.ref 11]) (σ' := (M, L)) rfl ⟨trivial, trivial, trivial⟩ ?_
  refine x_callV C (k := 11) (ci := 2) (rest := []) (avs := []) (k_X3_upperRegister l  M L hI) yoX3_upperRegister ml_X4_116 rfl rfl rfl rfl ⟨Nat.zero_le _, Nat.zero_le _⟩ (show decode cX4_multiply 4 = .ok (.invokevirtual 116, 3) from by decide +kernel) rfl (fun v σ' hPo => ?_)
  obtain ⟨⟨rfl, rfl⟩, g2, hI3⟩ := hPo
  show V 0 0 7 [(0, .ref 12), (1, .int a1)] [.int (f_X3_upperRegister  M)] LAY (M, L)
  refine x_run C e_X4_multiply_2 e_X4_multiply_2_k (pc' := 23) (lv' := [(3, .int ((M 2 (f_X3_upperRegister  M).toNatClampNeg) &&& 65535)), (2, .int (f_X3_upperRegister  M)), (0, .ref 12), (1, .int a1)]) (st' := [.ref 11]) (σ' := (M, L)) rfl ⟨trivial, trivial, trivial, trivial, (x_rgv g2 (by decide) (by decide)), trivial, trivial, trivial, trivial, trivial, trivial⟩ ?_
  refine x_callV C (k := 11) (ci := 2) (rest := []) (avs := []) (k_X3_bit8 l  M L hI) yoX3_bit8 ml_X4_270 rfl rfl rfl rfl ⟨Nat.zero_le _, Nat.zero_le _⟩ (show decode cX4_multiply 23 = .ok (.invokevirtual 270, 3) from by decide +kernel) rfl (fun v σ' hPo => ?_)
  obtain ⟨⟨rfl, rfl⟩, g5, hI6⟩ := hPo
  show V 0 0 26 [(3, .int ((M 2 (f_X3_upperRegister  M).toNatClampNeg) &&& 65535)), (2, .int (f_X3_upperRegister  M)), (0, .ref 12), (1, .int a1)] [.int (f_X3_bit8  M)] LAY (M, L)
  refine x_if_ne C (show decode cX4_multiply 26 = .ok (.ifCond .ne 9, 3) from by decide +kernel) (tgt := 35) (by decide) (fun c7 => ?_) (fun c7 => ?_)
  · rw [if_neg c7] at h
    have g8 : xrg 1 1 (f_X3_bit8  M) := (x_c_ne g5 (by decide) c7)
    refine x_run C e_X4_multiply_3 e_X4_multiply_3_k (pc' := 37) (lv' := [(3, .int ((M 2 (f_X3_upperRegister  M).toNatClampNeg) &&& 65535)), (2, .int (f_X3_upperRegister  M)), (0, .ref 12), (1, .int a1)]) (st' := [.int 1, .int ((M 2 (f_X3_upperRegister  M).toNatClampNeg) &&& 65535)]) (σ' := (M, L)) rfl ⟨trivial, trivial, trivial⟩ ?_
    refine x_callSN C (rest := []) (avs := [.int ((M 2 (f_X3_upperRegister  M).toNatClampNeg) &&& 65535), .int 1]) (k_X10_extended l ((M 2 (f_X3_upperRegister  M).toNatClampNeg) &&& 65535) 1 M L) yoX10_extended ml_X4_97 rfl ⟨Nat.zero_le _, Nat.zero_le _⟩ (show decode cX4_multiply 37 = .ok (.invokestatic 97, 3) from by decide +kernel) rfl (fun v σ' hPo => ?_)
    obtain ⟨⟨rfl, rfl⟩, g10, -⟩ := hPo
    generalize hq9 : f_X10_extended ((M 2 (f_X3_upperRegister  M).toNatClampNeg) &&& 65535) 1 = q9 at h g10 ⊢
    have h := xb_eq h
    show V 0 0 40 [(3, .int ((M 2 (f_X3_upperRegister  M).toNatClampNeg) &&& 65535)), (2, .int (f_X3_upperRegister  M)), (0, .ref 12), (1, .int a1)] [.int q9] LAY (M, L)
    refine x_run C e_X4_multiply_4 e_X4_multiply_4_k (pc' := 42) (lv' := [(3, .int ((M 2 (f_X3_upperRegister  M).toNatClampNeg) &&& 65535)), (2, .int (f_X3_upperRegister  M)), (0, .ref 12), (1, .int a1)]) (st' := [.int 1, .int a1, .int q9]) (σ' := (M, L)) rfl ⟨trivial, trivial, trivial⟩ ?_
    refine x_callSN C (rest := [.int q9]) (avs := [.int a1, .int 1]) (k_X10_extended l a1 1 M L) yoX10_extended ml_X4_97 rfl ⟨Nat.zero_le _, Nat.zero_le _⟩ (show decode cX4_multiply 42 = .ok (.invokestatic 97, 3) from by decide +kernel) rfl (fun v σ' hPo => ?_)
    obtain ⟨⟨rfl, rfl⟩, g13, -⟩ := hPo
    show V 0 0 45 [(3, .int ((M 2 (f_X3_upperRegister  M).toNatClampNeg) &&& 65535)), (2, .int (f_X3_upperRegister  M)), (0, .ref 12), (1, .int a1)] [.int (f_X10_extended a1 1), .int q9] LAY (M, L)
    refine x_run C e_X4_multiply_5 e_X4_multiply_5_k (pc' := 46) (lv' := [(3, .int ((M 2 (f_X3_upperRegister  M).toNatClampNeg) &&& 65535)), (2, .int (f_X3_upperRegister  M)), (0, .ref 12), (1, .int a1)]) (st' := [.int (q9 * (f_X10_extended a1 1))]) (σ' := (M, L)) rfl ⟨trivial, trivial⟩ ?_
    refine x_lv C [2, 1] rfl ?_
    exact b_X4_multiply_46 r C (f_X3_upperRegister  M) (q9 * (f_X10_extended a1 1)) M g2 hI h
  · rw [if_pos c7] at h
    have g15 : xrg 0 0 (f_X3_bit8  M) := (x_c_eq g5 (x_rgc (x := 0) (k := 0) (by decide)) c7).1
    refine x_run C e_X4_multiply_6 e_X4_multiply_6_k (pc' := 32) (lv' := [(3, .int ((M 2 (f_X3_upperRegister  M).toNatClampNeg) &&& 65535)), (2, .int (f_X3_upperRegister  M)), (0, .ref 12), (1, .int a1)]) (st' := [.int (((M 2 (f_X3_upperRegister  M).toNatClampNeg) &&& 65535) * a1)]) (σ' := (M, L)) rfl ⟨trivial, trivial, trivial, trivial⟩ ?_
    refine x_goto C (show decode cX4_multiply 32 = .ok (.goto 14, 3) from by decide +kernel) (tgt := 46) (by decide) ?_
    refine x_lv C [2, 1] rfl ?_
    exact b_X4_multiply_46 r C (f_X3_upperRegister  M) (((M 2 (f_X3_upperRegister  M).toNatClampNeg) &&& 65535) * a1) M g2 hI h
-- X4_divide
def e_X4_divide_1 : List xI := [(0, .iload_n 1, 1, .null)]
theorem e_X4_divide_1_k : e_X4_divide_1.all (fun q => xokB cX4_divide q && xokL q) = true := by decide +kernel
def e_X4_divide_2 : List xI := [(10, .aload_n 0, 1, .null), (11, .getfield 30, 3, .null)]
theorem e_X4_divide_2_k : e_X4_divide_2.all (fun q => xokB cX4_divide q && xokL q) = true := by decide +kernel
def e_X4_divide_3 : List xI := [(17, .iconst 1, 1, .int 1)]
theorem e_X4_divide_3_k : e_X4_divide_3.all (fun q => xokB cX4_divide q && xokL q) = true := by decide +kernel
def e_X4_divide_4 : List xI := [(25, .iconst 0, 1, .int 0), (26, .istore_n 2, 1, .null), (27, .aload_n 0, 1, .null), (28, .getfield 30, 3, .null)]
theorem e_X4_divide_4_k : e_X4_divide_4.all (fun q => xokB cX4_divide q && xokL q) = true := by decide +kernel
def e_X4_divide_5 : List xI := [(34, .istore_n 3, 1, .null), (35, .iload_n 2, 1, .null)]
theorem e_X4_divide_5_k : e_X4_divide_5.all (fun q => xokB cX4_divide q && xokL q) = true := by decide +kernel
def e_X4_divide_6 : List xI := [(49, .aload_n 0, 1, .null), (50, .getfield 21, 3, .null), (53, .iload_n 3, 1, .null), (54, .iaload, 1, .null), (55, .iconst 2, 1, .int 2)]
theorem e_X4_divide_6_k : e_X4_divide_6.all (fun q => xokB cX4_divide q && xokL q) = true := by decide +kernel
def e_X4_divide_7 : List xI := [(59, .lstore 4, 2, .null), (61, .iload_n 2, 1, .null)]
theorem e_X4_divide_7_k : e_X4_divide_7.all (fun q => xokB cX4_divide q && xokL q) = true := by decide +kernel
def e_X4_divide_8 : List xI := [(74, .iload_n 1, 1, .null), (75, .i2l, 1, .null), (76, .lstore 6, 2, .null), (78, .lload 4, 2, .null), (80, .lload 6, 2, .null), (82, .ldiv, 1, .null), (83, .lstore 8, 2, .null), (85, .iload_n 2, 1, .null)]
theorem e_X4_divide_8_k : e_X4_divide_8.all (fun q => xokB cX4_divide q && xokL q) = true := by decide +kernel
def e_X4_divide_9 : List xI := [(100, .lload 8, 2, .null), (102, .l2i, 1, .null), (103, .iconst 1, 1, .int 1)]
theorem e_X4_divide_9_k : e_X4_divide_9.all (fun q => xokB cX4_divide q && xokL q) = true := by decide +kernel
def e_X4_divide_10 : List xI := [(107, .lstore 10, 2, .null), (109, .lload 8, 2, .null), (111, .lload 10, 2, .null), (113, .lcmp, 1, .null)]
theorem e_X4_divide_10_k : e_X4_divide_10.all (fun q => xokB cX4_divide q && xokL q) = true := by decide +kernel
def e_X4_divide_11 : List xI := [(127, .lload 8, 2, .null), (129, .l2i, 1, .null), (130, .ldc_w 269, 3, .null), (133, .iand, 1, .null), (134, .istore 12, 2, .null), (136, .aload_n 0, 1, .null), (137, .getfield 21, 3, .null), (140, .iload_n 3, 1, .null), (141, .lload 4, 2, .null), (143, .lload 6, 2, .null), (145, .lrem, 1, .null), (146, .l2i, 1, .null), (147, .bipush 16, 2, .int 16), (149, .ishl, 1, .null), (150, .iload 12, 2, .null), (152, .ior, 1, .null), (153, .iastore, 1, .null), (154, .aload_n 0, 1, .null), (155, .getfield 39, 3, .null), (158, .iload 12, 2, .null), (160, .iconst 1, 1, .int 1)]
theorem e_X4_divide_11_k : e_X4_divide_11.all (fun q => xokB cX4_divide q && xokL q) = true := by decide +kernel
def e_X4_divide_12 : List xI := [(164, .pop, 1, .null)]
theorem e_X4_divide_12_k : e_X4_divide_12.all (fun q => xokB cX4_divide q && xokL q) = true := by decide +kernel
def e_X4_divide_13 : List xI := [(117, .aload_n 0, 1, .null), (118, .getfield 9, 3, .null), (121, .iconst 3, 1, .int 3), (122, .iconst 2, 1, .int 2)]
theorem e_X4_divide_13_k : e_X4_divide_13.all (fun q => xokB cX4_divide q && xokL q) = true := by decide +kernel
def e_X4_divide_14 : List xI := [(21, .iconst 1, 1, .int 1)]
theorem e_X4_divide_14_k : e_X4_divide_14.all (fun q => xokB cX4_divide q && xokL q) = true := by decide +kernel
def e_X4_divide_15 : List xI := [(26, .istore_n 2, 1, .null), (27, .aload_n 0, 1, .null), (28, .getfield 30, 3, .null)]
theorem e_X4_divide_15_k : e_X4_divide_15.all (fun q => xokB cX4_divide q && xokL q) = true := by decide +kernel
def e_X4_divide_16 : List xI := [(39, .aload_n 0, 1, .null), (40, .getfield 21, 3, .null), (43, .iload_n 3, 1, .null), (44, .iaload, 1, .null), (45, .i2l, 1, .null)]
theorem e_X4_divide_16_k : e_X4_divide_16.all (fun q => xokB cX4_divide q && xokL q) = true := by decide +kernel
def e_X4_divide_17 : List xI := [(65, .iload_n 1, 1, .null), (66, .iconst 1, 1, .int 1)]
theorem e_X4_divide_17_k : e_X4_divide_17.all (fun q => xokB cX4_divide q && xokL q) = true := by decide +kernel
def e_X4_divide_18 : List xI := [(70, .i2l, 1, .null)]
theorem e_X4_divide_18_k : e_X4_divide_18.all (fun q => xokB cX4_divide q && xokL q) = true := by decide +kernel
def e_X4_divide_19 : List xI := [(76, .lstore 6, 2, .null), (78, .lload 4, 2, .null), (80, .lload 6, 2, .null), (82, .ldiv, 1, .null), (83, .lstore 8, 2, .null), (85, .iload_n 2, 1, .null)]
theorem e_X4_divide_19_k : e_X4_divide_19.all (fun q => xokB cX4_divide q && xokL q) = true := by decide +kernel
def e_X4_divide_20 : List xI := [(89, .lload 8, 2, .null), (91, .l2i, 1, .null), (92, .iconst 1, 1, .int 1)]
theorem e_X4_divide_20_k : e_X4_divide_20.all (fun q => xokB cX4_divide q && xokL q) = true := by decide +kernel
def e_X4_divide_21 : List xI := [(96, .i2l, 1, .null)]
theorem e_X4_divide_21_k : e_X4_divide_21.all (fun q => xokB cX4_divide q && xokL q) = true := by decide +kernel
def e_X4_divide_22 : List xI := [(4, .aload_n 0, 1, .null), (5, .iconst 5, 1, .int 5), (6, .putfield 43, 3, .null)]
theorem e_X4_divide_22_k : e_X4_divide_22.all (fun q => xokB cX4_divide q && xokL q) = true := by decide +kernel
abbrev P_X4_divide (r : St) (L : Nat → Nat → Int64) : Option Value → xG → Prop := fun v σ' => PoV r L v σ' ∧ InvK INVC r
abbrev R_X4_divide : Room := { frames := 3, cells := 0, slots := 0, locals := 65 }
abbrev C_X4_divide (l : Launch) (r : St) (L : Nat → Nat → Int64) (V : XJ) : Prop := XC l yX4_divide.cls yX4_divide.name cX4_divide 13 R_X4_divide 0 0 fl_X4 kc_X4 LAY.length (xfin none LAY (P_X4_divide r L)) V
def f_X4_divide (a1 : Int32) (M : St) : St := (if a1 = 0 then (xup M 12 6 5) else (if (f_X3_bit8  M) = 1 then (xb (f_X10_extended ((M 2 (f_X3_upperRegister  M).toNatClampNeg).toInt64 / (f_X10_extended a1 1).toInt64).toInt32 1) fun q39 => (if (lg_cmp ((M 2 (f_X3_upperRegister  M).toNatClampNeg).toInt64 / (f_X10_extended a1 1).toInt64) q39.toInt64) = 0 then (xb (f_X1_tested (((M 2 (f_X3_upperRegister  M).toNatClampNeg).toInt64 / (f_X10_extended a1 1).toInt64).toInt32 &&& 65535) 1 (xup M 2 (f_X3_upperRegister  M).toNatClampNeg ((((M 2 (f_X3_upperRegister  M).toNatClampNeg).toInt64 - (M 2 (f_X3_upperRegister  M).toNatClampNeg).toInt64 / (f_X10_extended a1 1).toInt64 * (f_X10_extended a1 1).toInt64).toInt32 <<< ((16 : Int32) &&& 31)) ||| (((M 2 (f_X3_upperRegister  M).toNatClampNeg).toInt64 / (f_X10_extended a1 1).toInt64).toInt32 &&& 65535)))) fun q45 => q45.2) else (xb (f_X8_changeFlags 3 2 M) fun q48 => q48))) else (xb (f_X10_withoutSign ((f_X10_withoutSign (M 2 (f_X3_upperRegister  M).toNatClampNeg) 2) / a1.toInt64).toInt32 1) fun q17 => (if (lg_cmp ((f_X10_withoutSign (M 2 (f_X3_upperRegister  M).toNatClampNeg) 2) / a1.toInt64) q17) = 0 then (xb (f_X1_tested (((f_X10_withoutSign (M 2 (f_X3_upperRegister  M).toNatClampNeg) 2) / a1.toInt64).toInt32 &&& 65535) 1 (xup M 2 (f_X3_upperRegister  M).toNatClampNeg ((((f_X10_withoutSign (M 2 (f_X3_upperRegister  M).toNatClampNeg) 2) - (f_X10_withoutSign (M 2 (f_X3_upperRegister  M).toNatClampNeg) 2) / a1.toInt64 * a1.toInt64).toInt32 <<< ((16 : Int32) &&& 31)) ||| (((f_X10_withoutSign (M 2 (f_X3_upperRegister  M).toNatClampNeg) 2) / a1.toInt64).toInt32 &&& 65535)))) fun q23 => q23.2) else (xb (f_X8_changeFlags 3 2 M) fun q26 => q26)))))
set_option maxRecDepth 20000 in
set_option maxHeartbeats 4000000 in
theorem k_X4_divide (l : Launch) (a1 : Int32) (M : St) (L : Nat → Nat → Int64) (hp1 : xrg 0 65535 a1) (hI : InvK INVC M) : XM l yX4_divide cX4_divide 13 none R_X4_divide LAY [.ref 12, .int a1] (M, L) (P_X4_divide (f_X4_divide a1 M) L) := by
  refine XM.of (by decide) (Nat.le_of_ble_eq_true rfl) LAY_in cl_ok fl_X4_ok kc_X4_ok (fun V C => ?_)
  obtain ⟨r, h⟩ : ∃ r, f_X4_divide a1 M = r := ⟨_, rfl⟩
  rw [h] at C
  change C_X4_divide l r L V at C
  unfold f_X4_divide at h
  show V 0 0 0 [(0, .ref 12), (1, .int a1)] [] LAY (M, L)
  refine x_run C e_X4_divide_1 e_X4_divide_1_k (pc' := 1) (lv' := [(0, .ref 12), (1, .int a1)]) (st' := [.int a1]) (σ' := (M, L)) rfl ⟨trivial, trivial⟩ ?_
  refine x_if_ne C (show decode cX4_divide 1 = .ok (.ifCond .ne 9, 3) from by decide +kernel) (tgt := 10) (by decide) (fun c1 => ?_) (fun c1 => ?_)
  · rw [if_neg c1] at h
    have g2 : xrg 1 65535 a1 := (x_c_ne hp1 (by decide) c1)
    refine x_run C e_X4_divide_2 e_X4_divide_2_k (pc' := 14) (lv' := [(0, .ref 12), (1, .int a1)]) (st' := [.ref 11]) (σ' := (M, L)) rfl ⟨trivial, trivial, trivial⟩ ?_
    refine x_callV C (k := 11) (ci := 2) (rest := []) (avs := []) (k_X3_bit8 l  M L hI) yoX3_bit8 ml_X4_270 rfl rfl rfl rfl ⟨Nat.zero_le _, Nat.zero_le _⟩ (show decode cX4_divide 14 = .ok (.invokevirtual 270, 3) from by decide +kernel) rfl (fun v σ' hPo => ?_)
    obtain ⟨⟨rfl, rfl⟩, g4, hI5⟩ := hPo
    show V 0 0 17 [(0, .ref 12), (1, .int a1)] [.int (f_X3_bit8  M)] LAY (M, L)
    refine x_run C e_X4_divide_3 e_X4_divide_3_k (pc' := 18) (lv' := [(0, .ref 12), (1, .int a1)]) (st' := [.int 1, .int (f_X3_bit8  M)]) (σ' := (M, L)) rfl ⟨trivial, trivial⟩ ?_
    refine x_icmp_ne C (show decode cX4_divide 18 = .ok (.if_icmp .ne 7, 3) from by decide +kernel) (tgt := 25) (by decide) (fun c6 => ?_) (fun c6 => ?_)
    · rw [if_neg c6] at h
      have g7 : xrg 0 0 (f_X3_bit8  M) := (x_c_neh g4 (by decide) c6)
      refine x_run C e_X4_divide_4 e_X4_divide_4_k (pc' := 31) (lv' := [(2, .int 0), (0, .ref 12), (1, .int a1)]) (st' := [.ref 11]) (σ' := (M, L)) rfl ⟨trivial, trivial, trivial, trivial, trivial⟩ ?_
      refine x_callV C (k := 11) (ci := 2) (rest := []) (avs := []) (k_X3_upperRegister l  M L hI) yoX3_upperRegister ml_X4_116 rfl rfl rfl rfl ⟨Nat.zero_le _, Nat.zero_le _⟩ (show decode cX4_divide 31 = .ok (.invokevirtual 116, 3) from by decide +kernel) rfl (fun v σ' hPo => ?_)
      obtain ⟨⟨rfl, rfl⟩, g9, hI10⟩ := hPo
      show V 0 0 34 [(2, .int 0), (0, .ref 12), (1, .int a1)] [.int (f_X3_upperRegister  M)] LAY (M, L)
      refine x_run C e_X4_divide_5 e_X4_divide_5_k (pc' := 36) (lv' := [(3, .int (f_X3_upperRegister  M)), (2, .int 0), (0, .ref 12), (1, .int a1)]) (st' := [.int 0]) (σ' := (M, L)) rfl ⟨trivial, trivial, trivial⟩ ?_
      refine x_if_eq C (show decode cX4_divide 36 = .ok (.ifCond .eq 13, 3) from by decide +kernel) (tgt := 49) (by decide) (fun c11 => ?_) (fun c11 => absurd c11 (by decide))
      refine x_run C e_X4_divide_6 e_X4_divide_6_k (pc' := 56) (lv' := [(3, .int (f_X3_upperRegister  M)), (2, .int 0), (0, .ref 12), (1, .int a1)]) (st' := [.int 2, .int (M 2 (f_X3_upperRegister  M).toNatClampNeg)]) (σ' := (M, L)) rfl ⟨trivial, trivial, trivial, (x_rgv g9 (by decide) (by decide)), trivial, trivial⟩ ?_
      refine x_callSN C (rest := []) (avs := [.int (M 2 (f_X3_upperRegister  M).toNatClampNeg), .int 2]) (k_X10_withoutSign l (M 2 (f_X3_upperRegister  M).toNatClampNeg) 2 M L) yoX10_withoutSign ml_X4_273 rfl ⟨Nat.zero_le _, Nat.zero_le _⟩ (show decode cX4_divide 56 = .ok (.invokestatic 273, 3) from by decide +kernel) rfl (fun v σ' hPo => ?_)
      obtain ⟨⟨rfl, rfl⟩, -⟩ := hPo
      show V 0 0 59 [(3, .int (f_X3_upperRegister  M)), (2, .int 0), (0, .ref 12), (1, .int a1)] [.long (f_X10_withoutSign (M 2 (f_X3_upperRegister  M).toNatClampNeg) 2)] LAY (M, L)
      refine x_run C e_X4_divide_7 e_X4_divide_7_k (pc' := 62) (lv' := [(4, .long (f_X10_withoutSign (M 2 (f_X3_upperRegister  M).toNatClampNeg) 2)), (3, .int (f_X3_upperRegister  M)), (2, .int 0), (0, .ref 12), (1, .int a1)]) (st' := [.int 0]) (σ' := (M, L)) rfl ⟨trivial, trivial, trivial⟩ ?_
      refine x_if_eq C (show decode cX4_divide 62 = .ok (.ifCond .eq 12, 3) from by decide +kernel) (tgt := 74) (by decide) (fun c15 => ?_) (fun c15 => absurd c15 (by decide))
      refine x_run C e_X4_divide_8 e_X4_divide_8_k (pc' := 86) (lv' := [(8, .long ((f_X10_withoutSign (M 2 (f_X3_upperRegister  M).toNatClampNeg) 2) / a1.toInt64)), (6, .long a1.toInt64), (4, .long (f_X10_withoutSign (M 2 (f_X3_upperRegister  M).toNatClampNeg) 2)), (3, .int (f_X3_upperRegister  M)), (2, .int 0), (0, .ref 12), (1, .int a1)]) (st' := [.int 0]) (σ' := (M, L)) rfl ⟨trivial, trivial, trivial, trivial, trivial, (by first | assumption | exact x_nz (by assumption) | exact x_nz (x_ext_nz hp1 (by assumption))), trivial, trivial, trivial⟩ ?_
      refine x_if_eq C (show decode cX4_divide 86 = .ok (.ifCond .eq 14, 3) from by decide +kernel) (tgt := 100) (by decide) (fun c16 => ?_) (fun c16 => absurd c16 (by decide))
      refine x_run C e_X4_divide_9 e_X4_divide_9_k (pc' := 104) (lv' := [(8, .long ((f_X10_withoutSign (M 2 (f_X3_upperRegister  M).toNatClampNeg) 2) / a1.toInt64)), (6, .long a1.toInt64), (4, .long (f_X10_withoutSign (M 2 (f_X3_upperRegister  M).toNatClampNeg) 2)), (3, .int (f_X3_upperRegister  M)), (2, .int 0), (0, .ref 12), (1, .int a1)]) (st' := [.int 1, .int ((f_X10_withoutSign (M 2 (f_X3_upperRegister  M).toNatClampNeg) 2) / a1.toInt64).toInt32]) (σ' := (M, L)) rfl ⟨trivial, trivial, trivial, trivial⟩ ?_
      refine x_callSN C (rest := []) (avs := [.int ((f_X10_withoutSign (M 2 (f_X3_upperRegister  M).toNatClampNeg) 2) / a1.toInt64).toInt32, .int 1]) (k_X10_withoutSign l ((f_X10_withoutSign (M 2 (f_X3_upperRegister  M).toNatClampNeg) 2) / a1.toInt64).toInt32 1 M L) yoX10_withoutSign ml_X4_273 rfl ⟨Nat.zero_le _, Nat.zero_le _⟩ (show decode cX4_divide 104 = .ok (.invokestatic 273, 3) from by decide +kernel) rfl (fun v σ' hPo => ?_)
      obtain ⟨⟨rfl, rfl⟩, -⟩ := hPo
      generalize hq17 : f_X10_withoutSign ((f_X10_withoutSign (M 2 (f_X3_upperRegister  M).toNatClampNeg) 2) / a1.toInt64).toInt32 1 = q17 at h ⊢
      have h := xb_eq h
      show V 0 0 107 [(8, .long ((f_X10_withoutSign (M 2 (f_X3_upperRegister  M).toNatClampNeg) 2) / a1.toInt64)), (6, .long a1.toInt64), (4, .long (f_X10_withoutSign (M 2 (f_X3_upperRegister  M).toNatClampNeg) 2)), (3, .int (f_X3_upperRegister  M)), (2, .int 0), (0, .ref 12), (1, .int a1)] [.long q17] LAY (M, L)
      refine x_run C e_X4_divide_10 e_X4_divide_10_k (pc' := 114) (lv' := [(10, .long q17), (8, .long ((f_X10_withoutSign (M 2 (f_X3_upperRegister  M).toNatClampNeg) 2) / a1.toInt64)), (6, .long a1.toInt64), (4, .long (f_X10_withoutSign (M 2 (f_X3_upperRegister  M).toNatClampNeg) 2)), (3, .int (f_X3_upperRegister  M)), (2, .int 0), (0, .ref 12), (1, .int a1)]) (st' := [.int (lg_cmp ((f_X10_withoutSign (M 2 (f_X3_upperRegister  M).toNatClampNeg) 2) / a1.toInt64) q17)]) (σ' := (M, L)) rfl ⟨trivial, trivial, trivial, trivial, trivial⟩ ?_
      refine x_if_eq C (show decode cX4_divide 114 = .ok (.ifCond .eq 13, 3) from by decide +kernel) (tgt := 127) (by decide) (fun c20 => ?_) (fun c20 => ?_)
      · rw [if_pos c20] at h
        have g21 : xrg 0 0 (lg_cmp ((f_X10_withoutSign (M 2 (f_X3_upperRegister  M).toNatClampNeg) 2) / a1.toInt64) q17) := (x_c_eq (x_rgt (lg_cmp ((f_X10_withoutSign (M 2 (f_X3_upperRegister  M).toNatClampNeg) 2) / a1.toInt64) q17)) (x_rgc (x := 0) (k := 0) (by decide)) c20).1
        refine x_run C e_X4_divide_11 e_X4_divide_11_k (pc' := 161) (lv' := [(12, .int (((f_X10_withoutSign (M 2 (f_X3_upperRegister  M).toNatClampNeg) 2) / a1.toInt64).toInt32 &&& 65535)), (10, .long q17), (8, .long ((f_X10_withoutSign (M 2 (f_X3_upperRegister  M).toNatClampNeg) 2) / a1.toInt64)), (6, .long a1.toInt64), (4, .long (f_X10_withoutSign (M 2 (f_X3_upperRegister  M).toNatClampNeg) 2)), (3, .int (f_X3_upperRegister  M)), (2, .int 0), (0, .ref 12), (1, .int a1)]) (st' := [.int 1, .int (((f_X10_withoutSign (M 2 (f_X3_upperRegister  M).toNatClampNeg) 2) / a1.toInt64).toInt32 &&& 65535), .ref 13]) (σ' := ((xup M 2 (f_X3_upperRegister  M).toNatClampNeg ((((f_X10_withoutSign (M 2 (f_X3_upperRegister  M).toNatClampNeg) 2) - (f_X10_withoutSign (M 2 (f_X3_upperRegister  M).toNatClampNeg) 2) / a1.toInt64 * a1.toInt64).toInt32 <<< ((16 : Int32) &&& 31)) ||| (((f_X10_withoutSign (M 2 (f_X3_upperRegister  M).toNatClampNeg) 2) / a1.toInt64).toInt32 &&& 65535))), L)) rfl ⟨trivial, trivial, trivial, trivial, trivial, trivial, trivial, trivial, trivial, trivial, (by first | assumption | exact x_nz (by assumption) | exact x_nz (x_ext_nz hp1 (by assumption))), trivial, trivial, trivial, trivial, trivial, (x_rgv g9 (by decide) (by decide)), trivial, trivial, trivial, trivial, trivial⟩ ?_
        have hI22 : InvK INVC (xup M 2 (f_X3_upperRegister  M).toNatClampNeg ((((f_X10_withoutSign (M 2 (f_X3_upperRegister  M).toNatClampNeg) 2) - (f_X10_withoutSign (M 2 (f_X3_upperRegister  M).toNatClampNeg) 2) / a1.toInt64 * a1.toInt64).toInt32 <<< ((16 : Int32) &&& 31)) ||| (((f_X10_withoutSign (M 2 (f_X3_upperRegister  M).toNatClampNeg) 2) / a1.toInt64).toInt32 &&& 65535))) := (hI.arr 2 ((f_X3_upperRegister  M).toNatClampNeg) ((((f_X10_withoutSign (M 2 (f_X3_upperRegister  M).toNatClampNeg) 2) - (f_X10_withoutSign (M 2 (f_X3_upperRegister  M).toNatClampNeg) 2) / a1.toInt64 * a1.toInt64).toInt32 <<< ((16 : Int32) &&& 31)) ||| (((f_X10_withoutSign (M 2 (f_X3_upperRegister  M).toNatClampNeg) 2) / a1.toInt64).toInt32 &&& 65535)) (by decide))
        refine x_callV C (k := 13) (ci := 0) (rest := []) (avs := [.int (((f_X10_withoutSign (M 2 (f_X3_upperRegister  M).toNatClampNeg) 2) / a1.toInt64).toInt32 &&& 65535), .int 1]) (k_X1_tested l (((f_X10_withoutSign (M 2 (f_X3_upperRegister  M).toNatClampNeg) 2) / a1.toInt64).toInt32 &&& 65535) 1 (xup M 2 (f_X3_upperRegister  M).toNatClampNeg ((((f_X10_withoutSign (M 2 (f_X3_upperRegister  M).toNatClampNeg) 2) - (f_X10_withoutSign (M 2 (f_X3_upperRegister  M).toNatClampNeg) 2) / a1.toInt64 * a1.toInt64).toInt32 <<< ((16 : Int32) &&& 31)) ||| (((f_X10_withoutSign (M 2 (f_X3_upperRegister  M).toNatClampNeg) 2) / a1.toInt64).toInt32 &&& 65535))) L hI22) yoX1_tested ml_X4_70 rfl rfl rfl rfl ⟨Nat.zero_le _, Nat.zero_le _⟩ (show decode cX4_divide 161 = .ok (.invokevirtual 70, 3) from by decide +kernel) rfl (fun v σ' hPo => ?_)
        obtain ⟨⟨rfl, rfl⟩, g24, hI25⟩ := hPo
        generalize hq23 : f_X1_tested (((f_X10_withoutSign (M 2 (f_X3_upperRegister  M).toNatClampNeg) 2) / a1.toInt64).toInt32 &&& 65535) 1 (xup M 2 (f_X3_upperRegister  M).toNatClampNeg ((((f_X10_withoutSign (M 2 (f_X3_upperRegister  M).toNatClampNeg) 2) - (f_X10_withoutSign (M 2 (f_X3_upperRegister  M).toNatClampNeg) 2) / a1.toInt64 * a1.toInt64).toInt32 <<< ((16 : Int32) &&& 31)) ||| (((f_X10_withoutSign (M 2 (f_X3_upperRegister  M).toNatClampNeg) 2) / a1.toInt64).toInt32 &&& 65535))) = q23 at h g24 hI25 ⊢
        obtain ⟨r23, M23⟩ := q23
        have h := xb_eq h
        try dsimp only at h g24 hI25
        show V 0 0 164 [(12, .int (((f_X10_withoutSign (M 2 (f_X3_upperRegister  M).toNatClampNeg) 2) / a1.toInt64).toInt32 &&& 65535)), (10, .long q17), (8, .long ((f_X10_withoutSign (M 2 (f_X3_upperRegister  M).toNatClampNeg) 2) / a1.toInt64)), (6, .long a1.toInt64), (4, .long (f_X10_withoutSign (M 2 (f_X3_upperRegister  M).toNatClampNeg) 2)), (3, .int (f_X3_upperRegister  M)), (2, .int 0), (0, .ref 12), (1, .int a1)] [.int r23] LAY (M23, L)
        refine x_run C e_X4_divide_12 e_X4_divide_12_k (pc' := 165) (lv' := [(12, .int (((f_X10_withoutSign (M 2 (f_X3_upperRegister  M).toNatClampNeg) 2) / a1.toInt64).toInt32 &&& 65535)), (10, .long q17), (8, .long ((f_X10_withoutSign (M 2 (f_X3_upperRegister  M).toNatClampNeg) 2) / a1.toInt64)), (6, .long a1.toInt64), (4, .long (f_X10_withoutSign (M 2 (f_X3_upperRegister  M).toNatClampNeg) 2)), (3, .int (f_X3_upperRegister  M)), (2, .int 0), (0, .ref 12), (1, .int a1)]) (st' := []) (σ' := (M23, L)) rfl ⟨trivial, trivial⟩ ?_
        subst h
        exact x_vret C (show decode cX4_divide 165 = .ok (.return_, 1) from by decide +kernel) (x_finV ⟨⟨rfl, rfl⟩, hI25⟩) (Nat.le_refl 0) (Nat.le_refl 0)
      · rw [if_neg c20] at h
        refine x_run C e_X4_divide_13 e_X4_divide_13_k (pc' := 123) (lv' := [(10, .long q17), (8, .long ((f_X10_withoutSign (M 2 (f_X3_upperRegister  M).toNatClampNeg) 2) / a1.toInt64)), (6, .long a1.toInt64), (4, .long (f_X10_withoutSign (M 2 (f_X3_upperRegister  M).toNatClampNeg) 2)), (3, .int (f_X3_upperRegister  M)), (2, .int 0), (0, .ref 12), (1, .int a1)]) (st' := [.int 2, .int 3, .ref 1]) (σ' := (M, L)) rfl ⟨trivial, trivial, trivial, trivial, trivial⟩ ?_
        refine x_callV C (k := 1) (ci := 6) (rest := []) (avs := [.int 3, .int 2]) (k_X8_changeFlags l 3 2 M L hI) yoX8_changeFlags ml_X4_160 rfl rfl rfl rfl ⟨Nat.zero_le _, Nat.zero_le _⟩ (show decode cX4_divide 123 = .ok (.invokevirtual 160, 3) from by decide +kernel) rfl (fun v σ' hPo => ?_)
        obtain ⟨⟨rfl, rfl⟩, hI28⟩ := hPo
        generalize hq26 : f_X8_changeFlags 3 2 M = q26 at h hI28 ⊢
        have h := xb_eq h
        show V 0 0 126 [(10, .long q17), (8, .long ((f_X10_withoutSign (M 2 (f_X3_upperRegister  M).toNatClampNeg) 2) / a1.toInt64)), (6, .long a1.toInt64), (4, .long (f_X10_withoutSign (M 2 (f_X3_upperRegister  M).toNatClampNeg) 2)), (3, .int (f_X3_upperRegister  M)), (2, .int 0), (0, .ref 12), (1, .int a1)] [] LAY (q26, L)
        subst h
        exact x_vret C (show decode cX4_divide 126 = .ok (.return_, 1) from by decide +kernel) (x_finV ⟨⟨rfl, rfl⟩, hI28⟩) (Nat.le_refl 0) (Nat.le_refl 0)
    · rw [if_pos c6] at h
      have g29 : xrg 1 1 (f_X3_bit8  M) := (x_c_eq g4 (x_rgc (x := 1) (k := 1) (by decide)) c6).1
      refine x_run C e_X4_divide_14 e_X4_divide_14_k (pc' := 22) (lv' := [(0, .ref 12), (1, .int a1)]) (st' := [.int 1]) (σ' := (M, L)) rfl ⟨trivial, trivial⟩ ?_
      refine x_goto C (show decode cX4_divide 22 = .ok (.goto 4, 3) from by decide +kernel) (tgt := 26) (by decide) ?_
      refine x_run C e_X4_divide_15 e_X4_divide_15_k (pc' := 31) (lv' := [(2, .int 1), (0, .ref 12), (1, .int a1)]) (st' := [.ref 11]) (σ' := (M, L)) rfl ⟨trivial, trivial, trivial, trivial⟩ ?_
      refine x_callV C (k := 11) (ci := 2) (rest := []) (avs := []) (k_X3_upperRegister l  M L hI) yoX3_upperRegister ml_X4_116 rfl rfl rfl rfl ⟨Nat.zero_le _, Nat.zero_le _⟩ (show decode cX4_divide 31 = .ok (.invokevirtual 116, 3) from by decide +kernel) rfl (fun v σ' hPo => ?_)
      obtain ⟨⟨rfl, rfl⟩, g31, hI32⟩ := hPo
      show V 0 0 34 [(2, .int 1), (0, .ref 12), (1, .int a1)] [.int (f_X3_upperRegister  M)] LAY (M, L)
      refine x_run C e_X4_divide_5 e_X4_divide_5_k (pc' := 36) (lv' := [(3, .int (f_X3_upperRegister  M)), (2, .int 1), (0, .ref 12), (1, .int a1)]) (st' := [.int 1]) (σ' := (M, L)) rfl ⟨trivial, trivial, trivial⟩ ?_
      refine x_if_eq C (show decode cX4_divide 36 = .ok (.ifCond .eq 13, 3) from by decide +kernel) (tgt := 49) (by decide) (fun c33 => absurd c33 (by decide)) (fun c33 => ?_)
      refine x_run C e_X4_divide_16 e_X4_divide_16_k (pc' := 46) (lv' := [(3, .int (f_X3_upperRegister  M)), (2, .int 1), (0, .ref 12), (1, .int a1)]) (st' := [.long (M 2 (f_X3_upperRegister  M).toNatClampNeg).toInt64]) (σ' := (M, L)) rfl ⟨trivial, trivial, trivial, (x_rgv g31 (by decide) (by decide)), trivial, trivial⟩ ?_
      refine x_goto C (show decode cX4_divide 46 = .ok (.goto 13, 3) from by decide +kernel) (tgt := 59) (by decide) ?_
      refine x_run C e_X4_divide_7 e_X4_divide_7_k (pc' := 62) (lv' := [(4, .long (M 2 (f_X3_upperRegister  M).toNatClampNeg).toInt64), (3, .int (f_X3_upperRegister  M)), (2, .int 1), (0, .ref 12), (1, .int a1)]) (st' := [.int 1]) (σ' := (M, L)) rfl ⟨trivial, trivial, trivial⟩ ?_
      refine x_if_eq C (show decode cX4_divide 62 = .ok (.ifCond .eq 12, 3) from by decide +kernel) (tgt := 74) (by decide) (fun c34 => absurd c34 (by decide)) (fun c34 => ?_)
      refine x_run C e_X4_divide_17 e_X4_divide_17_k (pc' := 67) (lv' := [(4, .long (M 2 (f_X3_upperRegister  M).toNatClampNeg).toInt64), (3, .int (f_X3_upperRegister  M)), (2, .int 1), (0, .ref 12), (1, .int a1)]) (st' := [.int 1, .int a1]) (σ' := (M, L)) rfl ⟨trivial, trivial, trivial⟩ ?_
      refine x_callSN C (rest := []) (avs := [.int a1, .int 1]) (k_X10_extended l a1 1 M L) yoX10_extended ml_X4_97 rfl ⟨Nat.zero_le _, Nat.zero_le _⟩ (show decode cX4_divide 67 = .ok (.invokestatic 97, 3) from by decide +kernel) rfl (fun v σ' hPo => ?_)
      obtain ⟨⟨rfl, rfl⟩, g36, -⟩ := hPo
      show V 0 0 70 [(4, .long (M 2 (f_X3_upperRegister  M).toNatClampNeg).toInt64), (3, .int (f_X3_upperRegister  M)), (2, .int 1), (0, .ref 12), (1, .int a1)] [.int (f_X10_extended a1 1)] LAY (M, L)
      refine x_run C e_X4_divide_18 e_X4_divide_18_k (pc' := 71) (lv' := [(4, .long (M 2 (f_X3_upperRegister  M).toNatClampNeg).toInt64), (3, .int (f_X3_upperRegister  M)), (2, .int 1), (0, .ref 12), (1, .int a1)]) (st' := [.long (f_X10_extended a1 1).toInt64]) (σ' := (M, L)) rfl ⟨trivial, trivial⟩ ?_
      refine x_goto C (show decode cX4_divide 71 = .ok (.goto 5, 3) from by decide +kernel) (tgt := 76) (by decide) ?_
      refine x_run C e_X4_divide_19 e_X4_divide_19_k (pc' := 86) (lv' := [(8, .long ((M 2 (f_X3_upperRegister  M).toNatClampNeg).toInt64 / (f_X10_extended a1 1).toInt64)), (6, .long (f_X10_extended a1 1).toInt64), (4, .long (M 2 (f_X3_upperRegister  M).toNatClampNeg).toInt64), (3, .int (f_X3_upperRegister  M)), (2, .int 1), (0, .ref 12), (1, .int a1)]) (st' := [.int 1]) (σ' := (M, L)) rfl ⟨trivial, trivial, trivial, (by first | assumption | exact x_nz (by assumption) | exact x_nz (x_ext_nz hp1 (by assumption))), trivial, trivial, trivial⟩ ?_
      refine x_if_eq C (show decode cX4_divide 86 = .ok (.ifCond .eq 14, 3) from by decide +kernel) (tgt := 100) (by decide) (fun c38 => absurd c38 (by decide)) (fun c38 => ?_)
      refine x_run C e_X4_divide_20 e_X4_divide_20_k (pc' := 93) (lv' := [(8, .long ((M 2 (f_X3_upperRegister  M).toNatClampNeg).toInt64 / (f_X10_extended a1 1).toInt64)), (6, .long (f_X10_extended a1 1).toInt64), (4, .long (M 2 (f_X3_upperRegister  M).toNatClampNeg).toInt64), (3, .int (f_X3_upperRegister  M)), (2, .int 1), (0, .ref 12), (1, .int a1)]) (st' := [.int 1, .int ((M 2 (f_X3_upperRegister  M).toNatClampNeg).toInt64 / (f_X10_extended a1 1).toInt64).toInt32]) (σ' := (M, L)) rfl ⟨trivial, trivial, trivial, trivial⟩ ?_
      refine x_callSN C (rest := []) (avs := [.int ((M 2 (f_X3_upperRegister  M).toNatClampNeg).toInt64 / (f_X10_extended a1 1).toInt64).toInt32, .int 1]) (k_X10_extended l ((M 2 (f_X3_upperRegister  M).toNatClampNeg).toInt64 / (f_X10_extended a1 1).toInt64).toInt32 1 M L) yoX10_extended ml_X4_97 rfl ⟨Nat.zero_le _, Nat.zero_le _⟩ (show decode cX4_divide 93 = .ok (.invokestatic 97, 3) from by decide +kernel) rfl (fun v σ' hPo => ?_)
      obtain ⟨⟨rfl, rfl⟩, g40, -⟩ := hPo
      generalize hq39 : f_X10_extended ((M 2 (f_X3_upperRegister  M).toNatClampNeg).toInt64 / (f_X10_extended a1 1).toInt64).toInt32 1 = q39 at h g40 ⊢
      have h := xb_eq h
      show V 0 0 96 [(8, .long ((M 2 (f_X3_upperRegister  M).toNatClampNeg).toInt64 / (f_X10_extended a1 1).toInt64)), (6, .long (f_X10_extended a1 1).toInt64), (4, .long (M 2 (f_X3_upperRegister  M).toNatClampNeg).toInt64), (3, .int (f_X3_upperRegister  M)), (2, .int 1), (0, .ref 12), (1, .int a1)] [.int q39] LAY (M, L)
      refine x_run C e_X4_divide_21 e_X4_divide_21_k (pc' := 97) (lv' := [(8, .long ((M 2 (f_X3_upperRegister  M).toNatClampNeg).toInt64 / (f_X10_extended a1 1).toInt64)), (6, .long (f_X10_extended a1 1).toInt64), (4, .long (M 2 (f_X3_upperRegister  M).toNatClampNeg).toInt64), (3, .int (f_X3_upperRegister  M)), (2, .int 1), (0, .ref 12), (1, .int a1)]) (st' := [.long q39.toInt64]) (σ' := (M, L)) rfl ⟨trivial, trivial⟩ ?_
      refine x_goto C (show decode cX4_divide 97 = .ok (.goto 10, 3) from by decide +kernel) (tgt := 107) (by decide) ?_
      refine x_run C e_X4_divide_10 e_X4_divide_10_k (pc' := 114) (lv' := [(10, .long q39.toInt64), (8, .long ((M 2 (f_X3_upperRegister  M).toNatClampNeg).toInt64 / (f_X10_extended a1 1).toInt64)), (6, .long (f_X10_extended a1 1).toInt64), (4, .long (M 2 (f_X3_upperRegister  M).toNatClampNeg).toInt64), (3, .int (f_X3_upperRegister  M)), (2, .int 1), (0, .ref 12), (1, .int a1)]) (st' := [.int (lg_cmp ((M 2 (f_X3_upperRegister  M).toNatClampNeg).toInt64 / (f_X10_extended a1 1).toInt64) q39.toInt64)]) (σ' := (M, L)) rfl ⟨trivial, trivial, trivial, trivial, trivial⟩ ?_
      refine x_if_eq C (show decode cX4_divide 114 = .ok (.ifCond .eq 13, 3) from by decide +kernel) (tgt := 127) (by decide) (fun c42 => ?_) (fun c42 => ?_)
      · rw [if_pos c42] at h
        have g43 : xrg 0 0 (lg_cmp ((M 2 (f_X3_upperRegister  M).toNatClampNeg).toInt64 / (f_X10_extended a1 1).toInt64) q39.toInt64) := (x_c_eq (x_rgt (lg_cmp ((M 2 (f_X3_upperRegister  M).toNatClampNeg).toInt64 / (f_X10_extended a1 1).toInt64) q39.toInt64)) (x_rgc (x := 0) (k := 0) (by decide)) c42).1
        refine x_run C e_X4_divide_11 e_X4_divide_11_k (pc' := 161) (lv' := [(12, .int (((M 2 (f_X3_upperRegister  M).toNatClampNeg).toInt64 / (f_X10_extended a1 1).toInt64).toInt32 &&& 65535)), (10, .long q39.toInt64), (8, .long ((M 2 (f_X3_upperRegister  M).toNatClampNeg).toInt64 / (f_X10_extended a1 1).toInt64)), (6, .long (f_X10_extended a1 1).toInt64), (4, .long (M 2 (f_X3_upperRegister  M).toNatClampNeg).toInt64), (3, .int (f_X3_upperRegister  M)), (2, .int 1), (0, .ref 12), (1, .int a1)]) (st' := [.int 1, .int (((M 2 (f_X3_upperRegister  M).toNatClampNeg).toInt64 / (f_X10_extended a1 1).toInt64).toInt32 &&& 65535), .ref 13]) (σ' := ((xup M 2 (f_X3_upperRegister  M).toNatClampNeg ((((M 2 (f_X3_upperRegister  M).toNatClampNeg).toInt64 - (M 2 (f_X3_upperRegister  M).toNatClampNeg).toInt64 / (f_X10_extended a1 1).toInt64 * (f_X10_extended a1 1).toInt64).toInt32 <<< ((16 : Int32) &&& 31)) ||| (((M 2 (f_X3_upperRegister  M).toNatClampNeg).toInt64 / (f_X10_extended a1 1).toInt64).toInt32 &&& 65535))), L)) rfl ⟨trivial, trivial, trivial, trivial, trivial, trivial, trivial, trivial, trivial, trivial, (by first | assumption | exact x_nz (by assumption) | exact x_nz (x_ext_nz hp1 (by assumption))), trivial, trivial, trivial, trivial, trivial, (x_rgv g31 (by decide) (by decide)), trivial, trivial, trivial, trivial, trivial⟩ ?_
        have hI44 : InvK INVC (xup M 2 (f_X3_upperRegister  M).toNatClampNeg ((((M 2 (f_X3_upperRegister  M).toNatClampNeg).toInt64 - (M 2 (f_X3_upperRegister  M).toNatClampNeg).toInt64 / (f_X10_extended a1 1).toInt64 * (f_X10_extended a1 1).toInt64).toInt32 <<< ((16 : Int32) &&& 31)) ||| (((M 2 (f_X3_upperRegister  M).toNatClampNeg).toInt64 / (f_X10_extended a1 1).toInt64).toInt32 &&& 65535))) := (hI.arr 2 ((f_X3_upperRegister  M).toNatClampNeg) ((((M 2 (f_X3_upperRegister  M).toNatClampNeg).toInt64 - (M 2 (f_X3_upperRegister  M).toNatClampNeg).toInt64 / (f_X10_extended a1 1).toInt64 * (f_X10_extended a1 1).toInt64).toInt32 <<< ((16 : Int32) &&& 31)) ||| (((M 2 (f_X3_upperRegister  M).toNatClampNeg).toInt64 / (f_X10_extended a1 1).toInt64).toInt32 &&& 65535)) (by decide))
        refine x_callV C (k := 13) (ci := 0) (rest := []) (avs := [.int (((M 2 (f_X3_upperRegister  M).toNatClampNeg).toInt64 / (f_X10_extended a1 1).toInt64).toInt32 &&& 65535), .int 1]) (k_X1_tested l (((M 2 (f_X3_upperRegister  M).toNatClampNeg).toInt64 / (f_X10_extended a1 1).toInt64).toInt32 &&& 65535) 1 (xup M 2 (f_X3_upperRegister  M).toNatClampNeg ((((M 2 (f_X3_upperRegister  M).toNatClampNeg).toInt64 - (M 2 (f_X3_upperRegister  M).toNatClampNeg).toInt64 / (f_X10_extended a1 1).toInt64 * (f_X10_extended a1 1).toInt64).toInt32 <<< ((16 : Int32) &&& 31)) ||| (((M 2 (f_X3_upperRegister  M).toNatClampNeg).toInt64 / (f_X10_extended a1 1).toInt64).toInt32 &&& 65535))) L hI44) yoX1_tested ml_X4_70 rfl rfl rfl rfl ⟨Nat.zero_le _, Nat.zero_le _⟩ (show decode cX4_divide 161 = .ok (.invokevirtual 70, 3) from by decide +kernel) rfl (fun v σ' hPo => ?_)
        obtain ⟨⟨rfl, rfl⟩, g46, hI47⟩ := hPo
        generalize hq45 : f_X1_tested (((M 2 (f_X3_upperRegister  M).toNatClampNeg).toInt64 / (f_X10_extended a1 1).toInt64).toInt32 &&& 65535) 1 (xup M 2 (f_X3_upperRegister  M).toNatClampNeg ((((M 2 (f_X3_upperRegister  M).toNatClampNeg).toInt64 - (M 2 (f_X3_upperRegister  M).toNatClampNeg).toInt64 / (f_X10_extended a1 1).toInt64 * (f_X10_extended a1 1).toInt64).toInt32 <<< ((16 : Int32) &&& 31)) ||| (((M 2 (f_X3_upperRegister  M).toNatClampNeg).toInt64 / (f_X10_extended a1 1).toInt64).toInt32 &&& 65535))) = q45 at h g46 hI47 ⊢
        obtain ⟨r45, M45⟩ := q45
        have h := xb_eq h
        try dsimp only at h g46 hI47
        show V 0 0 164 [(12, .int (((M 2 (f_X3_upperRegister  M).toNatClampNeg).toInt64 / (f_X10_extended a1 1).toInt64).toInt32 &&& 65535)), (10, .long q39.toInt64), (8, .long ((M 2 (f_X3_upperRegister  M).toNatClampNeg).toInt64 / (f_X10_extended a1 1).toInt64)), (6, .long (f_X10_extended a1 1).toInt64), (4, .long (M 2 (f_X3_upperRegister  M).toNatClampNeg).toInt64), (3, .int (f_X3_upperRegister  M)), (2, .int 1), (0, .ref 12), (1, .int a1)] [.int r45] LAY (M45, L)
        refine x_run C e_X4_divide_12 e_X4_divide_12_k (pc' := 165) (lv' := [(12, .int (((M 2 (f_X3_upperRegister  M).toNatClampNeg).toInt64 / (f_X10_extended a1 1).toInt64).toInt32 &&& 65535)), (10, .long q39.toInt64), (8, .long ((M 2 (f_X3_upperRegister  M).toNatClampNeg).toInt64 / (f_X10_extended a1 1).toInt64)), (6, .long (f_X10_extended a1 1).toInt64), (4, .long (M 2 (f_X3_upperRegister  M).toNatClampNeg).toInt64), (3, .int (f_X3_upperRegister  M)), (2, .int 1), (0, .ref 12), (1, .int a1)]) (st' := []) (σ' := (M45, L)) rfl ⟨trivial, trivial⟩ ?_
        subst h
        exact x_vret C (show decode cX4_divide 165 = .ok (.return_, 1) from by decide +kernel) (x_finV ⟨⟨rfl, rfl⟩, hI47⟩) (Nat.le_refl 0) (Nat.le_refl 0)
      · rw [if_neg c42] at h
        refine x_run C e_X4_divide_13 e_X4_divide_13_k (pc' := 123) (lv' := [(10, .long q39.toInt64), (8, .long ((M 2 (f_X3_upperRegister  M).toNatClampNeg).toInt64 / (f_X10_extended a1 1).toInt64)), (6, .long (f_X10_extended a1 1).toInt64), (4, .long (M 2 (f_X3_upperRegister  M).toNatClampNeg).toInt64), (3, .int (f_X3_upperRegister  M)), (2, .int 1), (0, .ref 12), (1, .int a1)]) (st' := [.int 2, .int 3, .ref 1]) (σ' := (M, L)) rfl ⟨trivial, trivial, trivial, trivial, trivial⟩ ?_
        refine x_callV C (k := 1) (ci := 6) (rest := []) (avs := [.int 3, .int 2]) (k_X8_changeFlags l 3 2 M L hI) yoX8_changeFlags ml_X4_160 rfl rfl rfl rfl ⟨Nat.zero_le _, Nat.zero_le _⟩ (show decode cX4_divide 123 = .ok (.invokevirtual 160, 3) from by decide +kernel) rfl (fun v σ' hPo => ?_)
        obtain ⟨⟨rfl, rfl⟩, hI50⟩ := hPo
        generalize hq48 : f_X8_changeFlags 3 2 M = q48 at h hI50 ⊢
        have h := xb_eq h
        show V 0 0 126 [(10, .long q39.toInt64), (8, .long ((M 2 (f_X3_upperRegister  M).toNatClampNeg).toInt64 / (f_X10_extended a1 1).toInt64)), (6, .long (f_X10_extended a1 1).toInt64), (4, .long (M 2 (f_X3_upperRegister  M).toNatClampNeg).toInt64), (3, .int (f_X3_upperRegister  M)), (2, .int 1), (0, .ref 12), (1, .int a1)] [] LAY (q48, L)
        subst h
        exact x_vret C (show decode cX4_divide 126 = .ok (.return_, 1) from by decide +kernel) (x_finV ⟨⟨rfl, rfl⟩, hI50⟩) (Nat.le_refl 0) (Nat.le_refl 0)
  · rw [if_pos c1] at h
    have g51 : xrg 0 0 a1 := (x_c_eq hp1 (x_rgc (x := 0) (k := 0) (by decide)) c1).1
    refine x_run C e_X4_divide_22 e_X4_divide_22_k (pc' := 9) (lv' := [(0, .ref 12), (1, .int a1)]) (st' := []) (σ' := ((xup M 12 6 5), L)) rfl ⟨trivial, trivial, trivial, trivial⟩ ?_
    have hI52 : InvK INVC (xup M 12 6 5) := (hI.set 12 6 (x_rgc (x := 5) (k := 5) (by decide)) (by decide))
    subst h
    exact x_vret C (show decode cX4_divide 9 = .ok (.return_, 1) from by decide +kernel) (x_finV ⟨⟨rfl, rfl⟩, hI52⟩) (Nat.le_refl 0) (Nat.le_refl 0)
-- X4_checkBounds
def e_X4_checkBounds_1 : List xI := [(0, .aload_n 0, 1, .null), (1, .getfield 21, 3, .null), (4, .aload_n 0, 1, .null), (5, .getfield 30, 3, .null)]
theorem e_X4_checkBounds_1_k : e_X4_checkBounds_1.all (fun q => xokB cX4_checkBounds q && xokL q) = true := by decide +kernel
def e_X4_checkBounds_2 : List xI := [(11, .iaload, 1, .null), (12, .iconst 1, 1, .int 1)]
theorem e_X4_checkBounds_2_k : e_X4_checkBounds_2.all (fun q => xokB cX4_checkBounds q && xokL q) = true := by decide +kernel
def e_X4_checkBounds_3 : List xI := [(16, .istore_n 2, 1, .null), (17, .iload_n 2, 1, .null)]
theorem e_X4_checkBounds_3_k : e_X4_checkBounds_3.all (fun q => xokB cX4_checkBounds q && xokL q) = true := by decide +kernel
def e_X4_checkBounds_4 : List xI := [(21, .iload_n 2, 1, .null), (22, .iload_n 1, 1, .null)]
theorem e_X4_checkBounds_4_k : e_X4_checkBounds_4.all (fun q => xokB cX4_checkBounds q && xokL q) = true := by decide +kernel
def e_X4_checkBounds_5 : List xI := [(26, .aload_n 0, 1, .null), (27, .getfield 9, 3, .null), (30, .bipush 8, 2, .int 8), (32, .iload_n 2, 1, .null)]
theorem e_X4_checkBounds_5_k : e_X4_checkBounds_5.all (fun q => xokB cX4_checkBounds q && xokL q) = true := by decide +kernel
def e_X4_checkBounds_6 : List xI := [(41, .iconst 0, 1, .int 0)]
theorem e_X4_checkBounds_6_k : e_X4_checkBounds_6.all (fun q => xokB cX4_checkBounds q && xokL q) = true := by decide +kernel
def e_X4_checkBounds_7 : List xI := [(36, .bipush 8, 2, .int 8)]
theorem e_X4_checkBounds_7_k : e_X4_checkBounds_7.all (fun q => xokB cX4_checkBounds q && xokL q) = true := by decide +kernel
def e_X4_checkBounds_8 : List xI := [(45, .aload_n 0, 1, .null), (46, .bipush 6, 2, .int 6), (48, .putfield 43, 3, .null)]
theorem e_X4_checkBounds_8_k : e_X4_checkBounds_8.all (fun q => xokB cX4_checkBounds q && xokL q) = true := by decide +kernel
abbrev P_X4_checkBounds (r : St) (L : Nat → Nat → Int64) : Option Value → xG → Prop := fun v σ' => PoV r L v σ' ∧ InvK INVC r
abbrev R_X4_checkBounds : Room := { frames := 1, cells := 0, slots := 0, locals := 22 }
abbrev C_X4_checkBounds (l : Launch) (r : St) (L : Nat → Nat → Int64) (V : XJ) : Prop := XC l yX4_checkBounds.cls yX4_checkBounds.name cX4_checkBounds 3 R_X4_checkBounds 0 0 fl_X4 kc_X4 LAY.length (xfin none LAY (P_X4_checkBounds r L)) V
def f_X4_checkBounds_42 (s0 : Int32) (s1 : Int32) (M : St) : St := (xb (f_X8_changeFlags s1 s0 M) fun q16 => (xup q16 12 6 6))
def f_X4_checkBounds_26 (x2 : Int32) (M : St) : St := (if 0 ≤ x2 then f_X4_checkBounds_42 0 8 M else f_X4_checkBounds_42 8 8 M)
def f_X4_checkBounds (a1 : Int32) (M : St) : St := (if (f_X10_extended (M 2 (f_X3_upperRegister  M).toNatClampNeg) 1) < 0 then f_X4_checkBounds_26 (f_X10_extended (M 2 (f_X3_upperRegister  M).toNatClampNeg) 1) M else (if (f_X10_extended (M 2 (f_X3_upperRegister  M).toNatClampNeg) 1) ≤ a1 then M else f_X4_checkBounds_26 (f_X10_extended (M 2 (f_X3_upperRegister  M).toNatClampNeg) 1) M))
set_option maxRecDepth 20000 in
set_option maxHeartbeats 4000000 in
theorem b_X4_checkBounds_42 {l : Launch} {L : Nat → Nat → Int64} {V : XJ} (r : St) (C : C_X4_checkBounds l r L V) (s0 : Int32) (s1 : Int32) (M : St) (ws0 : xrg 0 8 s0) (ws1 : xrg 8 8 s1) (hI : InvK INVC M) (h : f_X4_checkBounds_42 s0 s1 M = r) : V 0 0 42 [(0, .ref 12)] [.int s0, .int s1, .ref 1] LAY (M, L) := by
  unfold f_X4_checkBounds_42 at h
  refine x_callV C (k := 1) (ci := 6) (rest := []) (avs := [.int s1, .int s0]) (k_X8_changeFlags l s1 s0 M L hI) yoX8_changeFlags ml_X4_160 rfl rfl rfl rfl ⟨Nat.zero_le _, Nat.zero_le _⟩ (show decode cX4_checkBounds 42 = .ok (.invokevirtual 160, 3) from by decide +kernel) rfl (fun v σ' hPo => ?_)
  obtain ⟨⟨rfl, rfl⟩, hI18⟩ := hPo
  generalize hq16 : f_X8_changeFlags s1 s0 M = q16 at h hI18 ⊢
  have h := xb_eq h
  show V 0 0 45 [(0, .ref 12)] [] LAY (q16, L)
  refine x_run C e_X4_checkBounds_8 e_X4_checkBounds_8_k (pc' := 51) (lv' := [(0, .ref 12)]) (st' := []) (σ' := ((xup q16 12 6 6), L)) rfl ⟨trivial, trivial, trivial, trivial⟩ ?_
  have hI19 : InvK INVC (xup q16 12 6 6) := (hI18.set 12 6 (x_rgc (x := 6) (k := 6) (by decide)) (by decide))
  subst h
  exact x_vret C (show decode cX4_checkBounds 51 = .ok (.return_, 1) from by decide +kernel) (x_finV ⟨⟨rfl, rfl⟩, hI19⟩) (Nat.le_refl 0) (Nat.le_refl 0)
set_option maxRecDepth 20000 in
set_option maxHeartbeats 4000000 in
theorem b_X4_checkBounds_26 {l : Launch} {L : Nat → Nat → Int64} {V : XJ} (r : St) (C : C_X4_checkBounds l r L V) (x2 : Int32) (M : St) (hI : InvK INVC M) (h : f_X4_checkBounds_26 x2 M = r) : V 0 0 26 [(0, .ref 12), (2, .int x2)] [] LAY (M, L) := by
  unfold f_X4_checkBounds_26 at h
  refine x_run C e_X4_checkBounds_5 e_X4_checkBounds_5_k (pc' := 33) (lv' := [(0, .ref 12), (2, .int x2)]) (st' := [.int x2, .int 8, .ref 1]) (σ' := (M, L)) rfl ⟨trivial, trivial, trivial, trivial, trivial⟩ ?_
  refine x_if_ge C (show decode cX4_checkBounds 33 = .ok (.ifCond .ge 8, 3) from by decide +kernel) (tgt := 41) (by decide) (fun c13 => ?_) (fun c13 => ?_)
  · rw [if_pos c13] at h
    have g14 : xrg 0 2147483647 x2 := (x_c_le (x_rgc (x := 0) (k := 0) (by decide)) (x_rgt x2) c13).2
    refine x_run C e_X4_checkBounds_6 e_X4_checkBounds_6_k (pc' := 42) (lv' := [(0, .ref 12), (2, .int x2)]) (st' := [.int 0, .int 8, .ref 1]) (σ' := (M, L)) rfl ⟨trivial, trivial⟩ ?_
    refine x_lv C [0] rfl ?_
    exact b_X4_checkBounds_42 r C 0 8 M (x_rgw (x_rgc (x := 0) (k := 0) (by decide)) (lo' := 0) (hi' := 8) (by decide) (by decide)) (x_rgc (x := 8) (k := 8) (by decide)) hI h
  · rw [if_neg c13] at h
    have g15 : xrg (-2147483648) (-1) x2 := (x_c_nle (x_rgc (x := 0) (k := 0) (by decide)) (x_rgt x2) c13).2
    refine x_run C e_X4_checkBounds_7 e_X4_checkBounds_7_k (pc' := 38) (lv' := [(0, .ref 12), (2, .int x2)]) (st' := [.int 8, .int 8, .ref 1]) (σ' := (M, L)) rfl ⟨trivial, trivial⟩ ?_
    refine x_goto C (show decode cX4_checkBounds 38 = .ok (.goto 4, 3) from by decide +kernel) (tgt := 42) (by decide) ?_
    refine x_lv C [0] rfl ?_
    exact b_X4_checkBounds_42 r C 8 8 M (x_rgw (x_rgc (x := 8) (k := 8) (by decide)) (lo' := 0) (hi' := 8) (by decide) (by decide)) (x_rgc (x := 8) (k := 8) (by decide)) hI h
set_option maxRecDepth 20000 in
set_option maxHeartbeats 4000000 in
theorem k_X4_checkBounds (l : Launch) (a1 : Int32) (M : St) (L : Nat → Nat → Int64) (hI : InvK INVC M) : XM l yX4_checkBounds cX4_checkBounds 3 none R_X4_checkBounds LAY [.ref 12, .int a1] (M, L) (P_X4_checkBounds (f_X4_checkBounds a1 M) L) := by
  refine XM.of (by decide) (Nat.le_of_ble_eq_true rfl) LAY_in cl_ok fl_X4_ok kc_X4_ok (fun V C => ?_)
  obtain ⟨r, h⟩ : ∃ r, f_X4_checkBounds a1 M = r := ⟨_, rfl⟩
  rw [h] at C
  change C_X4_checkBounds l r L V at C
  unfold f_X4_checkBounds at h
  show V 0 0 0 [(0, .ref 12), (1, .int a1)] [] LAY (M, L)
  refine x_run C e_X4_checkBounds_1 e_X4_checkBounds_1_k (pc' := 8) (lv' := [(0, .ref 12), (1, .int a1)]) (st' := [.ref 11, .ref 2]) (σ' := (M, L)) rfl ⟨trivial, trivial, trivial, trivial, trivial⟩ ?_
  refine x_callV C (k := 11) (ci := 2) (rest := [.ref 2]) (avs := []) (k_X3_upperRegister l  M L hI) yoX3_upperRegister ml_X4_116 rfl rfl rfl rfl ⟨Nat.zero_le _, Nat.zero_le _⟩ (show decode cX4_checkBounds 8 = .ok (.invokevirtual 116, 3) from by decide +kernel) rfl (fun v σ' hPo => ?_)
  obtain ⟨⟨rfl, rfl⟩, g2, hI3⟩ := hPo
  show V 0 0 11 [(0, .ref 12), (1, .int a1)] [.int (f_X3_upperRegister  M), .ref 2] LAY (M, L)
  refine x_run C e_X4_checkBounds_2 e_X4_checkBounds_2_k (pc' := 13) (lv' := [(0, .ref 12), (1, .int a1)]) (st' := [.int 1, .int (M 2 (f_X3_upperRegister  M).toNatClampNeg)]) (σ' := (M, L)) rfl ⟨(x_rgv g2 (by decide) (by decide)), trivial, trivial⟩ ?_
  refine x_callSN C (rest := []) (avs := [.int (M 2 (f_X3_upperRegister  M).toNatClampNeg), .int 1]) (k_X10_extended l (M 2 (f_X3_upperRegister  M).toNatClampNeg) 1 M L) yoX10_extended ml_X4_97 rfl ⟨Nat.zero_le _, Nat.zero_le _⟩ (show decode cX4_checkBounds 13 = .ok (.invokestatic 97, 3) from by decide +kernel) rfl (fun v σ' hPo => ?_)
  obtain ⟨⟨rfl, rfl⟩, g5, -⟩ := hPo
  show V 0 0 16 [(0, .ref 12), (1, .int a1)] [.int (f_X10_extended (M 2 (f_X3_upperRegister  M).toNatClampNeg) 1)] LAY (M, L)
  refine x_run C e_X4_checkBounds_3 e_X4_checkBounds_3_k (pc' := 18) (lv' := [(2, .int (f_X10_extended (M 2 (f_X3_upperRegister  M).toNatClampNeg) 1)), (0, .ref 12), (1, .int a1)]) (st' := [.int (f_X10_extended (M 2 (f_X3_upperRegister  M).toNatClampNeg) 1)]) (σ' := (M, L)) rfl ⟨trivial, trivial, trivial⟩ ?_
  refine x_if_lt C (show decode cX4_checkBounds 18 = .ok (.ifCond .lt 8, 3) from by decide +kernel) (tgt := 26) (by decide) (fun c7 => ?_) (fun c7 => ?_)
  · rw [if_pos c7] at h
    have g8 : xrg (-2147483648) (-1) (f_X10_extended (M 2 (f_X3_upperRegister  M).toNatClampNeg) 1) := (x_c_lt (x_rgt (f_X10_extended (M 2 (f_X3_upperRegister  M).toNatClampNeg) 1)) (x_rgc (x := 0) (k := 0) (by decide)) c7).1
    refine x_lv C [1, 0] rfl ?_
    exact b_X4_checkBounds_26 r C (f_X10_extended (M 2 (f_X3_upperRegister  M).toNatClampNeg) 1) M hI h
  · rw [if_neg c7] at h
    have g9 : xrg 0 2147483647 (f_X10_extended (M 2 (f_X3_upperRegister  M).toNatClampNeg) 1) := (x_c_nlt (x_rgt (f_X10_extended (M 2 (f_X3_upperRegister  M).toNatClampNeg) 1)) (x_rgc (x := 0) (k := 0) (by decide)) c7).1
    refine x_run C e_X4_checkBounds_4 e_X4_checkBounds_4_k (pc' := 23) (lv' := [(2, .int (f_X10_extended (M 2 (f_X3_upperRegister  M).toNatClampNeg) 1)), (0, .ref 12), (1, .int a1)]) (st' := [.int a1, .int (f_X10_extended (M 2 (f_X3_upperRegister  M).toNatClampNeg) 1)]) (σ' := (M, L)) rfl ⟨trivial, trivial, trivial⟩ ?_
    refine x_icmp_le C (show decode cX4_checkBounds 23 = .ok (.if_icmp .le 28, 3) from by decide +kernel) (tgt := 51) (by decide) (fun c10 => ?_) (fun c10 => ?_)
    · rw [if_pos c10] at h
      have g11 : xrg 0 2147483647 a1 := (x_c_le g9 (x_rgt a1) c10).2
      subst h
      exact x_vret C (show decode cX4_checkBounds 51 = .ok (.return_, 1) from by decide +kernel) (x_finV ⟨⟨rfl, rfl⟩, hI⟩) (Nat.le_refl 0) (Nat.le_refl 0)
    · rw [if_neg c10] at h
      have g12 : xrg (-2147483648) 2147483646 a1 := (x_c_nle g9 (x_rgt a1) c10).2
      refine x_lv C [1, 0] rfl ?_
      exact b_X4_checkBounds_26 r C (f_X10_extended (M 2 (f_X3_upperRegister  M).toNatClampNeg) 1) M hI h
-- X4_quickNumber
def e_X4_quickNumber_1 : List xI := [(0, .aload_n 0, 1, .null), (1, .getfield 30, 3, .null)]
theorem e_X4_quickNumber_1_k : e_X4_quickNumber_1.all (fun q => xokB cX4_quickNumber q && xokL q) = true := by decide +kernel
def e_X4_quickNumber_2 : List xI := [(7, .istore_n 1, 1, .null), (8, .iload_n 1, 1, .null)]
theorem e_X4_quickNumber_2_k : e_X4_quickNumber_2.all (fun q => xokB cX4_quickNumber q && xokL q) = true := by decide +kernel
def e_X4_quickNumber_3 : List xI := [(17, .iload_n 1, 1, .null)]
theorem e_X4_quickNumber_3_k : e_X4_quickNumber_3.all (fun q => xokB cX4_quickNumber q && xokL q) = true := by decide +kernel
def e_X4_quickNumber_4 : List xI := [(12, .bipush 8, 2, .int 8)]
theorem e_X4_quickNumber_4_k : e_X4_quickNumber_4.all (fun q => xokB cX4_quickNumber q && xokL q) = true := by decide +kernel
abbrev P_X4_quickNumber (r : Int32) (M0 : St) (L : Nat → Nat → Int64) : Option Value → xG → Prop := fun v σ' => PoI r M0 L v σ' ∧ xrg 1 8 r ∧ InvK INVC M0
abbrev R_X4_quickNumber : Room := { frames := 1, cells := 0, slots := 0, locals := 20 }
abbrev C_X4_quickNumber (l : Launch) (r : Int32) (M0 : St) (L : Nat → Nat → Int64) (V : XJ) : Prop := XC l yX4_quickNumber.cls yX4_quickNumber.name cX4_quickNumber 2 R_X4_quickNumber 0 0 fl_X4 kc_X4 LAY.length (xfin (some .int) LAY (P_X4_quickNumber r M0 L)) V
def f_X4_quickNumber (M : St) : Int32 := (if (f_X3_upperRegister  M) = 0 then 8 else (f_X3_upperRegister  M))
set_option maxRecDepth 20000 in
set_option maxHeartbeats 4000000 in
theorem k_X4_quickNumber (l : Launch) (M : St) (L : Nat → Nat → Int64) (hI : InvK INVC M) : XM l yX4_quickNumber cX4_quickNumber 2 (some .int) R_X4_quickNumber LAY [.ref 12] (M, L) (P_X4_quickNumber (f_X4_quickNumber M) M L) := by
  refine XM.of (by decide) (Nat.le_of_ble_eq_true rfl) LAY_in cl_ok fl_X4_ok kc_X4_ok (fun V C => ?_)
  obtain ⟨r, h⟩ : ∃ r, f_X4_quickNumber M = r := ⟨_, rfl⟩
  rw [h] at C
  change C_X4_quickNumber l r M L V at C
  unfold f_X4_quickNumber at h
  show V 0 0 0 [(0, .ref 12)] [] LAY (M, L)
  refine x_run C e_X4_quickNumber_1 e_X4_quickNumber_1_k (pc' := 4) (lv' := [(0, .ref 12)]) (st' := [.ref 11]) (σ' := (M, L)) rfl ⟨trivial, trivial, trivial⟩ ?_
  refine x_callV C (k := 11) (ci := 2) (rest := []) (avs := []) (k_X3_upperRegister l  M L hI) yoX3_upperRegister ml_X4_116 rfl rfl rfl rfl ⟨Nat.zero_le _, Nat.zero_le _⟩ (show decode cX4_quickNumber 4 = .ok (.invokevirtual 116, 3) from by decide +kernel) rfl (fun v σ' hPo => ?_)
  obtain ⟨⟨rfl, rfl⟩, g2, hI3⟩ := hPo
  show V 0 0 7 [(0, .ref 12)] [.int (f_X3_upperRegister  M)] LAY (M, L)
  refine x_run C e_X4_quickNumber_2 e_X4_quickNumber_2_k (pc' := 9) (lv' := [(1, .int (f_X3_upperRegister  M)), (0, .ref 12)]) (st' := [.int (f_X3_upperRegister  M)]) (σ' := (M, L)) rfl ⟨trivial, trivial, trivial⟩ ?_
  refine x_if_ne C (show decode cX4_quickNumber 9 = .ok (.ifCond .ne 8, 3) from by decide +kernel) (tgt := 17) (by decide) (fun c4 => ?_) (fun c4 => ?_)
  · rw [if_neg c4] at h
    have g5 : xrg 1 7 (f_X3_upperRegister  M) := (x_c_ne g2 (by decide) c4)
    refine x_run C e_X4_quickNumber_3 e_X4_quickNumber_3_k (pc' := 18) (lv' := [(1, .int (f_X3_upperRegister  M)), (0, .ref 12)]) (st' := [.int (f_X3_upperRegister  M)]) (σ' := (M, L)) rfl ⟨trivial, trivial⟩ ?_
    subst h
    exact x_iret C (show decode cX4_quickNumber 18 = .ok (.ireturn, 1) from by decide +kernel) (x_finI rfl ⟨⟨rfl, rfl⟩, (x_rgw g5 (lo' := 1) (hi' := 8) (by decide) (by decide)), hI⟩) (Nat.le_refl 0) (Nat.le_refl 0)
  · rw [if_pos c4] at h
    have g6 : xrg 0 0 (f_X3_upperRegister  M) := (x_c_eq g2 (x_rgc (x := 0) (k := 0) (by decide)) c4).1
    refine x_run C e_X4_quickNumber_4 e_X4_quickNumber_4_k (pc' := 14) (lv' := [(1, .int (f_X3_upperRegister  M)), (0, .ref 12)]) (st' := [.int 8]) (σ' := (M, L)) rfl ⟨trivial, trivial⟩ ?_
    refine x_goto C (show decode cX4_quickNumber 14 = .ok (.goto 4, 3) from by decide +kernel) (tgt := 18) (by decide) ?_
    subst h
    exact x_iret C (show decode cX4_quickNumber 18 = .ok (.ireturn, 1) from by decide +kernel) (x_finI rfl ⟨⟨rfl, rfl⟩, (x_rgw (x_rgc (x := 8) (k := 8) (by decide)) (lo' := 1) (hi' := 8) (by decide) (by decide)), hI⟩) (Nat.le_refl 0) (Nat.le_refl 0)
-- X4_changeQuick
def e_X4_changeQuick_1 : List xI := [(0, .aload_n 0, 1, .null), (1, .getfield 30, 3, .null), (4, .getfield 65, 3, .null), (7, .istore_n 3, 1, .null), (8, .aload_n 0, 1, .null), (9, .getfield 26, 3, .null), (12, .aload_n 0, 1, .null), (13, .getfield 30, 3, .null), (16, .getfield 250, 3, .null), (19, .iload_n 3, 1, .null)]
theorem e_X4_changeQuick_1_k : e_X4_changeQuick_1.all (fun q => xokB cX4_changeQuick q && xokL q) = true := by decide +kernel
def e_X4_changeQuick_2 : List xI := [(23, .aload_n 0, 1, .null), (24, .getfield 30, 3, .null), (27, .getfield 250, 3, .null)]
theorem e_X4_changeQuick_2_k : e_X4_changeQuick_2.all (fun q => xokB cX4_changeQuick q && xokL q) = true := by decide +kernel
def e_X4_changeQuick_3 : List xI := [(33, .iconst 1, 1, .int 1)]
theorem e_X4_changeQuick_3_k : e_X4_changeQuick_3.all (fun q => xokB cX4_changeQuick q && xokL q) = true := by decide +kernel
def e_X4_changeQuick_4 : List xI := [(71, .aload_n 0, 1, .null), (72, .getfield 26, 3, .null), (75, .iload_n 3, 1, .null), (76, .aload_n 0, 1, .null), (77, .getfield 39, 3, .null), (80, .aload_n 1, 1, .null), (81, .aload_n 0, 1, .null), (82, .getfield 26, 3, .null), (85, .iload_n 3, 1, .null)]
theorem e_X4_changeQuick_4_k : e_X4_changeQuick_4.all (fun q => xokB cX4_changeQuick q && xokL q) = true := by decide +kernel
def e_X4_changeQuick_5 : List xI := [(89, .iload_n 2, 1, .null), (90, .iload_n 3, 1, .null)]
theorem e_X4_changeQuick_5_k : e_X4_changeQuick_5.all (fun q => xokB cX4_changeQuick q && xokL q) = true := by decide +kernel
def e_X4_changeQuick_6 : List xI := [(37, .aload_n 0, 1, .null), (38, .getfield 21, 3, .null), (41, .aload_n 0, 1, .null), (42, .getfield 26, 3, .null), (45, .getfield 247, 3, .null), (48, .bipush 15, 2, .int 15), (50, .iand, 1, .null), (51, .dup2, 1, .null), (52, .iaload, 1, .null), (53, .aload_n 1, 1, .null)]
theorem e_X4_changeQuick_6_k : e_X4_changeQuick_6.all (fun q => xokB cX4_changeQuick q && xokL q) = true := by decide +kernel
def e_X4_changeQuick_7 : List xI := [(64, .iload_n 2, 1, .null), (65, .ineg, 1, .null)]
theorem e_X4_changeQuick_7_k : e_X4_changeQuick_7.all (fun q => xokB cX4_changeQuick q && xokL q) = true := by decide +kernel
def e_X4_changeQuick_8 : List xI := [(60, .iload_n 2, 1, .null)]
theorem e_X4_changeQuick_8_k : e_X4_changeQuick_8.all (fun q => xokB cX4_changeQuick q && xokL q) = true := by decide +kernel
def e_X4_changeQuick_9 : List xI := [(66, .iadd, 1, .null), (67, .iastore, 1, .null)]
theorem e_X4_changeQuick_9_k : e_X4_changeQuick_9.all (fun q => xokB cX4_changeQuick q && xokL q) = true := by decide +kernel
abbrev P_X4_changeQuick (r : St) (L : Nat → Nat → Int64) : Option Value → xG → Prop := fun v σ' => PoV r L v σ' ∧ InvK INVC r
abbrev R_X4_changeQuick : Room := { frames := 4, cells := 0, slots := 0, locals := 102 }
abbrev C_X4_changeQuick (l : Launch) (r : St) (L : Nat → Nat → Int64) (V : XJ) : Prop := XC l yX4_changeQuick.cls yX4_changeQuick.name cX4_changeQuick 4 R_X4_changeQuick 0 0 fl_X4 kc_X4 LAY.length (xfin none LAY (P_X4_changeQuick r L)) V
def f_X4_changeQuick_66 (s0 : Int32) (s1 : Int32) (s2 : Int32) (M : St) : St := (xup M 2 s2.toNatClampNeg (s1 + s0))
def f_X4_changeQuick (a1 : Nat) (a2 : Int32) (M : St) : St := (xb (f_X6_find (M 11 3) (M 11 1) M) fun q1 => (if (f_X9_of (q1 11 3)) = 1 then (if a1 = 1 then f_X4_changeQuick_66 a2 (q1 2 ((q1 10 3) &&& 15).toNatClampNeg) ((q1 10 3) &&& 15) q1 else f_X4_changeQuick_66 (-a2) (q1 2 ((q1 10 3) &&& 15).toNatClampNeg) ((q1 10 3) &&& 15) q1) else (xb (f_X6_read (M 11 1) q1) fun q8 => (xb (f_X1_combined a1 q8.1 a2 (M 11 1) q8.2) fun q11 => (xb (f_X6_write (M 11 1) q11.1 q11.2) fun q14 => q14)))))
set_option maxRecDepth 20000 in
set_option maxHeartbeats 4000000 in
theorem b_X4_changeQuick_66 {l : Launch} {L : Nat → Nat → Int64} {V : XJ} (r : St) (C : C_X4_changeQuick l r L V) (s0 : Int32) (s1 : Int32) (s2 : Int32) (M : St) (ws2 : xrg 0 15 s2) (hI : InvK INVC M) (h : f_X4_changeQuick_66 s0 s1 s2 M = r) : V 0 0 66 [] [.int s0, .int s1, .int s2, .ref 2] LAY (M, L) := by
  unfold f_X4_changeQuick_66 at h
  refine x_run C e_X4_changeQuick_9 e_X4_changeQuick_9_k (pc' := 68) (lv' := []) (st' := []) (σ' := ((xup M 2 s2.toNatClampNeg (s1 + s0)), L)) rfl ⟨trivial, (x_rgv ws2 (by decide) (by decide)), trivial⟩ ?_
  have hI19 : InvK INVC (xup M 2 s2.toNatClampNeg (s1 + s0)) := (hI.arr 2 (s2.toNatClampNeg) (s1 + s0) (by decide))
  refine x_goto C (show decode cX4_changeQuick 68 = .ok (.goto 29, 3) from by decide +kernel) (tgt := 97) (by decide) ?_
  subst h
  exact x_vret C (show decode cX4_changeQuick 97 = .ok (.return_, 1) from by decide +kernel) (x_finV ⟨⟨rfl, rfl⟩, hI19⟩) (Nat.le_refl 0) (Nat.le_refl 0)
set_option maxRecDepth 20000 in
set_option maxHeartbeats 4000000 in
theorem k_X4_changeQuick (l : Launch) (a1 : Nat) (a2 : Int32) (M : St) (L : Nat → Nat → Int64) (hb1 : a1 < 66) (hI : InvK INVC M) : XM l yX4_changeQuick cX4_changeQuick 4 none R_X4_changeQuick LAY [.ref 12, .ref (1000 + a1), .int a2] (M, L) (P_X4_changeQuick (f_X4_changeQuick a1 a2 M) L) := by
  refine XM.of (by decide) (Nat.le_of_ble_eq_true rfl) LAY_in cl_ok fl_X4_ok kc_X4_ok (fun V C => ?_)
  obtain ⟨r, h⟩ : ∃ r, f_X4_changeQuick a1 a2 M = r := ⟨_, rfl⟩
  rw [h] at C
  change C_X4_changeQuick l r L V at C
  unfold f_X4_changeQuick at h
  show V 0 0 0 [(0, .ref 12), (1, .ref (1000 + a1)), (2, .int a2)] [] LAY (M, L)
  refine x_run C e_X4_changeQuick_1 e_X4_changeQuick_1_k (pc' := 20) (lv' := [(3, .int (M 11 1)), (0, .ref 12), (1, .ref (1000 + a1)), (2, .int a2)]) (st' := [.int (M 11 1), .int (M 11 3), .ref 10]) (σ' := (M, L)) rfl ⟨trivial, trivial, trivial, trivial, trivial, trivial, trivial, trivial, trivial, trivial, trivial⟩ ?_
  refine x_callV C (k := 10) (ci := 4) (rest := []) (avs := [.int (M 11 3), .int (M 11 1)]) (k_X6_find l (M 11 3) (M 11 1) M L hI) yoX6_find ml_X4_241 rfl rfl rfl rfl ⟨Nat.zero_le _, Nat.zero_le _⟩ (show decode cX4_changeQuick 20 = .ok (.invokevirtual 241, 3) from by decide +kernel) rfl (fun v σ' hPo => ?_)
  obtain ⟨⟨rfl, rfl⟩, hI3⟩ := hPo
  generalize hq1 : f_X6_find (M 11 3) (M 11 1) M = q1 at h hI3 ⊢
  have h := xb_eq h
  show V 0 0 23 [(3, .int (M 11 1)), (0, .ref 12), (1, .ref (1000 + a1)), (2, .int a2)] [] LAY (q1, L)
  refine x_run C e_X4_changeQuick_2 e_X4_changeQuick_2_k (pc' := 30) (lv' := [(3, .int (M 11 1)), (0, .ref 12), (1, .ref (1000 + a1)), (2, .int a2)]) (st' := [.int (q1 11 3)]) (σ' := (q1, L)) rfl ⟨trivial, trivial, trivial, trivial⟩ ?_
  refine x_callS C (rest := []) (avs := [.int (q1 11 3)]) (k_X9_of l (q1 11 3) q1 L) yoX9_of ml_X4_277 rfl ⟨Nat.zero_le _, Nat.zero_le _⟩ (show decode cX4_changeQuick 30 = .ok (.invokestatic 277, 3) from by decide +kernel) rfl (fun v σ' hPo => ?_)
  obtain ⟨⟨rfl, rfl⟩, g5, -⟩ := hPo
  show V 0 0 33 [(3, .int (M 11 1)), (0, .ref 12), (1, .ref (1000 + a1)), (2, .int a2)] [.int (f_X9_of (q1 11 3))] LAY (q1, L)
  refine x_run C e_X4_changeQuick_3 e_X4_changeQuick_3_k (pc' := 34) (lv' := [(3, .int (M 11 1)), (0, .ref 12), (1, .ref (1000 + a1)), (2, .int a2)]) (st' := [.int 1, .int (f_X9_of (q1 11 3))]) (σ' := (q1, L)) rfl ⟨trivial, trivial⟩ ?_
  refine x_icmp_ne C (show decode cX4_changeQuick 34 = .ok (.if_icmp .ne 37, 3) from by decide +kernel) (tgt := 71) (by decide) (fun c7 => ?_) (fun c7 => ?_)
  · rw [if_neg c7] at h
    refine x_run C e_X4_changeQuick_4 e_X4_changeQuick_4_k (pc' := 86) (lv' := [(3, .int (M 11 1)), (0, .ref 12), (1, .ref (1000 + a1)), (2, .int a2)]) (st' := [.int (M 11 1), .ref 10, .ref (1000 + a1), .ref 13, .int (M 11 1), .ref 10]) (σ' := (q1, L)) rfl ⟨trivial, trivial, trivial, trivial, trivial, trivial, trivial, trivial, trivial, trivial⟩ ?_
    refine x_callV C (k := 10) (ci := 4) (rest := [.ref (1000 + a1), .ref 13, .int (M 11 1), .ref 10]) (avs := [.int (M 11 1)]) (k_X6_read l (M 11 1) q1 L hI3) yoX6_read ml_X4_244 rfl rfl rfl rfl ⟨Nat.zero_le _, Nat.zero_le _⟩ (show decode cX4_changeQuick 86 = .ok (.invokevirtual 244, 3) from by decide +kernel) rfl (fun v σ' hPo => ?_)
    obtain ⟨⟨rfl, rfl⟩, g9, hI10⟩ := hPo
    generalize hq8 : f_X6_read (M 11 1) q1 = q8 at h g9 hI10 ⊢
    obtain ⟨r8, M8⟩ := q8
    have h := xb_eq h
    try dsimp only at h g9 hI10
    show V 0 0 89 [(3, .int (M 11 1)), (0, .ref 12), (1, .ref (1000 + a1)), (2, .int a2)] [.int r8, .ref (1000 + a1), .ref 13, .int (M 11 1), .ref 10] LAY (M8, L)
    refine x_run C e_X4_changeQuick_5 e_X4_changeQuick_5_k (pc' := 91) (lv' := [(3, .int (M 11 1)), (0, .ref 12), (1, .ref (1000 + a1)), (2, .int a2)]) (st' := [.int (M 11 1), .int a2, .int r8, .ref (1000 + a1), .ref 13, .int (M 11 1), .ref 10]) (σ' := (M8, L)) rfl ⟨trivial, trivial, trivial⟩ ?_
    refine x_callV C (k := 13) (ci := 0) (rest := [.int (M 11 1), .ref 10]) (avs := [.ref (1000 + a1), .int r8, .int a2, .int (M 11 1)]) (k_X1_combined l a1 r8 a2 (M 11 1) M8 L hb1 hI10) yoX1_combined ml_X4_256 rfl rfl rfl rfl ⟨Nat.zero_le _, Nat.zero_le _⟩ (show decode cX4_changeQuick 91 = .ok (.invokevirtual 256, 3) from by decide +kernel) rfl (fun v σ' hPo => ?_)
    obtain ⟨⟨rfl, rfl⟩, g12, hI13⟩ := hPo
    generalize hq11 : f_X1_combined a1 r8 a2 (M 11 1) M8 = q11 at h g12 hI13 ⊢
    obtain ⟨r11, M11⟩ := q11
    have h := xb_eq h
    try dsimp only at h g12 hI13
    show V 0 0 94 [(3, .int (M 11 1)), (0, .ref 12), (1, .ref (1000 + a1)), (2, .int a2)] [.int r11, .int (M 11 1), .ref 10] LAY (M11, L)
    refine x_callV C (k := 10) (ci := 4) (rest := []) (avs := [.int (M 11 1), .int r11]) (k_X6_write l (M 11 1) r11 M11 L hI13) yoX6_write ml_X4_253 rfl rfl rfl rfl ⟨Nat.zero_le _, Nat.zero_le _⟩ (show decode cX4_changeQuick 94 = .ok (.invokevirtual 253, 3) from by decide +kernel) rfl (fun v σ' hPo => ?_)
    obtain ⟨⟨rfl, rfl⟩, hI16⟩ := hPo
    generalize hq14 : f_X6_write (M 11 1) r11 M11 = q14 at h hI16 ⊢
    have h := xb_eq h
    show V 0 0 97 [(3, .int (M 11 1)), (0, .ref 12), (1, .ref (1000 + a1)), (2, .int a2)] [] LAY (q14, L)
    subst h
    exact x_vret C (show decode cX4_changeQuick 97 = .ok (.return_, 1) from by decide +kernel) (x_finV ⟨⟨rfl, rfl⟩, hI16⟩) (Nat.le_refl 0) (Nat.le_refl 0)
  · rw [if_pos c7] at h
    have g17 : xrg 1 1 (f_X9_of (q1 11 3)) := (x_c_eq g5 (x_rgc (x := 1) (k := 1) (by decide)) c7).1
    refine x_run C e_X4_changeQuick_6 e_X4_changeQuick_6_k (pc' := 54) (lv' := [(3, .int (M 11 1)), (0, .ref 12), (1, .ref (1000 + a1)), (2, .int a2)]) (st' := [.ref (1000 + a1), .int (q1 2 ((q1 10 3) &&& 15).toNatClampNeg), .int ((q1 10 3) &&& 15), .ref 2]) (σ' := (q1, L)) rfl ⟨trivial, trivial, trivial, trivial, trivial, trivial, trivial, trivial, (x_rgv (x_rg_and (x := (q1 10 3)) (m := 15) (k := 15) (by decide) (by decide)) (by decide) (by decide)), trivial, trivial⟩ ?_
    refine x_getE C 1 (by decide) (x_in 1048 (by decide +kernel) rfl) (show decode cX4_changeQuick 54 = .ok (.getstatic 103, 3) from by decide +kernel) ?_
    refine x_acmp_ne C hb1 (show 1 < 66 by decide) (show decode cX4_changeQuick 57 = .ok (.if_acmp .ne 7, 3) from by decide +kernel) (tgt := 64) (by decide) (fun c18 => ?_) (fun c18 => ?_)
    · rw [if_neg c18] at h
      refine x_run C e_X4_changeQuick_7 e_X4_changeQuick_7_k (pc' := 66) (lv' := [(3, .int (M 11 1)), (0, .ref 12), (1, .ref (1000 + a1)), (2, .int a2)]) (st' := [.int (-a2), .int (q1 2 ((q1 10 3) &&& 15).toNatClampNeg), .int ((q1 10 3) &&& 15), .ref 2]) (σ' := (q1, L)) rfl ⟨trivial, trivial, trivial⟩ ?_
      refine x_lv C [] rfl ?_
      exact b_X4_changeQuick_66 r C (-a2) (q1 2 ((q1 10 3) &&& 15).toNatClampNeg) ((q1 10 3) &&& 15) q1 (x_rg_and (x := (q1 10 3)) (m := 15) (k := 15) (by decide) (by decide)) hI3 h
    · rw [if_pos c18] at h
      refine x_run C e_X4_changeQuick_8 e_X4_changeQuick_8_k (pc' := 61) (lv' := [(3, .int (M 11 1)), (0, .ref 12), (1, .ref (1000 + a1)), (2, .int a2)]) (st' := [.int a2, .int (q1 2 ((q1 10 3) &&& 15).toNatClampNeg), .int ((q1 10 3) &&& 15), .ref 2]) (σ' := (q1, L)) rfl ⟨trivial, trivial⟩ ?_
      refine x_goto C (show decode cX4_changeQuick 61 = .ok (.goto 5, 3) from by decide +kernel) (tgt := 66) (by decide) ?_
      refine x_lv C [] rfl ?_
      exact b_X4_changeQuick_66 r C a2 (q1 2 ((q1 10 3) &&& 15).toNatClampNeg) ((q1 10 3) &&& 15) q1 (x_rg_and (x := (q1 10 3)) (m := 15) (k := 15) (by decide) (by decide)) hI3 h
