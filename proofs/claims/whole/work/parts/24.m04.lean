-- X11_quick
def e_X11_quick_1 : List xI := [(0, .iload_n 3, 1, .null)]
theorem e_X11_quick_1_k : e_X11_quick_1.all (fun q => xokB cX11_quick q && xokL q) = true := by decide +kernel
def e_X11_quick_2 : List xI := [(9, .iload_n 3, 1, .null)]
theorem e_X11_quick_2_k : e_X11_quick_2.all (fun q => xokB cX11_quick q && xokL q) = true := by decide +kernel
def e_X11_quick_3 : List xI := [(4, .bipush 8, 2, .int 8)]
theorem e_X11_quick_3_k : e_X11_quick_3.all (fun q => xokB cX11_quick q && xokL q) = true := by decide +kernel
def e_X11_quick_4 : List xI := [(10, .istore 5, 2, .null), (12, .iload_n 2, 1, .null), (13, .iconst 3, 1, .int 3)]
theorem e_X11_quick_4_k : e_X11_quick_4.all (fun q => xokB cX11_quick q && xokL q) = true := by decide +kernel
def e_X11_quick_5 : List xI := [(95, .aload_n 0, 1, .null), (96, .iconst 2, 1, .int 2), (97, .iload_n 3, 1, .null), (98, .imul, 1, .null), (99, .iload 4, 2, .null)]
theorem e_X11_quick_5_k : e_X11_quick_5.all (fun q => xokB cX11_quick q && xokL q) = true := by decide +kernel
def e_X11_quick_6 : List xI := [(108, .iconst 0, 1, .int 0)]
theorem e_X11_quick_6_k : e_X11_quick_6.all (fun q => xokB cX11_quick q && xokL q) = true := by decide +kernel
def e_X11_quick_7 : List xI := [(104, .iconst 1, 1, .int 1)]
theorem e_X11_quick_7_k : e_X11_quick_7.all (fun q => xokB cX11_quick q && xokL q) = true := by decide +kernel
def e_X11_quick_8 : List xI := [(17, .aload_n 0, 1, .null), (18, .iload_n 1, 1, .null), (19, .iload_n 2, 1, .null)]
theorem e_X11_quick_8_k : e_X11_quick_8.all (fun q => xokB cX11_quick q && xokL q) = true := by decide +kernel
def e_X11_quick_9 : List xI := [(23, .iload_n 1, 1, .null), (24, .iconst 3, 1, .int 3), (25, .ishr, 1, .null), (26, .iconst 1, 1, .int 1)]
theorem e_X11_quick_9_k : e_X11_quick_9.all (fun q => xokB cX11_quick q && xokL q) = true := by decide +kernel
def e_X11_quick_10 : List xI := [(74, .aload_n 0, 1, .null), (75, .iload_n 2, 1, .null), (76, .aload_n 0, 1, .null), (77, .iload_n 2, 1, .null), (78, .iload 5, 2, .null), (80, .aload_n 0, 1, .null), (81, .iload_n 2, 1, .null)]
theorem e_X11_quick_10_k : e_X11_quick_10.all (fun q => xokB cX11_quick q && xokL q) = true := by decide +kernel
def e_X11_quick_11 : List xI := [(85, .iload 4, 2, .null), (87, .iconst 0, 1, .int 0)]
theorem e_X11_quick_11_k : e_X11_quick_11.all (fun q => xokB cX11_quick q && xokL q) = true := by decide +kernel
def e_X11_quick_12 : List xI := [(30, .aload_n 0, 1, .null), (31, .getfield 7, 3, .null), (34, .aload_n 0, 1, .null), (35, .getfield 107, 3, .null), (38, .iload 4, 2, .null)]
theorem e_X11_quick_12_k : e_X11_quick_12.all (fun q => xokB cX11_quick q && xokL q) = true := by decide +kernel
def e_X11_quick_13 : List xI := [(58, .aload_n 0, 1, .null), (59, .getfield 7, 3, .null), (62, .aload_n 0, 1, .null), (63, .getfield 107, 3, .null), (66, .iaload, 1, .null), (67, .iload 5, 2, .null), (69, .iadd, 1, .null)]
theorem e_X11_quick_13_k : e_X11_quick_13.all (fun q => xokB cX11_quick q && xokL q) = true := by decide +kernel
def e_X11_quick_14 : List xI := [(43, .aload_n 0, 1, .null), (44, .getfield 7, 3, .null), (47, .aload_n 0, 1, .null), (48, .getfield 107, 3, .null), (51, .iaload, 1, .null), (52, .iload 5, 2, .null), (54, .isub, 1, .null)]
theorem e_X11_quick_14_k : e_X11_quick_14.all (fun q => xokB cX11_quick q && xokL q) = true := by decide +kernel
def e_X11_quick_15 : List xI := [(109, .iadd, 1, .null)]
theorem e_X11_quick_15_k : e_X11_quick_15.all (fun q => xokB cX11_quick q && xokL q) = true := by decide +kernel
def e_X11_quick_16 : List xI := [(113, .istore 6, 2, .null), (115, .iload_n 1, 1, .null), (116, .iconst 3, 1, .int 3), (117, .ishr, 1, .null), (118, .iconst 1, 1, .int 1)]
theorem e_X11_quick_16_k : e_X11_quick_16.all (fun q => xokB cX11_quick q && xokL q) = true := by decide +kernel
def e_X11_quick_17 : List xI := [(146, .aload_n 0, 1, .null), (147, .getfield 7, 3, .null), (150, .bipush 17, 2, .int 17), (152, .iaload, 1, .null), (153, .istore 7, 2, .null), (155, .aload_n 0, 1, .null)]
theorem e_X11_quick_17_k : e_X11_quick_17.all (fun q => xokB cX11_quick q && xokL q) = true := by decide +kernel
def e_X11_quick_18 : List xI := [(159, .i2s, 1, .null), (160, .istore 8, 2, .null), (162, .iload 6, 2, .null)]
theorem e_X11_quick_18_k : e_X11_quick_18.all (fun q => xokB cX11_quick q && xokL q) = true := by decide +kernel
def e_X11_quick_19 : List xI := [(168, .aload_n 0, 1, .null), (169, .getfield 7, 3, .null), (172, .iload_n 1, 1, .null), (173, .bipush 7, 2, .int 7), (175, .iand, 1, .null), (176, .iaload, 1, .null), (177, .iconst 1, 1, .int 1), (178, .isub, 1, .null), (179, .ldc 45, 2, .null), (181, .iand, 1, .null), (182, .istore 9, 2, .null), (184, .aload_n 0, 1, .null), (185, .iload_n 1, 1, .null), (186, .bipush 7, 2, .int 7), (188, .iand, 1, .null), (189, .iconst 1, 1, .int 1), (190, .iload 9, 2, .null)]
theorem e_X11_quick_19_k : e_X11_quick_19.all (fun q => xokB cX11_quick q && xokL q) = true := by decide +kernel
def e_X11_quick_20 : List xI := [(195, .iload 9, 2, .null), (197, .ldc 45, 2, .null)]
theorem e_X11_quick_20_k : e_X11_quick_20.all (fun q => xokB cX11_quick q && xokL q) = true := by decide +kernel
def e_X11_quick_21 : List xI := [(202, .aload_n 0, 1, .null), (203, .getfield 7, 3, .null), (206, .bipush 17, 2, .int 17), (208, .iload 7, 2, .null), (210, .iload 8, 2, .null), (212, .iadd, 1, .null), (213, .iastore, 1, .null)]
theorem e_X11_quick_21_k : e_X11_quick_21.all (fun q => xokB cX11_quick q && xokL q) = true := by decide +kernel
def e_X11_quick_22 : List xI := [(122, .aload_n 0, 1, .null), (123, .iload_n 1, 1, .null), (124, .iconst 0, 1, .int 0)]
theorem e_X11_quick_22_k : e_X11_quick_22.all (fun q => xokB cX11_quick q && xokL q) = true := by decide +kernel
def e_X11_quick_23 : List xI := [(128, .aload_n 0, 1, .null), (129, .iconst 0, 1, .int 0), (130, .iload 6, 2, .null)]
theorem e_X11_quick_23_k : e_X11_quick_23.all (fun q => xokB cX11_quick q && xokL q) = true := by decide +kernel
def e_X11_quick_24 : List xI := [(141, .iconst 0, 1, .int 0)]
theorem e_X11_quick_24_k : e_X11_quick_24.all (fun q => xokB cX11_quick q && xokL q) = true := by decide +kernel
def e_X11_quick_25 : List xI := [(135, .sipush 255, 3, .int 255)]
theorem e_X11_quick_25_k : e_X11_quick_25.all (fun q => xokB cX11_quick q && xokL q) = true := by decide +kernel
def e_X11_quick_26 : List xI := [(70, .iastore, 1, .null)]
theorem e_X11_quick_26_k : e_X11_quick_26.all (fun q => xokB cX11_quick q && xokL q) = true := by decide +kernel
abbrev P_X11_quick (r : St) (L : Nat → Nat → Int64) : Option Value → xG → Prop := fun v σ' => PoV r L v σ' ∧ Inv INVM r
abbrev R_X11_quick : Room := { frames := 7, cells := 0, slots := 0, locals := 166 }
abbrev C_X11_quick (l : Launch) (r : St) (L : Nat → Nat → Int64) (V : XJ) : Prop := XC l yX11_quick.cls yX11_quick.name cX11_quick 10 R_X11_quick 0 0 fl_X11 kc_X11 LAY.length (xfin none LAY (P_X11_quick r L)) V
def f_X11_quick_142 (s0 : Int32) (s1 : Int32) (M : St) : St := (xb (f_X11_store s1 s0 M) fun q50 => q50)
def f_X11_quick_109 (x1 : Int32) (s0 : Int32) (s1 : Int32) (M : St) : St := (if (x1 >>> ((3 : Int32) &&& 31)) = 1 then (xb (f_X11_fetch  M) fun q30 => (if (f_X11_holds (s1 + s0) M) = 0 then (xb (f_X11_keepIn (x1 &&& 7) 1 (((q30.2 15 (x1 &&& 7).toNatClampNeg) - 1) &&& 65535) q30.2) fun q35 => (if (((q30.2 15 (x1 &&& 7).toNatClampNeg) - 1) &&& 65535) = 65535 then q35 else (xup q35 15 17 ((M 15 17) + q30.1.toInt16.toInt32)))) else q30.2)) else (xb (f_X11_find x1 0 M) fun q43 => (if (f_X11_holds (s1 + s0) M) = 0 then f_X11_quick_142 0 0 q43 else f_X11_quick_142 255 0 q43)))
def f_X11_quick_70 (s0 : Int32) (s1 : Int32) (M : St) : St := (xup M 15 s1.toNatClampNeg s0)
def f_X11_quick_10 (x1 : Int32) (x2 : Int32) (x3 : Int32) (x4 : Int32) (s0 : Int32) (M : St) : St := (if 3 ≤ x2 then (if x4 = 0 then f_X11_quick_109 x1 0 (2 * x3) M else f_X11_quick_109 x1 1 (2 * x3) M) else (xb (f_X11_find x1 x2 M) fun q9 => (if (x1 >>> ((3 : Int32) &&& 31)) = 1 then (if x4 = 0 then f_X11_quick_70 ((q9 15 (q9 14 25).toNatClampNeg) + s0) (q9 14 25) q9 else f_X11_quick_70 ((q9 15 (q9 14 25).toNatClampNeg) - s0) (q9 14 25) q9) else (xb (f_X11_load x2 q9) fun q13 => (xb (f_X11_sum x2 s0 q13.1 x4 0 q13.2) fun q16 => (xb (f_X11_store x2 q16.1 q16.2) fun q19 => q19))))))
def f_X11_quick (a1 : Int32) (a2 : Int32) (a3 : Int32) (a4 : Int32) (M : St) : St := (if a3 = 0 then f_X11_quick_10 a1 a2 a3 a4 8 M else f_X11_quick_10 a1 a2 a3 a4 a3 M)
set_option maxRecDepth 20000 in
set_option maxHeartbeats 4000000 in
theorem b_X11_quick_142 {l : Launch} {L : Nat → Nat → Int64} {V : XJ} (r : St) (C : C_X11_quick l r L V) (s0 : Int32) (s1 : Int32) (M : St) (ws0 : xrg 0 255 s0) (ws1 : xrg 0 0 s1) (hI : Inv INVM M) (h : f_X11_quick_142 s0 s1 M = r) : V 0 0 142 [] [.int s0, .int s1, .ref 14] LAY (M, L) := by
  unfold f_X11_quick_142 at h
  refine x_callV C (k := 14) (ci := 8) (rest := []) (avs := [.int s1, .int s0]) (k_X11_store l s1 s0 M L hI) yoX11_store ml_X11_193 rfl rfl rfl rfl ⟨Nat.zero_le _, Nat.zero_le _⟩ (show decode cX11_quick 142 = .ok (.invokevirtual 193, 3) from by decide +kernel) rfl (fun v σ' hPo => ?_)
  obtain ⟨⟨rfl, rfl⟩, hI52⟩ := hPo
  generalize hq50 : f_X11_store s1 s0 M = q50 at h hI52 ⊢
  have h := xb_eq h
  show V 0 0 145 [] [] LAY (q50, L)
  subst h
  exact x_vret C (show decode cX11_quick 145 = .ok (.return_, 1) from by decide +kernel) (x_finV ⟨⟨rfl, rfl⟩, hI52⟩) (Nat.le_refl 0) (Nat.le_refl 0)
set_option maxRecDepth 20000 in
set_option maxHeartbeats 4000000 in
theorem b_X11_quick_109 {l : Launch} {L : Nat → Nat → Int64} {V : XJ} (r : St) (C : C_X11_quick l r L V) (x1 : Int32) (s0 : Int32) (s1 : Int32) (M : St) (wx1 : xrg 0 63 x1) (ws0 : xrg 0 1 s0) (hI : Inv INVM M) (h : f_X11_quick_109 x1 s0 s1 M = r) : V 0 0 109 [(0, .ref 14), (1, .int x1)] [.int s0, .int s1, .ref 14] LAY (M, L) := by
  unfold f_X11_quick_109 at h
  refine x_run C e_X11_quick_15 e_X11_quick_15_k (pc' := 110) (lv' := [(0, .ref 14), (1, .int x1)]) (st' := [.int (s1 + s0), .ref 14]) (σ' := (M, L)) rfl ⟨trivial, trivial⟩ ?_
  refine x_callV C (k := 14) (ci := 8) (rest := []) (avs := [.int (s1 + s0)]) (k_X11_holds l (s1 + s0) M L hI) yoX11_holds ml_X11_257 rfl rfl rfl rfl ⟨Nat.zero_le _, Nat.zero_le _⟩ (show decode cX11_quick 110 = .ok (.invokevirtual 257, 3) from by decide +kernel) rfl (fun v σ' hPo => ?_)
  obtain ⟨⟨rfl, rfl⟩, g26, hI27⟩ := hPo
  show V 0 0 113 [(0, .ref 14), (1, .int x1)] [.int (f_X11_holds (s1 + s0) M)] LAY (M, L)
  refine x_run C e_X11_quick_16 e_X11_quick_16_k (pc' := 119) (lv' := [(6, .int (f_X11_holds (s1 + s0) M)), (0, .ref 14), (1, .int x1)]) (st' := [.int 1, .int (x1 >>> ((3 : Int32) &&& 31))]) (σ' := (M, L)) rfl ⟨trivial, trivial, trivial, trivial, trivial, trivial⟩ ?_
  refine x_icmp_eq C (show decode cX11_quick 119 = .ok (.if_icmp .eq 27, 3) from by decide +kernel) (tgt := 146) (by decide) (fun c28 => ?_) (fun c28 => ?_)
  · rw [if_pos c28] at h
    have g29 : xrg 1 1 (x1 >>> ((3 : Int32) &&& 31)) := (x_c_eq (x_rgt (x1 >>> ((3 : Int32) &&& 31))) (x_rgc (x := 1) (k := 1) (by decide)) c28).1
    refine x_run C e_X11_quick_17 e_X11_quick_17_k (pc' := 156) (lv' := [(7, .int (M 15 17)), (6, .int (f_X11_holds (s1 + s0) M)), (0, .ref 14), (1, .int x1)]) (st' := [.ref 14]) (σ' := (M, L)) rfl ⟨trivial, trivial, trivial, (x_rgv (x_rgc (x := 17) (k := 17) (by decide)) (by decide) (by decide)), trivial, trivial, trivial⟩ ?_
    refine x_callV C (k := 14) (ci := 8) (rest := []) (avs := []) (k_X11_fetch l  M L hI) yoX11_fetch ml_X11_103 rfl rfl rfl rfl ⟨Nat.zero_le _, Nat.zero_le _⟩ (show decode cX11_quick 156 = .ok (.invokevirtual 103, 3) from by decide +kernel) rfl (fun v σ' hPo => ?_)
    obtain ⟨⟨rfl, rfl⟩, g31, hI32⟩ := hPo
    generalize hq30 : f_X11_fetch  M = q30 at h g31 hI32 ⊢
    obtain ⟨r30, M30⟩ := q30
    have h := xb_eq h
    try dsimp only at h g31 hI32
    show V 0 0 159 [(7, .int (M 15 17)), (6, .int (f_X11_holds (s1 + s0) M)), (0, .ref 14), (1, .int x1)] [.int r30] LAY (M30, L)
    refine x_run C e_X11_quick_18 e_X11_quick_18_k (pc' := 164) (lv' := [(8, .int r30.toInt16.toInt32), (7, .int (M 15 17)), (6, .int (f_X11_holds (s1 + s0) M)), (0, .ref 14), (1, .int x1)]) (st' := [.int (f_X11_holds (s1 + s0) M)]) (σ' := (M30, L)) rfl ⟨trivial, trivial, trivial, trivial⟩ ?_
    refine x_if_eq C (show decode cX11_quick 164 = .ok (.ifCond .eq 4, 3) from by decide +kernel) (tgt := 168) (by decide) (fun c33 => ?_) (fun c33 => ?_)
    · rw [if_pos c33] at h
      have g34 : xrg 0 0 (f_X11_holds (s1 + s0) M) := (x_c_eq g26 (x_rgc (x := 0) (k := 0) (by decide)) c33).1
      refine x_run C e_X11_quick_19 e_X11_quick_19_k (pc' := 192) (lv' := [(9, .int (((M30 15 (x1 &&& 7).toNatClampNeg) - 1) &&& 65535)), (8, .int r30.toInt16.toInt32), (7, .int (M 15 17)), (6, .int (f_X11_holds (s1 + s0) M)), (0, .ref 14), (1, .int x1)]) (st' := [.int (((M30 15 (x1 &&& 7).toNatClampNeg) - 1) &&& 65535), .int 1, .int (x1 &&& 7), .ref 14]) (σ' := (M30, L)) rfl ⟨trivial, trivial, trivial, trivial, trivial, (x_rgv (x_rg_and (x := x1) (m := 7) (k := 7) (by decide) (by decide)) (by decide) (by decide)), trivial, trivial, trivial, trivial, trivial, trivial, trivial, trivial, trivial, trivial, trivial, trivial⟩ ?_
      refine x_callV C (k := 14) (ci := 8) (rest := []) (avs := [.int (x1 &&& 7), .int 1, .int (((M30 15 (x1 &&& 7).toNatClampNeg) - 1) &&& 65535)]) (k_X11_keepIn l (x1 &&& 7) 1 (((M30 15 (x1 &&& 7).toNatClampNeg) - 1) &&& 65535) M30 L (x_rgw (x_rg_and (x := x1) (m := 7) (k := 7) (by decide) (by decide)) (lo' := 0) (hi' := 15) (by decide) (by decide)) hI32) yoX11_keepIn ml_X11_225 rfl rfl rfl rfl ⟨Nat.zero_le _, Nat.zero_le _⟩ (show decode cX11_quick 192 = .ok (.invokevirtual 225, 3) from by decide +kernel) rfl (fun v σ' hPo => ?_)
      obtain ⟨⟨rfl, rfl⟩, hI37⟩ := hPo
      generalize hq35 : f_X11_keepIn (x1 &&& 7) 1 (((M30 15 (x1 &&& 7).toNatClampNeg) - 1) &&& 65535) M30 = q35 at h hI37 ⊢
      have h := xb_eq h
      show V 0 0 195 [(9, .int (((M30 15 (x1 &&& 7).toNatClampNeg) - 1) &&& 65535)), (8, .int r30.toInt16.toInt32), (7, .int (M 15 17)), (6, .int (f_X11_holds (s1 + s0) M)), (0, .ref 14), (1, .int x1)] [] LAY (q35, L)
      refine x_run C e_X11_quick_20 e_X11_quick_20_k (pc' := 199) (lv' := [(9, .int (((M30 15 (x1 &&& 7).toNatClampNeg) - 1) &&& 65535)), (8, .int r30.toInt16.toInt32), (7, .int (M 15 17)), (6, .int (f_X11_holds (s1 + s0) M)), (0, .ref 14), (1, .int x1)]) (st' := [.int 65535, .int (((M30 15 (x1 &&& 7).toNatClampNeg) - 1) &&& 65535)]) (σ' := (q35, L)) rfl ⟨trivial, trivial, trivial⟩ ?_
      refine x_icmp_eq C (show decode cX11_quick 199 = .ok (.if_icmp .eq 15, 3) from by decide +kernel) (tgt := 214) (by decide) (fun c38 => ?_) (fun c38 => ?_)
      · rw [if_pos c38] at h
        have g39 : xrg 65535 65535 (((M30 15 (x1 &&& 7).toNatClampNeg) - 1) &&& 65535) := (x_c_eq (x_rg_and (x := ((M30 15 (x1 &&& 7).toNatClampNeg) - 1)) (m := 65535) (k := 65535) (by decide) (by decide)) (x_rgc (x := 65535) (k := 65535) (by decide)) c38).1
        subst h
        exact x_vret C (show decode cX11_quick 214 = .ok (.return_, 1) from by decide +kernel) (x_finV ⟨⟨rfl, rfl⟩, hI37⟩) (Nat.le_refl 0) (Nat.le_refl 0)
      · rw [if_neg c38] at h
        have g40 : xrg 0 65534 (((M30 15 (x1 &&& 7).toNatClampNeg) - 1) &&& 65535) := (x_c_neh (x_rg_and (x := ((M30 15 (x1 &&& 7).toNatClampNeg) - 1)) (m := 65535) (k := 65535) (by decide) (by decide)) (by decide) c38)
        refine x_run C e_X11_quick_21 e_X11_quick_21_k (pc' := 214) (lv' := [(9, .int (((M30 15 (x1 &&& 7).toNatClampNeg) - 1) &&& 65535)), (8, .int r30.toInt16.toInt32), (7, .int (M 15 17)), (6, .int (f_X11_holds (s1 + s0) M)), (0, .ref 14), (1, .int x1)]) (st' := []) (σ' := ((xup q35 15 17 ((M 15 17) + r30.toInt16.toInt32)), L)) rfl ⟨trivial, trivial, trivial, trivial, trivial, trivial, (x_rgv (x_rgc (x := 17) (k := 17) (by decide)) (by decide) (by decide)), trivial⟩ ?_
        have hI41 : Inv INVM (xup q35 15 17 ((M 15 17) + r30.toInt16.toInt32)) := (hI37.arr 15 17 ((M 15 17) + r30.toInt16.toInt32) (by decide))
        subst h
        exact x_vret C (show decode cX11_quick 214 = .ok (.return_, 1) from by decide +kernel) (x_finV ⟨⟨rfl, rfl⟩, hI41⟩) (Nat.le_refl 0) (Nat.le_refl 0)
    · rw [if_neg c33] at h
      have g42 : xrg 1 1 (f_X11_holds (s1 + s0) M) := (x_c_ne g26 (by decide) c33)
      subst h
      exact x_vret C (show decode cX11_quick 167 = .ok (.return_, 1) from by decide +kernel) (x_finV ⟨⟨rfl, rfl⟩, hI32⟩) (Nat.le_refl 0) (Nat.le_refl 0)
  · rw [if_neg c28] at h
    refine x_run C e_X11_quick_22 e_X11_quick_22_k (pc' := 125) (lv' := [(6, .int (f_X11_holds (s1 + s0) M)), (0, .ref 14), (1, .int x1)]) (st' := [.int 0, .int x1, .ref 14]) (σ' := (M, L)) rfl ⟨trivial, trivial, trivial, trivial⟩ ?_
    refine x_callV C (k := 14) (ci := 8) (rest := []) (avs := [.int x1, .int 0]) (k_X11_find l x1 0 M L hI) yoX11_find ml_X11_125 rfl rfl rfl rfl ⟨Nat.zero_le _, Nat.zero_le _⟩ (show decode cX11_quick 125 = .ok (.invokevirtual 125, 3) from by decide +kernel) rfl (fun v σ' hPo => ?_)
    obtain ⟨⟨rfl, rfl⟩, hI45⟩ := hPo
    generalize hq43 : f_X11_find x1 0 M = q43 at h hI45 ⊢
    have h := xb_eq h
    show V 0 0 128 [(6, .int (f_X11_holds (s1 + s0) M)), (0, .ref 14), (1, .int x1)] [] LAY (q43, L)
    refine x_run C e_X11_quick_23 e_X11_quick_23_k (pc' := 132) (lv' := [(6, .int (f_X11_holds (s1 + s0) M)), (0, .ref 14), (1, .int x1)]) (st' := [.int (f_X11_holds (s1 + s0) M), .int 0, .ref 14]) (σ' := (q43, L)) rfl ⟨trivial, trivial, trivial, trivial⟩ ?_
    refine x_if_eq C (show decode cX11_quick 132 = .ok (.ifCond .eq 9, 3) from by decide +kernel) (tgt := 141) (by decide) (fun c46 => ?_) (fun c46 => ?_)
    · rw [if_pos c46] at h
      have g47 : xrg 0 0 (f_X11_holds (s1 + s0) M) := (x_c_eq g26 (x_rgc (x := 0) (k := 0) (by decide)) c46).1
      refine x_run C e_X11_quick_24 e_X11_quick_24_k (pc' := 142) (lv' := [(6, .int (f_X11_holds (s1 + s0) M)), (0, .ref 14), (1, .int x1)]) (st' := [.int 0, .int 0, .ref 14]) (σ' := (q43, L)) rfl ⟨trivial, trivial⟩ ?_
      refine x_lv C [] rfl ?_
      exact b_X11_quick_142 r C 0 0 q43 (x_rgw (x_rgc (x := 0) (k := 0) (by decide)) (lo' := 0) (hi' := 255) (by decide) (by decide)) (x_rgc (x := 0) (k := 0) (by decide)) hI45 h
    · rw [if_neg c46] at h
      have g48 : xrg 1 1 (f_X11_holds (s1 + s0) M) := (x_c_ne g26 (by decide) c46)
      refine x_run C e_X11_quick_25 e_X11_quick_25_k (pc' := 138) (lv' := [(6, .int (f_X11_holds (s1 + s0) M)), (0, .ref 14), (1, .int x1)]) (st' := [.int 255, .int 0, .ref 14]) (σ' := (q43, L)) rfl ⟨trivial, trivial⟩ ?_
      refine x_goto C (show decode cX11_quick 138 = .ok (.goto 4, 3) from by decide +kernel) (tgt := 142) (by decide) ?_
      refine x_lv C [] rfl ?_
      exact b_X11_quick_142 r C 255 0 q43 (x_rgw (x_rgc (x := 255) (k := 255) (by decide)) (lo' := 0) (hi' := 255) (by decide) (by decide)) (x_rgc (x := 0) (k := 0) (by decide)) hI45 h
set_option maxRecDepth 20000 in
set_option maxHeartbeats 4000000 in
theorem b_X11_quick_70 {l : Launch} {L : Nat → Nat → Int64} {V : XJ} (r : St) (C : C_X11_quick l r L V) (s0 : Int32) (s1 : Int32) (M : St) (ws1 : xrg 0 17 s1) (hI : Inv INVM M) (h : f_X11_quick_70 s0 s1 M = r) : V 0 0 70 [] [.int s0, .int s1, .ref 15] LAY (M, L) := by
  unfold f_X11_quick_70 at h
  refine x_run C e_X11_quick_26 e_X11_quick_26_k (pc' := 71) (lv' := []) (st' := []) (σ' := ((xup M 15 s1.toNatClampNeg s0), L)) rfl ⟨(x_rgv ws1 (by decide) (by decide)), trivial⟩ ?_
  have hI49 : Inv INVM (xup M 15 s1.toNatClampNeg s0) := (hI.arr 15 (s1.toNatClampNeg) s0 (by decide))
  refine x_goto C (show decode cX11_quick 71 = .ok (.goto 23, 3) from by decide +kernel) (tgt := 94) (by decide) ?_
  subst h
  exact x_vret C (show decode cX11_quick 94 = .ok (.return_, 1) from by decide +kernel) (x_finV ⟨⟨rfl, rfl⟩, hI49⟩) (Nat.le_refl 0) (Nat.le_refl 0)
set_option maxRecDepth 20000 in
set_option maxHeartbeats 4000000 in
theorem b_X11_quick_10 {l : Launch} {L : Nat → Nat → Int64} {V : XJ} (r : St) (C : C_X11_quick l r L V) (x1 : Int32) (x2 : Int32) (x3 : Int32) (x4 : Int32) (s0 : Int32) (M : St) (wx1 : xrg 0 63 x1) (wx3 : xrg 0 7 x3) (ws0 : xrg 1 8 s0) (hI : Inv INVM M) (h : f_X11_quick_10 x1 x2 x3 x4 s0 M = r) : V 0 0 10 [(0, .ref 14), (1, .int x1), (2, .int x2), (3, .int x3), (4, .int x4)] [.int s0] LAY (M, L) := by
  unfold f_X11_quick_10 at h
  refine x_run C e_X11_quick_4 e_X11_quick_4_k (pc' := 14) (lv' := [(5, .int s0), (0, .ref 14), (1, .int x1), (2, .int x2), (3, .int x3), (4, .int x4)]) (st' := [.int 3, .int x2]) (σ' := (M, L)) rfl ⟨trivial, trivial, trivial, trivial⟩ ?_
  refine x_icmp_ge C (show decode cX11_quick 14 = .ok (.if_icmp .ge 81, 3) from by decide +kernel) (tgt := 95) (by decide) (fun c4 => ?_) (fun c4 => ?_)
  · rw [if_pos c4] at h
    have g5 : xrg 3 2147483647 x2 := (x_c_le (x_rgc (x := 3) (k := 3) (by decide)) (x_rgt x2) c4).2
    refine x_run C e_X11_quick_5 e_X11_quick_5_k (pc' := 101) (lv' := [(5, .int s0), (0, .ref 14), (1, .int x1), (2, .int x2), (3, .int x3), (4, .int x4)]) (st' := [.int x4, .int (2 * x3), .ref 14]) (σ' := (M, L)) rfl ⟨trivial, trivial, trivial, trivial, trivial, trivial⟩ ?_
    refine x_if_eq C (show decode cX11_quick 101 = .ok (.ifCond .eq 7, 3) from by decide +kernel) (tgt := 108) (by decide) (fun c6 => ?_) (fun c6 => ?_)
    · rw [if_pos c6] at h
      have g7 : xrg 0 0 x4 := (x_c_eq (x_rgt x4) (x_rgc (x := 0) (k := 0) (by decide)) c6).1
      refine x_run C e_X11_quick_6 e_X11_quick_6_k (pc' := 109) (lv' := [(5, .int s0), (0, .ref 14), (1, .int x1), (2, .int x2), (3, .int x3), (4, .int x4)]) (st' := [.int 0, .int (2 * x3), .ref 14]) (σ' := (M, L)) rfl ⟨trivial, trivial⟩ ?_
      refine x_lv C [1, 2] rfl ?_
      exact b_X11_quick_109 r C x1 0 (2 * x3) M wx1 (x_rgw (x_rgc (x := 0) (k := 0) (by decide)) (lo' := 0) (hi' := 1) (by decide) (by decide)) hI h
    · rw [if_neg c6] at h
      refine x_run C e_X11_quick_7 e_X11_quick_7_k (pc' := 105) (lv' := [(5, .int s0), (0, .ref 14), (1, .int x1), (2, .int x2), (3, .int x3), (4, .int x4)]) (st' := [.int 1, .int (2 * x3), .ref 14]) (σ' := (M, L)) rfl ⟨trivial, trivial⟩ ?_
      refine x_goto C (show decode cX11_quick 105 = .ok (.goto 4, 3) from by decide +kernel) (tgt := 109) (by decide) ?_
      refine x_lv C [1, 2] rfl ?_
      exact b_X11_quick_109 r C x1 1 (2 * x3) M wx1 (x_rgw (x_rgc (x := 1) (k := 1) (by decide)) (lo' := 0) (hi' := 1) (by decide) (by decide)) hI h
  · rw [if_neg c4] at h
    have g8 : xrg (-2147483648) 2 x2 := (x_c_nle (x_rgc (x := 3) (k := 3) (by decide)) (x_rgt x2) c4).2
    refine x_run C e_X11_quick_8 e_X11_quick_8_k (pc' := 20) (lv' := [(5, .int s0), (0, .ref 14), (1, .int x1), (2, .int x2), (3, .int x3), (4, .int x4)]) (st' := [.int x2, .int x1, .ref 14]) (σ' := (M, L)) rfl ⟨trivial, trivial, trivial, trivial⟩ ?_
    refine x_callV C (k := 14) (ci := 8) (rest := []) (avs := [.int x1, .int x2]) (k_X11_find l x1 x2 M L hI) yoX11_find ml_X11_125 rfl rfl rfl rfl ⟨Nat.zero_le _, Nat.zero_le _⟩ (show decode cX11_quick 20 = .ok (.invokevirtual 125, 3) from by decide +kernel) rfl (fun v σ' hPo => ?_)
    obtain ⟨⟨rfl, rfl⟩, hI11⟩ := hPo
    generalize hq9 : f_X11_find x1 x2 M = q9 at h hI11 ⊢
    have h := xb_eq h
    show V 0 0 23 [(5, .int s0), (0, .ref 14), (1, .int x1), (2, .int x2), (3, .int x3), (4, .int x4)] [] LAY (q9, L)
    refine x_run C e_X11_quick_9 e_X11_quick_9_k (pc' := 27) (lv' := [(5, .int s0), (0, .ref 14), (1, .int x1), (2, .int x2), (3, .int x3), (4, .int x4)]) (st' := [.int 1, .int (x1 >>> ((3 : Int32) &&& 31))]) (σ' := (q9, L)) rfl ⟨trivial, trivial, trivial, trivial, trivial⟩ ?_
    refine x_icmp_ne C (show decode cX11_quick 27 = .ok (.if_icmp .ne 47, 3) from by decide +kernel) (tgt := 74) (by decide) (fun c12 => ?_) (fun c12 => ?_)
    · rw [if_neg c12] at h
      refine x_run C e_X11_quick_10 e_X11_quick_10_k (pc' := 82) (lv' := [(5, .int s0), (0, .ref 14), (1, .int x1), (2, .int x2), (3, .int x3), (4, .int x4)]) (st' := [.int x2, .ref 14, .int s0, .int x2, .ref 14, .int x2, .ref 14]) (σ' := (q9, L)) rfl ⟨trivial, trivial, trivial, trivial, trivial, trivial, trivial, trivial⟩ ?_
      refine x_callV C (k := 14) (ci := 8) (rest := [.int s0, .int x2, .ref 14, .int x2, .ref 14]) (avs := [.int x2]) (k_X11_load l x2 q9 L hI11) yoX11_load ml_X11_128 rfl rfl rfl rfl ⟨Nat.zero_le _, Nat.zero_le _⟩ (show decode cX11_quick 82 = .ok (.invokevirtual 128, 3) from by decide +kernel) rfl (fun v σ' hPo => ?_)
      obtain ⟨⟨rfl, rfl⟩, g14, hI15⟩ := hPo
      generalize hq13 : f_X11_load x2 q9 = q13 at h g14 hI15 ⊢
      obtain ⟨r13, M13⟩ := q13
      have h := xb_eq h
      try dsimp only at h g14 hI15
      show V 0 0 85 [(5, .int s0), (0, .ref 14), (1, .int x1), (2, .int x2), (3, .int x3), (4, .int x4)] [.int r13, .int s0, .int x2, .ref 14, .int x2, .ref 14] LAY (M13, L)
      refine x_run C e_X11_quick_11 e_X11_quick_11_k (pc' := 88) (lv' := [(5, .int s0), (0, .ref 14), (1, .int x1), (2, .int x2), (3, .int x3), (4, .int x4)]) (st' := [.int 0, .int x4, .int r13, .int s0, .int x2, .ref 14, .int x2, .ref 14]) (σ' := (M13, L)) rfl ⟨trivial, trivial, trivial⟩ ?_
      refine x_callV C (k := 14) (ci := 8) (rest := [.int x2, .ref 14]) (avs := [.int x2, .int s0, .int r13, .int x4, .int 0]) (k_X11_sum l x2 s0 r13 x4 0 M13 L hI15) yoX11_sum ml_X11_221 rfl rfl rfl rfl ⟨Nat.zero_le _, Nat.zero_le _⟩ (show decode cX11_quick 88 = .ok (.invokevirtual 221, 3) from by decide +kernel) rfl (fun v σ' hPo => ?_)
      obtain ⟨⟨rfl, rfl⟩, g17, hI18⟩ := hPo
      generalize hq16 : f_X11_sum x2 s0 r13 x4 0 M13 = q16 at h g17 hI18 ⊢
      obtain ⟨r16, M16⟩ := q16
      have h := xb_eq h
      try dsimp only at h g17 hI18
      show V 0 0 91 [(5, .int s0), (0, .ref 14), (1, .int x1), (2, .int x2), (3, .int x3), (4, .int x4)] [.int r16, .int x2, .ref 14] LAY (M16, L)
      refine x_callV C (k := 14) (ci := 8) (rest := []) (avs := [.int x2, .int r16]) (k_X11_store l x2 r16 M16 L hI18) yoX11_store ml_X11_193 rfl rfl rfl rfl ⟨Nat.zero_le _, Nat.zero_le _⟩ (show decode cX11_quick 91 = .ok (.invokevirtual 193, 3) from by decide +kernel) rfl (fun v σ' hPo => ?_)
      obtain ⟨⟨rfl, rfl⟩, hI21⟩ := hPo
      generalize hq19 : f_X11_store x2 r16 M16 = q19 at h hI21 ⊢
      have h := xb_eq h
      show V 0 0 94 [(5, .int s0), (0, .ref 14), (1, .int x1), (2, .int x2), (3, .int x3), (4, .int x4)] [] LAY (q19, L)
      subst h
      exact x_vret C (show decode cX11_quick 94 = .ok (.return_, 1) from by decide +kernel) (x_finV ⟨⟨rfl, rfl⟩, hI21⟩) (Nat.le_refl 0) (Nat.le_refl 0)
    · rw [if_pos c12] at h
      have g22 : xrg 1 1 (x1 >>> ((3 : Int32) &&& 31)) := (x_c_eq (x_rgt (x1 >>> ((3 : Int32) &&& 31))) (x_rgc (x := 1) (k := 1) (by decide)) c12).1
      refine x_run C e_X11_quick_12 e_X11_quick_12_k (pc' := 40) (lv' := [(5, .int s0), (0, .ref 14), (1, .int x1), (2, .int x2), (3, .int x3), (4, .int x4)]) (st' := [.int x4, .int (q9 14 25), .ref 15]) (σ' := (q9, L)) rfl ⟨trivial, trivial, trivial, trivial, trivial, trivial⟩ ?_
      refine x_if_eq C (show decode cX11_quick 40 = .ok (.ifCond .eq 18, 3) from by decide +kernel) (tgt := 58) (by decide) (fun c23 => ?_) (fun c23 => ?_)
      · rw [if_pos c23] at h
        have g24 : xrg 0 0 x4 := (x_c_eq (x_rgt x4) (x_rgc (x := 0) (k := 0) (by decide)) c23).1
        refine x_run C e_X11_quick_13 e_X11_quick_13_k (pc' := 70) (lv' := [(5, .int s0), (0, .ref 14), (1, .int x1), (2, .int x2), (3, .int x3), (4, .int x4)]) (st' := [.int ((q9 15 (q9 14 25).toNatClampNeg) + s0), .int (q9 14 25), .ref 15]) (σ' := (q9, L)) rfl ⟨trivial, trivial, trivial, trivial, (x_rgv (hI11.at 2 rfl) (by decide) (by decide)), trivial, trivial, trivial⟩ ?_
        refine x_lv C [] rfl ?_
        exact b_X11_quick_70 r C ((q9 15 (q9 14 25).toNatClampNeg) + s0) (q9 14 25) q9 (hI11.at 2 rfl) hI11 h
      · rw [if_neg c23] at h
        refine x_run C e_X11_quick_14 e_X11_quick_14_k (pc' := 55) (lv' := [(5, .int s0), (0, .ref 14), (1, .int x1), (2, .int x2), (3, .int x3), (4, .int x4)]) (st' := [.int ((q9 15 (q9 14 25).toNatClampNeg) - s0), .int (q9 14 25), .ref 15]) (σ' := (q9, L)) rfl ⟨trivial, trivial, trivial, trivial, (x_rgv (hI11.at 2 rfl) (by decide) (by decide)), trivial, trivial, trivial⟩ ?_
        refine x_goto C (show decode cX11_quick 55 = .ok (.goto 15, 3) from by decide +kernel) (tgt := 70) (by decide) ?_
        refine x_lv C [] rfl ?_
        exact b_X11_quick_70 r C ((q9 15 (q9 14 25).toNatClampNeg) - s0) (q9 14 25) q9 (hI11.at 2 rfl) hI11 h
set_option maxRecDepth 20000 in
set_option maxHeartbeats 4000000 in
theorem k_X11_quick (l : Launch) (a1 : Int32) (a2 : Int32) (a3 : Int32) (a4 : Int32) (M : St) (L : Nat → Nat → Int64) (hp1 : xrg 0 63 a1) (hp3 : xrg 0 7 a3) (hI : Inv INVM M) : XM l yX11_quick cX11_quick 10 none R_X11_quick LAY [.ref 14, .int a1, .int a2, .int a3, .int a4] (M, L) (P_X11_quick (f_X11_quick a1 a2 a3 a4 M) L) := by
  refine XM.of (by decide) (Nat.le_of_ble_eq_true rfl) LAY_in cl_ok fl_X11_ok kc_X11_ok (fun V C => ?_)
  obtain ⟨r, h⟩ : ∃ r, f_X11_quick a1 a2 a3 a4 M = r := ⟨_, rfl⟩
  rw [h] at C
  change C_X11_quick l r L V at C
  unfold f_X11_quick at h
  show V 0 0 0 [(0, .ref 14), (1, .int a1), (2, .int a2), (3, .int a3), (4, .int a4)] [] LAY (M, L)
  refine x_run C e_X11_quick_1 e_X11_quick_1_k (pc' := 1) (lv' := [(0, .ref 14), (1, .int a1), (2, .int a2), (3, .int a3), (4, .int a4)]) (st' := [.int a3]) (σ' := (M, L)) rfl ⟨trivial, trivial⟩ ?_
  refine x_if_ne C (show decode cX11_quick 1 = .ok (.ifCond .ne 8, 3) from by decide +kernel) (tgt := 9) (by decide) (fun c1 => ?_) (fun c1 => ?_)
  · rw [if_neg c1] at h
    have g2 : xrg 1 7 a3 := (x_c_ne hp3 (by decide) c1)
    refine x_run C e_X11_quick_2 e_X11_quick_2_k (pc' := 10) (lv' := [(0, .ref 14), (1, .int a1), (2, .int a2), (3, .int a3), (4, .int a4)]) (st' := [.int a3]) (σ' := (M, L)) rfl ⟨trivial, trivial⟩ ?_
    exact b_X11_quick_10 r C a1 a2 a3 a4 a3 M hp1 (x_rgw g2 (lo' := 0) (hi' := 7) (by decide) (by decide)) (x_rgw g2 (lo' := 1) (hi' := 8) (by decide) (by decide)) hI h
  · rw [if_pos c1] at h
    have g3 : xrg 0 0 a3 := (x_c_eq hp3 (x_rgc (x := 0) (k := 0) (by decide)) c1).1
    refine x_run C e_X11_quick_3 e_X11_quick_3_k (pc' := 6) (lv' := [(0, .ref 14), (1, .int a1), (2, .int a2), (3, .int a3), (4, .int a4)]) (st' := [.int 8]) (σ' := (M, L)) rfl ⟨trivial, trivial⟩ ?_
    refine x_goto C (show decode cX11_quick 6 = .ok (.goto 4, 3) from by decide +kernel) (tgt := 10) (by decide) ?_
    exact b_X11_quick_10 r C a1 a2 a3 a4 8 M hp1 (x_rgw g3 (lo' := 0) (hi' := 7) (by decide) (by decide)) (x_rgw (x_rgc (x := 8) (k := 8) (by decide)) (lo' := 1) (hi' := 8) (by decide) (by decide)) hI h
-- X11_branch
def e_X11_branch_1 : List xI := [(0, .aload_n 0, 1, .null), (1, .getfield 7, 3, .null), (4, .bipush 17, 2, .int 17), (6, .iaload, 1, .null), (7, .istore_n 2, 1, .null), (8, .iload_n 1, 1, .null), (9, .sipush 255, 3, .int 255), (12, .iand, 1, .null)]
theorem e_X11_branch_1_k : e_X11_branch_1.all (fun q => xokB cX11_branch q && xokL q) = true := by decide +kernel
def e_X11_branch_2 : List xI := [(21, .aload_n 0, 1, .null)]
theorem e_X11_branch_2_k : e_X11_branch_2.all (fun q => xokB cX11_branch q && xokL q) = true := by decide +kernel
def e_X11_branch_3 : List xI := [(25, .i2s, 1, .null)]
theorem e_X11_branch_3_k : e_X11_branch_3.all (fun q => xokB cX11_branch q && xokL q) = true := by decide +kernel
def e_X11_branch_4 : List xI := [(16, .iload_n 1, 1, .null), (17, .i2b, 1, .null)]
theorem e_X11_branch_4_k : e_X11_branch_4.all (fun q => xokB cX11_branch q && xokL q) = true := by decide +kernel
def e_X11_branch_5 : List xI := [(26, .istore_n 3, 1, .null), (27, .iload_n 1, 1, .null), (28, .bipush 8, 2, .int 8), (30, .ishr, 1, .null), (31, .bipush 15, 2, .int 15), (33, .iand, 1, .null), (34, .istore 4, 2, .null), (36, .iload 4, 2, .null), (38, .iconst 1, 1, .int 1)]
theorem e_X11_branch_5_k : e_X11_branch_5.all (fun q => xokB cX11_branch q && xokL q) = true := by decide +kernel
def e_X11_branch_6 : List xI := [(42, .aload_n 0, 1, .null), (43, .iconst 2, 1, .int 2), (44, .aload_n 0, 1, .null), (45, .getfield 7, 3, .null), (48, .bipush 17, 2, .int 17), (50, .iaload, 1, .null)]
theorem e_X11_branch_6_k : e_X11_branch_6.all (fun q => xokB cX11_branch q && xokL q) = true := by decide +kernel
def e_X11_branch_7 : List xI := [(54, .iload 4, 2, .null), (56, .iconst 1, 1, .int 1)]
theorem e_X11_branch_7_k : e_X11_branch_7.all (fun q => xokB cX11_branch q && xokL q) = true := by decide +kernel
def e_X11_branch_8 : List xI := [(60, .aload_n 0, 1, .null), (61, .iload 4, 2, .null)]
theorem e_X11_branch_8_k : e_X11_branch_8.all (fun q => xokB cX11_branch q && xokL q) = true := by decide +kernel
def e_X11_branch_9 : List xI := [(69, .aload_n 0, 1, .null), (70, .getfield 7, 3, .null), (73, .bipush 17, 2, .int 17), (75, .iload_n 2, 1, .null), (76, .iload_n 3, 1, .null), (77, .iadd, 1, .null), (78, .iastore, 1, .null)]
theorem e_X11_branch_9_k : e_X11_branch_9.all (fun q => xokB cX11_branch q && xokL q) = true := by decide +kernel
abbrev P_X11_branch (r : St) (L : Nat → Nat → Int64) : Option Value → xG → Prop := fun v σ' => PoV r L v σ' ∧ Inv INVM r
abbrev R_X11_branch : Room := { frames := 4, cells := 0, slots := 0, locals := 96 }
abbrev C_X11_branch (l : Launch) (r : St) (L : Nat → Nat → Int64) (V : XJ) : Prop := XC l yX11_branch.cls yX11_branch.name cX11_branch 5 R_X11_branch 0 0 fl_X11 kc_X11 LAY.length (xfin none LAY (P_X11_branch r L)) V
def f_X11_branch_69 (x2 : Int32) (x3 : Int32) (M : St) : St := (xup M 15 17 (x2 + x3))
def f_X11_branch_54 (x2 : Int32) (x3 : Int32) (x4 : Int32) (M : St) : St := (if x4 = 1 then f_X11_branch_69 x2 x3 M else (if (f_X11_holds x4 M) = 0 then M else f_X11_branch_69 x2 x3 M))
def f_X11_branch_26 (x1 : Int32) (x2 : Int32) (s0 : Int32) (M : St) : St := (if ((x1 >>> ((8 : Int32) &&& 31)) &&& 15) = 1 then (xb (f_X11_push 2 (M 15 17) M) fun q9 => f_X11_branch_54 x2 s0 ((x1 >>> ((8 : Int32) &&& 31)) &&& 15) q9) else f_X11_branch_54 x2 s0 ((x1 >>> ((8 : Int32) &&& 31)) &&& 15) M)
def f_X11_branch (a1 : Int32) (M : St) : St := (if (a1 &&& 255) = 0 then (xb (f_X11_fetch  M) fun q3 => f_X11_branch_26 a1 (M 15 17) q3.1.toInt16.toInt32 q3.2) else f_X11_branch_26 a1 (M 15 17) a1.toInt8.toInt32 M)
set_option maxRecDepth 20000 in
set_option maxHeartbeats 4000000 in
theorem b_X11_branch_69 {l : Launch} {L : Nat → Nat → Int64} {V : XJ} (r : St) (C : C_X11_branch l r L V) (x2 : Int32) (x3 : Int32) (M : St) (hI : Inv INVM M) (h : f_X11_branch_69 x2 x3 M = r) : V 0 0 69 [(0, .ref 14), (2, .int x2), (3, .int x3)] [] LAY (M, L) := by
  unfold f_X11_branch_69 at h
  refine x_run C e_X11_branch_9 e_X11_branch_9_k (pc' := 79) (lv' := [(0, .ref 14), (2, .int x2), (3, .int x3)]) (st' := []) (σ' := ((xup M 15 17 (x2 + x3)), L)) rfl ⟨trivial, trivial, trivial, trivial, trivial, trivial, (x_rgv (x_rgc (x := 17) (k := 17) (by decide)) (by decide) (by decide)), trivial⟩ ?_
  have hI20 : Inv INVM (xup M 15 17 (x2 + x3)) := (hI.arr 15 17 (x2 + x3) (by decide))
  subst h
  exact x_vret C (show decode cX11_branch 79 = .ok (.return_, 1) from by decide +kernel) (x_finV ⟨⟨rfl, rfl⟩, hI20⟩) (Nat.le_refl 0) (Nat.le_refl 0)
set_option maxRecDepth 20000 in
set_option maxHeartbeats 4000000 in
theorem b_X11_branch_54 {l : Launch} {L : Nat → Nat → Int64} {V : XJ} (r : St) (C : C_X11_branch l r L V) (x2 : Int32) (x3 : Int32) (x4 : Int32) (M : St) (wx4 : xrg 0 15 x4) (hI : Inv INVM M) (h : f_X11_branch_54 x2 x3 x4 M = r) : V 0 0 54 [(0, .ref 14), (2, .int x2), (3, .int x3), (4, .int x4)] [] LAY (M, L) := by
  unfold f_X11_branch_54 at h
  refine x_run C e_X11_branch_7 e_X11_branch_7_k (pc' := 57) (lv' := [(0, .ref 14), (2, .int x2), (3, .int x3), (4, .int x4)]) (st' := [.int 1, .int x4]) (σ' := (M, L)) rfl ⟨trivial, trivial, trivial⟩ ?_
  refine x_icmp_eq C (show decode cX11_branch 57 = .ok (.if_icmp .eq 12, 3) from by decide +kernel) (tgt := 69) (by decide) (fun c12 => ?_) (fun c12 => ?_)
  · rw [if_pos c12] at h
    have g13 : xrg 1 1 x4 := (x_c_eq wx4 (x_rgc (x := 1) (k := 1) (by decide)) c12).1
    refine x_lv C [0, 1, 2] rfl ?_
    exact b_X11_branch_69 r C x2 x3 M hI h
  · rw [if_neg c12] at h
    refine x_run C e_X11_branch_8 e_X11_branch_8_k (pc' := 63) (lv' := [(0, .ref 14), (2, .int x2), (3, .int x3), (4, .int x4)]) (st' := [.int x4, .ref 14]) (σ' := (M, L)) rfl ⟨trivial, trivial, trivial⟩ ?_
    refine x_callV C (k := 14) (ci := 8) (rest := []) (avs := [.int x4]) (k_X11_holds l x4 M L hI) yoX11_holds ml_X11_257 rfl rfl rfl rfl ⟨Nat.zero_le _, Nat.zero_le _⟩ (show decode cX11_branch 63 = .ok (.invokevirtual 257, 3) from by decide +kernel) rfl (fun v σ' hPo => ?_)
    obtain ⟨⟨rfl, rfl⟩, g15, hI16⟩ := hPo
    show V 0 0 66 [(0, .ref 14), (2, .int x2), (3, .int x3), (4, .int x4)] [.int (f_X11_holds x4 M)] LAY (M, L)
    refine x_if_eq C (show decode cX11_branch 66 = .ok (.ifCond .eq 13, 3) from by decide +kernel) (tgt := 79) (by decide) (fun c17 => ?_) (fun c17 => ?_)
    · rw [if_pos c17] at h
      have g18 : xrg 0 0 (f_X11_holds x4 M) := (x_c_eq g15 (x_rgc (x := 0) (k := 0) (by decide)) c17).1
      subst h
      exact x_vret C (show decode cX11_branch 79 = .ok (.return_, 1) from by decide +kernel) (x_finV ⟨⟨rfl, rfl⟩, hI⟩) (Nat.le_refl 0) (Nat.le_refl 0)
    · rw [if_neg c17] at h
      have g19 : xrg 1 1 (f_X11_holds x4 M) := (x_c_ne g15 (by decide) c17)
      refine x_lv C [0, 1, 2] rfl ?_
      exact b_X11_branch_69 r C x2 x3 M hI h
set_option maxRecDepth 20000 in
set_option maxHeartbeats 4000000 in
theorem b_X11_branch_26 {l : Launch} {L : Nat → Nat → Int64} {V : XJ} (r : St) (C : C_X11_branch l r L V) (x1 : Int32) (x2 : Int32) (s0 : Int32) (M : St) (hI : Inv INVM M) (h : f_X11_branch_26 x1 x2 s0 M = r) : V 0 0 26 [(0, .ref 14), (1, .int x1), (2, .int x2)] [.int s0] LAY (M, L) := by
  unfold f_X11_branch_26 at h
  refine x_run C e_X11_branch_5 e_X11_branch_5_k (pc' := 39) (lv' := [(4, .int ((x1 >>> ((8 : Int32) &&& 31)) &&& 15)), (3, .int s0), (0, .ref 14), (1, .int x1), (2, .int x2)]) (st' := [.int 1, .int ((x1 >>> ((8 : Int32) &&& 31)) &&& 15)]) (σ' := (M, L)) rfl ⟨trivial, trivial, trivial, trivial, trivial, trivial, trivial, trivial, trivial, trivial⟩ ?_
  refine x_icmp_ne C (show decode cX11_branch 39 = .ok (.if_icmp .ne 15, 3) from by decide +kernel) (tgt := 54) (by decide) (fun c7 => ?_) (fun c7 => ?_)
  · rw [if_neg c7] at h
    refine x_lv C [2, 4, 1, 0] rfl ?_
    exact b_X11_branch_54 r C x2 s0 ((x1 >>> ((8 : Int32) &&& 31)) &&& 15) M (x_rg_and (x := (x1 >>> ((8 : Int32) &&& 31))) (m := 15) (k := 15) (by decide) (by decide)) hI h
  · rw [if_pos c7] at h
    have g8 : xrg 1 1 ((x1 >>> ((8 : Int32) &&& 31)) &&& 15) := (x_c_eq (x_rg_and (x := (x1 >>> ((8 : Int32) &&& 31))) (m := 15) (k := 15) (by decide) (by decide)) (x_rgc (x := 1) (k := 1) (by decide)) c7).1
    refine x_run C e_X11_branch_6 e_X11_branch_6_k (pc' := 51) (lv' := [(4, .int ((x1 >>> ((8 : Int32) &&& 31)) &&& 15)), (3, .int s0), (0, .ref 14), (1, .int x1), (2, .int x2)]) (st' := [.int (M 15 17), .int 2, .ref 14]) (σ' := (M, L)) rfl ⟨trivial, trivial, trivial, trivial, trivial, (x_rgv (x_rgc (x := 17) (k := 17) (by decide)) (by decide) (by decide)), trivial⟩ ?_
    refine x_callV C (k := 14) (ci := 8) (rest := []) (avs := [.int 2, .int (M 15 17)]) (k_X11_push l 2 (M 15 17) M L hI) yoX11_push ml_X11_209 rfl rfl rfl rfl ⟨Nat.zero_le _, Nat.zero_le _⟩ (show decode cX11_branch 51 = .ok (.invokevirtual 209, 3) from by decide +kernel) rfl (fun v σ' hPo => ?_)
    obtain ⟨⟨rfl, rfl⟩, hI11⟩ := hPo
    generalize hq9 : f_X11_push 2 (M 15 17) M = q9 at h hI11 ⊢
    have h := xb_eq h
    show V 0 0 54 [(4, .int ((x1 >>> ((8 : Int32) &&& 31)) &&& 15)), (3, .int s0), (0, .ref 14), (1, .int x1), (2, .int x2)] [] LAY (q9, L)
    refine x_lv C [2, 4, 1, 0] rfl ?_
    exact b_X11_branch_54 r C x2 s0 ((x1 >>> ((8 : Int32) &&& 31)) &&& 15) q9 (x_rgw g8 (lo' := 0) (hi' := 15) (by decide) (by decide)) hI11 h
set_option maxRecDepth 20000 in
set_option maxHeartbeats 4000000 in
theorem k_X11_branch (l : Launch) (a1 : Int32) (M : St) (L : Nat → Nat → Int64) (hI : Inv INVM M) : XM l yX11_branch cX11_branch 5 none R_X11_branch LAY [.ref 14, .int a1] (M, L) (P_X11_branch (f_X11_branch a1 M) L) := by
  refine XM.of (by decide) (Nat.le_of_ble_eq_true rfl) LAY_in cl_ok fl_X11_ok kc_X11_ok (fun V C => ?_)
  obtain ⟨r, h⟩ : ∃ r, f_X11_branch a1 M = r := ⟨_, rfl⟩
  rw [h] at C
  change C_X11_branch l r L V at C
  unfold f_X11_branch at h
  show V 0 0 0 [(0, .ref 14), (1, .int a1)] [] LAY (M, L)
  refine x_run C e_X11_branch_1 e_X11_branch_1_k (pc' := 13) (lv' := [(2, .int (M 15 17)), (0, .ref 14), (1, .int a1)]) (st' := [.int (a1 &&& 255)]) (σ' := (M, L)) rfl ⟨trivial, trivial, trivial, (x_rgv (x_rgc (x := 17) (k := 17) (by decide)) (by decide) (by decide)), trivial, trivial, trivial, trivial, trivial⟩ ?_
  refine x_if_eq C (show decode cX11_branch 13 = .ok (.ifCond .eq 8, 3) from by decide +kernel) (tgt := 21) (by decide) (fun c1 => ?_) (fun c1 => ?_)
  · rw [if_pos c1] at h
    have g2 : xrg 0 0 (a1 &&& 255) := (x_c_eq (x_rg_and (x := a1) (m := 255) (k := 255) (by decide) (by decide)) (x_rgc (x := 0) (k := 0) (by decide)) c1).1
    refine x_run C e_X11_branch_2 e_X11_branch_2_k (pc' := 22) (lv' := [(2, .int (M 15 17)), (0, .ref 14), (1, .int a1)]) (st' := [.ref 14]) (σ' := (M, L)) rfl ⟨trivial, trivial⟩ ?_
    refine x_callV C (k := 14) (ci := 8) (rest := []) (avs := []) (k_X11_fetch l  M L hI) yoX11_fetch ml_X11_103 rfl rfl rfl rfl ⟨Nat.zero_le _, Nat.zero_le _⟩ (show decode cX11_branch 22 = .ok (.invokevirtual 103, 3) from by decide +kernel) rfl (fun v σ' hPo => ?_)
    obtain ⟨⟨rfl, rfl⟩, g4, hI5⟩ := hPo
    generalize hq3 : f_X11_fetch  M = q3 at h g4 hI5 ⊢
    obtain ⟨r3, M3⟩ := q3
    have h := xb_eq h
    try dsimp only at h g4 hI5
    show V 0 0 25 [(2, .int (M 15 17)), (0, .ref 14), (1, .int a1)] [.int r3] LAY (M3, L)
    refine x_run C e_X11_branch_3 e_X11_branch_3_k (pc' := 26) (lv' := [(2, .int (M 15 17)), (0, .ref 14), (1, .int a1)]) (st' := [.int r3.toInt16.toInt32]) (σ' := (M3, L)) rfl ⟨trivial, trivial⟩ ?_
    refine x_lv C [1, 2, 0] rfl ?_
    exact b_X11_branch_26 r C a1 (M 15 17) r3.toInt16.toInt32 M3 hI5 h
  · rw [if_neg c1] at h
    have g6 : xrg 1 255 (a1 &&& 255) := (x_c_ne (x_rg_and (x := a1) (m := 255) (k := 255) (by decide) (by decide)) (by decide) c1)
    refine x_run C e_X11_branch_4 e_X11_branch_4_k (pc' := 18) (lv' := [(2, .int (M 15 17)), (0, .ref 14), (1, .int a1)]) (st' := [.int a1.toInt8.toInt32]) (σ' := (M, L)) rfl ⟨trivial, trivial, trivial⟩ ?_
    refine x_goto C (show decode cX11_branch 18 = .ok (.goto 8, 3) from by decide +kernel) (tgt := 26) (by decide) ?_
    refine x_lv C [1, 2, 0] rfl ?_
    exact b_X11_branch_26 r C a1 (M 15 17) a1.toInt8.toInt32 M hI h
-- X11_peripheral
def e_X11_peripheral_1 : List xI := [(0, .aload_n 0, 1, .null), (1, .getfield 7, 3, .null), (4, .bipush 8, 2, .int 8), (6, .iload_n 1, 1, .null), (7, .iadd, 1, .null), (8, .iaload, 1, .null), (9, .aload_n 0, 1, .null)]
theorem e_X11_peripheral_1_k : e_X11_peripheral_1.all (fun q => xokB cX11_peripheral q && xokL q) = true := by decide +kernel
def e_X11_peripheral_2 : List xI := [(13, .i2s, 1, .null), (14, .iadd, 1, .null), (15, .istore 4, 2, .null), (17, .iload_n 2, 1, .null), (18, .iconst 2, 1, .int 2), (19, .irem, 1, .null)]
theorem e_X11_peripheral_2_k : e_X11_peripheral_2.all (fun q => xokB cX11_peripheral q && xokL q) = true := by decide +kernel
def e_X11_peripheral_3 : List xI := [(27, .iconst 4, 1, .int 4)]
theorem e_X11_peripheral_3_k : e_X11_peripheral_3.all (fun q => xokB cX11_peripheral q && xokL q) = true := by decide +kernel
def e_X11_peripheral_4 : List xI := [(23, .iconst 2, 1, .int 2)]
theorem e_X11_peripheral_4_k : e_X11_peripheral_4.all (fun q => xokB cX11_peripheral q && xokL q) = true := by decide +kernel
def e_X11_peripheral_5 : List xI := [(28, .istore 5, 2, .null), (30, .iconst 0, 1, .int 0), (31, .istore 6, 2, .null), (33, .iconst 0, 1, .int 0), (34, .istore 7, 2, .null)]
theorem e_X11_peripheral_5_k : e_X11_peripheral_5.all (fun q => xokB cX11_peripheral q && xokL q) = true := by decide +kernel
def e_X11_peripheral_6 : List xI := [(36, .iload 7, 2, .null), (38, .iload 5, 2, .null)]
theorem e_X11_peripheral_6_k : e_X11_peripheral_6.all (fun q => xokB cX11_peripheral q && xokL q) = true := by decide +kernel
def e_X11_peripheral_7 : List xI := [(111, .iload_n 2, 1, .null), (112, .iconst 2, 1, .int 2)]
theorem e_X11_peripheral_7_k : e_X11_peripheral_7.all (fun q => xokB cX11_peripheral q && xokL q) = true := by decide +kernel
def e_X11_peripheral_8 : List xI := [(116, .aload_n 0, 1, .null), (117, .iload_n 3, 1, .null), (118, .iload 5, 2, .null), (120, .iconst 2, 1, .int 2), (121, .idiv, 1, .null), (122, .iload 6, 2, .null)]
theorem e_X11_peripheral_8_k : e_X11_peripheral_8.all (fun q => xokB cX11_peripheral q && xokL q) = true := by decide +kernel
def e_X11_peripheral_9 : List xI := [(43, .iload_n 2, 1, .null), (44, .iconst 2, 1, .int 2)]
theorem e_X11_peripheral_9_k : e_X11_peripheral_9.all (fun q => xokB cX11_peripheral q && xokL q) = true := by decide +kernel
def e_X11_peripheral_10 : List xI := [(72, .aload_n 0, 1, .null), (73, .iload 4, 2, .null), (75, .iconst 2, 1, .int 2), (76, .iload 7, 2, .null), (78, .imul, 1, .null), (79, .iadd, 1, .null), (80, .iconst 0, 1, .int 0), (81, .aload_n 0, 1, .null), (82, .getfield 7, 3, .null), (85, .iload_n 3, 1, .null), (86, .iaload, 1, .null), (87, .bipush 8, 2, .int 8), (89, .iload 5, 2, .null), (91, .iconst 1, 1, .int 1), (92, .isub, 1, .null), (93, .iload 7, 2, .null), (95, .isub, 1, .null), (96, .imul, 1, .null), (97, .ishr, 1, .null), (98, .sipush 255, 3, .int 255), (101, .iand, 1, .null)]
theorem e_X11_peripheral_10_k : e_X11_peripheral_10.all (fun q => xokB cX11_peripheral q && xokL q) = true := by decide +kernel
def e_X11_peripheral_11 : List xI := [(48, .iload 6, 2, .null), (50, .bipush 8, 2, .int 8), (52, .ishl, 1, .null), (53, .aload_n 0, 1, .null), (54, .iload 4, 2, .null), (56, .iconst 2, 1, .int 2), (57, .iload 7, 2, .null), (59, .imul, 1, .null), (60, .iadd, 1, .null), (61, .iconst 0, 1, .int 0), (62, .iconst 1, 1, .int 1)]
theorem e_X11_peripheral_11_k : e_X11_peripheral_11.all (fun q => xokB cX11_peripheral q && xokL q) = true := by decide +kernel
def e_X11_peripheral_12 : List xI := [(66, .ior, 1, .null), (67, .istore 6, 2, .null)]
theorem e_X11_peripheral_12_k : e_X11_peripheral_12.all (fun q => xokB cX11_peripheral q && xokL q) = true := by decide +kernel
def e_X11_peripheral_13 : List xI := [(105, .iinc 7 1, 3, .null)]
theorem e_X11_peripheral_13_k : e_X11_peripheral_13.all (fun q => xokB cX11_peripheral q && xokL q) = true := by decide +kernel
abbrev P_X11_peripheral (r : St) (L : Nat → Nat → Int64) : Option Value → xG → Prop := fun v σ' => PoV r L v σ' ∧ Inv INVM r
abbrev R_X11_peripheral : Room := { frames := 4, cells := 0, slots := 0, locals := 95 }
abbrev C_X11_peripheral (l : Launch) (r : St) (L : Nat → Nat → Int64) (V : XJ) : Prop := XC l yX11_peripheral.cls yX11_peripheral.name cX11_peripheral 8 R_X11_peripheral 0 0 fl_X11 kc_X11 LAY.length (xfin none LAY (P_X11_peripheral r L)) V
def f_X11_peripheral_105 (rec : Int32 → Int32 → Int32 → Int32 → Int32 → Int32 → St → St) (x2 : Int32) (x3 : Int32) (x4 : Int32) (x5 : Int32) (x6 : Int32) (x7 : Int32) (M : St) : St := rec x2 x3 x4 x5 x6 (x7 + 1) M
def f_X11_peripheral_36 : Nat → Int32 → Int32 → Int32 → Int32 → Int32 → Int32 → St → St
  | 0, x2, x3, x4, x5, x6, x7, M => M
  | n + 1, x2, x3, x4, x5, x6, x7, M => (if x5 ≤ x7 then (if 2 ≤ x2 then M else (xb (f_X11_keepIn x3 (x5 / 2) x6 M) fun q11 => q11)) else (if 2 ≤ x2 then (xb (f_X11_write (x4 + (2 * x7)) 0 (((M 15 x3.toNatClampNeg) >>> ((8 * ((x5 - 1) - x7)) &&& 31)) &&& 255) M) fun q18 => f_X11_peripheral_105 (f_X11_peripheral_36 n) x2 x3 x4 x5 x6 x7 q18) else (xb (f_X11_read (x4 + (2 * x7)) 0 1 M) fun q22 => f_X11_peripheral_105 (f_X11_peripheral_36 n) x2 x3 x4 x5 ((x6 <<< ((8 : Int32) &&& 31)) ||| q22.1) x7 q22.2)))
def f_X11_peripheral_28 (x2 : Int32) (x3 : Int32) (x4 : Int32) (s0 : Int32) (M : St) : St := f_X11_peripheral_36 (((s0).toInt - (0 : Int32).toInt).toNat + 1) x2 x3 x4 s0 0 0 M
def f_X11_peripheral (a1 : Int32) (a2 : Int32) (a3 : Int32) (M : St) : St := (xb (f_X11_fetch  M) fun q1 => (if (a2 - a2 / 2 * 2) = 0 then f_X11_peripheral_28 a2 a3 ((M 15 (8 + a1).toNatClampNeg) + q1.1.toInt16.toInt32) 2 q1.2 else f_X11_peripheral_28 a2 a3 ((M 15 (8 + a1).toNatClampNeg) + q1.1.toInt16.toInt32) 4 q1.2))
set_option maxRecDepth 20000 in
set_option maxHeartbeats 4000000 in
theorem b_X11_peripheral_105 {l : Launch} {L : Nat → Nat → Int64} {V : XJ} (r : St) (C : C_X11_peripheral l r L V) (n : Nat) (rec : Int32 → Int32 → Int32 → Int32 → Int32 → Int32 → St → St) (hrec : ∀ (x2 : Int32) (x3 : Int32) (x4 : Int32) (x5 : Int32) (x6 : Int32) (x7 : Int32) (M : St), xrg 0 7 x3 → xrg 2 4 x5 → xrg 0 4 x7 → Inv INVM M → ((x5).toInt - x7.toInt).toNat < n → rec x2 x3 x4 x5 x6 x7 M = r → V 0 0 36 [(0, .ref 14), (2, .int x2), (3, .int x3), (4, .int x4), (5, .int x5), (6, .int x6), (7, .int x7)] [] LAY (M, L)) (x2 : Int32) (x3 : Int32) (x4 : Int32) (x5 : Int32) (x6 : Int32) (x7 : Int32) (M : St) (wx3 : xrg 0 7 x3) (wx5 : xrg 2 4 x5) (wx7 : xrg 0 3 x7) (hI : Inv INVM M) (hk : ((x5).toInt - (x7 + 1).toInt).toNat < n) (h : f_X11_peripheral_105 rec x2 x3 x4 x5 x6 x7 M = r) : V 0 0 105 [(0, .ref 14), (2, .int x2), (3, .int x3), (4, .int x4), (5, .int x5), (6, .int x6), (7, .int x7)] [] LAY (M, L) := by
  unfold f_X11_peripheral_105 at h
  refine x_run C e_X11_peripheral_13 e_X11_peripheral_13_k (pc' := 108) (lv' := [(7, .int (x7 + 1)), (0, .ref 14), (2, .int x2), (3, .int x3), (4, .int x4), (5, .int x5), (6, .int x6)]) (st' := []) (σ' := (M, L)) rfl ⟨trivial, trivial⟩ ?_
  refine x_goto C (show decode cX11_peripheral 108 = .ok (.goto (-72), 3) from by decide +kernel) (tgt := 36) (by decide) ?_
  refine x_lv C [1, 2, 3, 4, 5, 6, 0] rfl ?_
  exact hrec x2 x3 x4 x5 x6 (x7 + 1) M wx3 wx5 (x_rgw (x_rg_add wx7 (x_rgc (x := 1) (k := 1) (by decide)) (by decide) (by decide)) (lo' := 0) (hi' := 4) (by decide) (by decide)) hI (hk) h
set_option maxRecDepth 20000 in
set_option maxHeartbeats 4000000 in
theorem b_X11_peripheral_36 {l : Launch} {L : Nat → Nat → Int64} {V : XJ} (r : St) (C : C_X11_peripheral l r L V) : ∀ (n : Nat) (x2 : Int32) (x3 : Int32) (x4 : Int32) (x5 : Int32) (x6 : Int32) (x7 : Int32) (M : St), xrg 0 7 x3 → xrg 2 4 x5 → xrg 0 4 x7 → Inv INVM M → ((x5).toInt - x7.toInt).toNat < n → f_X11_peripheral_36 n x2 x3 x4 x5 x6 x7 M = r → V 0 0 36 [(0, .ref 14), (2, .int x2), (3, .int x3), (4, .int x4), (5, .int x5), (6, .int x6), (7, .int x7)] [] LAY (M, L) := by
  intro n
  induction n with
  | zero => intro x2 x3 x4 x5 x6 x7 M  wx3 wx5 wx7 hI hm; exact absurd hm (Nat.not_lt_zero _)
  | succ n ih =>
    intro x2 x3 x4 x5 x6 x7 M  wx3 wx5 wx7 hI hm h
    unfold f_X11_peripheral_36 at h
    refine x_run C e_X11_peripheral_6 e_X11_peripheral_6_k (pc' := 40) (lv' := [(0, .ref 14), (2, .int x2), (3, .int x3), (4, .int x4), (5, .int x5), (6, .int x6), (7, .int x7)]) (st' := [.int x5, .int x7]) (σ' := (M, L)) rfl ⟨trivial, trivial, trivial⟩ ?_
    refine x_icmp_ge C (show decode cX11_peripheral 40 = .ok (.if_icmp .ge 71, 3) from by decide +kernel) (tgt := 111) (by decide) (fun c6 => ?_) (fun c6 => ?_)
    · rw [if_pos c6] at h
      have g7 : xrg 2 4 x7 := (x_c_le wx5 wx7 c6).2
      refine x_run C e_X11_peripheral_7 e_X11_peripheral_7_k (pc' := 113) (lv' := [(0, .ref 14), (2, .int x2), (3, .int x3), (4, .int x4), (5, .int x5), (6, .int x6), (7, .int x7)]) (st' := [.int 2, .int x2]) (σ' := (M, L)) rfl ⟨trivial, trivial, trivial⟩ ?_
      refine x_icmp_ge C (show decode cX11_peripheral 113 = .ok (.if_icmp .ge 14, 3) from by decide +kernel) (tgt := 127) (by decide) (fun c8 => ?_) (fun c8 => ?_)
      · rw [if_pos c8] at h
        have g9 : xrg 2 2147483647 x2 := (x_c_le (x_rgc (x := 2) (k := 2) (by decide)) (x_rgt x2) c8).2
        subst h
        exact x_vret C (show decode cX11_peripheral 127 = .ok (.return_, 1) from by decide +kernel) (x_finV ⟨⟨rfl, rfl⟩, hI⟩) (Nat.le_refl 0) (Nat.le_refl 0)
      · rw [if_neg c8] at h
        have g10 : xrg (-2147483648) 1 x2 := (x_c_nle (x_rgc (x := 2) (k := 2) (by decide)) (x_rgt x2) c8).2
        refine x_run C e_X11_peripheral_8 e_X11_peripheral_8_k (pc' := 124) (lv' := [(0, .ref 14), (2, .int x2), (3, .int x3), (4, .int x4), (5, .int x5), (6, .int x6), (7, .int x7)]) (st' := [.int x6, .int (x5 / 2), .int x3, .ref 14]) (σ' := (M, L)) rfl ⟨trivial, trivial, trivial, trivial, (by decide), trivial, trivial⟩ ?_
        refine x_callV C (k := 14) (ci := 8) (rest := []) (avs := [.int x3, .int (x5 / 2), .int x6]) (k_X11_keepIn l x3 (x5 / 2) x6 M L (x_rgw wx3 (lo' := 0) (hi' := 15) (by decide) (by decide)) hI) yoX11_keepIn ml_X11_225 rfl rfl rfl rfl ⟨Nat.zero_le _, Nat.zero_le _⟩ (show decode cX11_peripheral 124 = .ok (.invokevirtual 225, 3) from by decide +kernel) rfl (fun v σ' hPo => ?_)
        obtain ⟨⟨rfl, rfl⟩, hI13⟩ := hPo
        generalize hq11 : f_X11_keepIn x3 (x5 / 2) x6 M = q11 at h hI13 ⊢
        have h := xb_eq h
        show V 0 0 127 [(0, .ref 14), (2, .int x2), (3, .int x3), (4, .int x4), (5, .int x5), (6, .int x6), (7, .int x7)] [] LAY (q11, L)
        subst h
        exact x_vret C (show decode cX11_peripheral 127 = .ok (.return_, 1) from by decide +kernel) (x_finV ⟨⟨rfl, rfl⟩, hI13⟩) (Nat.le_refl 0) (Nat.le_refl 0)
    · rw [if_neg c6] at h
      have g14 : xrg 0 3 x7 := (x_c_nle wx5 wx7 c6).2
      have hk15 := x_meas (x_nle c6) hm
      refine x_run C e_X11_peripheral_9 e_X11_peripheral_9_k (pc' := 45) (lv' := [(0, .ref 14), (2, .int x2), (3, .int x3), (4, .int x4), (5, .int x5), (6, .int x6), (7, .int x7)]) (st' := [.int 2, .int x2]) (σ' := (M, L)) rfl ⟨trivial, trivial, trivial⟩ ?_
      refine x_icmp_ge C (show decode cX11_peripheral 45 = .ok (.if_icmp .ge 27, 3) from by decide +kernel) (tgt := 72) (by decide) (fun c16 => ?_) (fun c16 => ?_)
      · rw [if_pos c16] at h
        have g17 : xrg 2 2147483647 x2 := (x_c_le (x_rgc (x := 2) (k := 2) (by decide)) (x_rgt x2) c16).2
        refine x_run C e_X11_peripheral_10 e_X11_peripheral_10_k (pc' := 102) (lv' := [(0, .ref 14), (2, .int x2), (3, .int x3), (4, .int x4), (5, .int x5), (6, .int x6), (7, .int x7)]) (st' := [.int (((M 15 x3.toNatClampNeg) >>> ((8 * ((x5 - 1) - x7)) &&& 31)) &&& 255), .int 0, .int (x4 + (2 * x7)), .ref 14]) (σ' := (M, L)) rfl ⟨trivial, trivial, trivial, trivial, trivial, trivial, trivial, trivial, trivial, trivial, (x_rgv wx3 (by decide) (by decide)), trivial, trivial, trivial, trivial, trivial, trivial, trivial, trivial, trivial, trivial, trivial⟩ ?_
        refine x_callV C (k := 14) (ci := 8) (rest := []) (avs := [.int (x4 + (2 * x7)), .int 0, .int (((M 15 x3.toNatClampNeg) >>> ((8 * ((x5 - 1) - x7)) &&& 31)) &&& 255)]) (k_X11_write l (x4 + (2 * x7)) 0 (((M 15 x3.toNatClampNeg) >>> ((8 * ((x5 - 1) - x7)) &&& 31)) &&& 255) M L hI) yoX11_write ml_X11_99 rfl rfl rfl rfl ⟨Nat.zero_le _, Nat.zero_le _⟩ (show decode cX11_peripheral 102 = .ok (.invokevirtual 99, 3) from by decide +kernel) rfl (fun v σ' hPo => ?_)
        obtain ⟨⟨rfl, rfl⟩, hI20⟩ := hPo
        generalize hq18 : f_X11_write (x4 + (2 * x7)) 0 (((M 15 x3.toNatClampNeg) >>> ((8 * ((x5 - 1) - x7)) &&& 31)) &&& 255) M = q18 at h hI20 ⊢
        have h := xb_eq h
        show V 0 0 105 [(0, .ref 14), (2, .int x2), (3, .int x3), (4, .int x4), (5, .int x5), (6, .int x6), (7, .int x7)] [] LAY (q18, L)
        exact b_X11_peripheral_105 r C n (f_X11_peripheral_36 n) ih x2 x3 x4 x5 x6 x7 q18 wx3 wx5 g14 hI20 (hk15) h
      · rw [if_neg c16] at h
        have g21 : xrg (-2147483648) 1 x2 := (x_c_nle (x_rgc (x := 2) (k := 2) (by decide)) (x_rgt x2) c16).2
        refine x_run C e_X11_peripheral_11 e_X11_peripheral_11_k (pc' := 63) (lv' := [(0, .ref 14), (2, .int x2), (3, .int x3), (4, .int x4), (5, .int x5), (6, .int x6), (7, .int x7)]) (st' := [.int 1, .int 0, .int (x4 + (2 * x7)), .ref 14, .int (x6 <<< ((8 : Int32) &&& 31))]) (σ' := (M, L)) rfl ⟨trivial, trivial, trivial, trivial, trivial, trivial, trivial, trivial, trivial, trivial, trivial, trivial⟩ ?_
        refine x_callV C (k := 14) (ci := 8) (rest := [.int (x6 <<< ((8 : Int32) &&& 31))]) (avs := [.int (x4 + (2 * x7)), .int 0, .int 1]) (k_X11_read l (x4 + (2 * x7)) 0 1 M L hI) yoX11_read ml_X11_95 rfl rfl rfl rfl ⟨Nat.zero_le _, Nat.zero_le _⟩ (show decode cX11_peripheral 63 = .ok (.invokevirtual 95, 3) from by decide +kernel) rfl (fun v σ' hPo => ?_)
        obtain ⟨⟨rfl, rfl⟩, g23, hI24⟩ := hPo
        generalize hq22 : f_X11_read (x4 + (2 * x7)) 0 1 M = q22 at h g23 hI24 ⊢
        obtain ⟨r22, M22⟩ := q22
        have h := xb_eq h
        try dsimp only at h g23 hI24
        show V 0 0 66 [(0, .ref 14), (2, .int x2), (3, .int x3), (4, .int x4), (5, .int x5), (6, .int x6), (7, .int x7)] [.int r22, .int (x6 <<< ((8 : Int32) &&& 31))] LAY (M22, L)
        refine x_run C e_X11_peripheral_12 e_X11_peripheral_12_k (pc' := 69) (lv' := [(6, .int ((x6 <<< ((8 : Int32) &&& 31)) ||| r22)), (0, .ref 14), (2, .int x2), (3, .int x3), (4, .int x4), (5, .int x5), (7, .int x7)]) (st' := []) (σ' := (M22, L)) rfl ⟨trivial, trivial, trivial⟩ ?_
        refine x_goto C (show decode cX11_peripheral 69 = .ok (.goto 36, 3) from by decide +kernel) (tgt := 105) (by decide) ?_
        refine x_lv C [1, 2, 3, 4, 5, 0, 6] rfl ?_
        exact b_X11_peripheral_105 r C n (f_X11_peripheral_36 n) ih x2 x3 x4 x5 ((x6 <<< ((8 : Int32) &&& 31)) ||| r22) x7 M22 wx3 wx5 g14 hI24 (hk15) h
set_option maxRecDepth 20000 in
set_option maxHeartbeats 4000000 in
theorem b_X11_peripheral_28 {l : Launch} {L : Nat → Nat → Int64} {V : XJ} (r : St) (C : C_X11_peripheral l r L V) (x2 : Int32) (x3 : Int32) (x4 : Int32) (s0 : Int32) (M : St) (wx3 : xrg 0 7 x3) (ws0 : xrg 2 4 s0) (hI : Inv INVM M) (h : f_X11_peripheral_28 x2 x3 x4 s0 M = r) : V 0 0 28 [(0, .ref 14), (2, .int x2), (3, .int x3), (4, .int x4)] [.int s0] LAY (M, L) := by
  unfold f_X11_peripheral_28 at h
  refine x_run C e_X11_peripheral_5 e_X11_peripheral_5_k (pc' := 36) (lv' := [(7, .int 0), (6, .int 0), (5, .int s0), (0, .ref 14), (2, .int x2), (3, .int x3), (4, .int x4)]) (st' := []) (σ' := (M, L)) rfl ⟨trivial, trivial, trivial, trivial, trivial, trivial⟩ ?_
  refine x_lv C [3, 4, 5, 6, 2, 1, 0] rfl ?_
  exact b_X11_peripheral_36 r C (((s0).toInt - (0 : Int32).toInt).toNat + 1) x2 x3 x4 s0 0 0 M wx3 ws0 (x_rgw (x_rgc (x := 0) (k := 0) (by decide)) (lo' := 0) (hi' := 4) (by decide) (by decide)) hI (Nat.lt_succ_self _) h
set_option maxRecDepth 20000 in
set_option maxHeartbeats 4000000 in
theorem k_X11_peripheral (l : Launch) (a1 : Int32) (a2 : Int32) (a3 : Int32) (M : St) (L : Nat → Nat → Int64) (hp1 : xrg 0 7 a1) (hp3 : xrg 0 7 a3) (hI : Inv INVM M) : XM l yX11_peripheral cX11_peripheral 8 none R_X11_peripheral LAY [.ref 14, .int a1, .int a2, .int a3] (M, L) (P_X11_peripheral (f_X11_peripheral a1 a2 a3 M) L) := by
  refine XM.of (by decide) (Nat.le_of_ble_eq_true rfl) LAY_in cl_ok fl_X11_ok kc_X11_ok (fun V C => ?_)
  obtain ⟨r, h⟩ : ∃ r, f_X11_peripheral a1 a2 a3 M = r := ⟨_, rfl⟩
  rw [h] at C
  change C_X11_peripheral l r L V at C
  unfold f_X11_peripheral at h
  show V 0 0 0 [(0, .ref 14), (1, .int a1), (2, .int a2), (3, .int a3)] [] LAY (M, L)
  refine x_run C e_X11_peripheral_1 e_X11_peripheral_1_k (pc' := 10) (lv' := [(0, .ref 14), (1, .int a1), (2, .int a2), (3, .int a3)]) (st' := [.ref 14, .int (M 15 (8 + a1).toNatClampNeg)]) (σ' := (M, L)) rfl ⟨trivial, trivial, trivial, trivial, trivial, (x_rgv (x_rg_add (x_rgc (x := 8) (k := 8) (by decide)) hp1 (by decide) (by decide)) (by decide) (by decide)), trivial, trivial⟩ ?_
  refine x_callV C (k := 14) (ci := 8) (rest := [.int (M 15 (8 + a1).toNatClampNeg)]) (avs := []) (k_X11_fetch l  M L hI) yoX11_fetch ml_X11_103 rfl rfl rfl rfl ⟨Nat.zero_le _, Nat.zero_le _⟩ (show decode cX11_peripheral 10 = .ok (.invokevirtual 103, 3) from by decide +kernel) rfl (fun v σ' hPo => ?_)
  obtain ⟨⟨rfl, rfl⟩, g2, hI3⟩ := hPo
  generalize hq1 : f_X11_fetch  M = q1 at h g2 hI3 ⊢
  obtain ⟨r1, M1⟩ := q1
  have h := xb_eq h
  try dsimp only at h g2 hI3
  show V 0 0 13 [(0, .ref 14), (1, .int a1), (2, .int a2), (3, .int a3)] [.int r1, .int (M 15 (8 + a1).toNatClampNeg)] LAY (M1, L)
  refine x_run C e_X11_peripheral_2 e_X11_peripheral_2_k (pc' := 20) (lv' := [(4, .int ((M 15 (8 + a1).toNatClampNeg) + r1.toInt16.toInt32)), (0, .ref 14), (1, .int a1), (2, .int a2), (3, .int a3)]) (st' := [.int (a2 - a2 / 2 * 2)]) (σ' := (M1, L)) rfl ⟨trivial, trivial, trivial, trivial, trivial, (by decide), trivial⟩ ?_
  refine x_if_ne C (show decode cX11_peripheral 20 = .ok (.ifCond .ne 7, 3) from by decide +kernel) (tgt := 27) (by decide) (fun c4 => ?_) (fun c4 => ?_)
  · rw [if_neg c4] at h
    refine x_run C e_X11_peripheral_3 e_X11_peripheral_3_k (pc' := 28) (lv' := [(4, .int ((M 15 (8 + a1).toNatClampNeg) + r1.toInt16.toInt32)), (0, .ref 14), (1, .int a1), (2, .int a2), (3, .int a3)]) (st' := [.int 4]) (σ' := (M1, L)) rfl ⟨trivial, trivial⟩ ?_
    refine x_lv C [1, 3, 4, 0] rfl ?_
    exact b_X11_peripheral_28 r C a2 a3 ((M 15 (8 + a1).toNatClampNeg) + r1.toInt16.toInt32) 4 M1 hp3 (x_rgw (x_rgc (x := 4) (k := 4) (by decide)) (lo' := 2) (hi' := 4) (by decide) (by decide)) hI3 h
  · rw [if_pos c4] at h
    have g5 : xrg 0 0 (a2 - a2 / 2 * 2) := (x_c_eq (x_rgt (a2 - a2 / 2 * 2)) (x_rgc (x := 0) (k := 0) (by decide)) c4).1
    refine x_run C e_X11_peripheral_4 e_X11_peripheral_4_k (pc' := 24) (lv' := [(4, .int ((M 15 (8 + a1).toNatClampNeg) + r1.toInt16.toInt32)), (0, .ref 14), (1, .int a1), (2, .int a2), (3, .int a3)]) (st' := [.int 2]) (σ' := (M1, L)) rfl ⟨trivial, trivial⟩ ?_
    refine x_goto C (show decode cX11_peripheral 24 = .ok (.goto 4, 3) from by decide +kernel) (tgt := 28) (by decide) ?_
    refine x_lv C [1, 3, 4, 0] rfl ?_
    exact b_X11_peripheral_28 r C a2 a3 ((M 15 (8 + a1).toNatClampNeg) + r1.toInt16.toInt32) 2 M1 hp3 (x_rgw (x_rgc (x := 2) (k := 2) (by decide)) (lo' := 2) (hi' := 4) (by decide) (by decide)) hI3 h
-- X11_bits
def e_X11_bits_1 : List xI := [(0, .iload_n 1, 1, .null), (1, .bipush 8, 2, .int 8)]
theorem e_X11_bits_1_k : e_X11_bits_1.all (fun q => xokB cX11_bits q && xokL q) = true := by decide +kernel
def e_X11_bits_2 : List xI := [(10, .iconst 0, 1, .int 0)]
theorem e_X11_bits_2_k : e_X11_bits_2.all (fun q => xokB cX11_bits q && xokL q) = true := by decide +kernel
def e_X11_bits_3 : List xI := [(6, .iconst 2, 1, .int 2)]
theorem e_X11_bits_3_k : e_X11_bits_3.all (fun q => xokB cX11_bits q && xokL q) = true := by decide +kernel
def e_X11_bits_4 : List xI := [(11, .istore 4, 2, .null), (13, .iconst 1, 1, .int 1), (14, .iload_n 1, 1, .null), (15, .bipush 8, 2, .int 8)]
theorem e_X11_bits_4_k : e_X11_bits_4.all (fun q => xokB cX11_bits q && xokL q) = true := by decide +kernel
def e_X11_bits_5 : List xI := [(27, .iload_n 3, 1, .null), (28, .bipush 7, 2, .int 7), (30, .iand, 1, .null)]
theorem e_X11_bits_5_k : e_X11_bits_5.all (fun q => xokB cX11_bits q && xokL q) = true := by decide +kernel
def e_X11_bits_6 : List xI := [(20, .iload_n 3, 1, .null), (21, .bipush 31, 2, .int 31), (23, .iand, 1, .null)]
theorem e_X11_bits_6_k : e_X11_bits_6.all (fun q => xokB cX11_bits q && xokL q) = true := by decide +kernel
def e_X11_bits_7 : List xI := [(31, .ishl, 1, .null), (32, .istore 5, 2, .null), (34, .aload_n 0, 1, .null), (35, .iload_n 1, 1, .null), (36, .iload 4, 2, .null)]
theorem e_X11_bits_7_k : e_X11_bits_7.all (fun q => xokB cX11_bits q && xokL q) = true := by decide +kernel
def e_X11_bits_8 : List xI := [(41, .istore 6, 2, .null), (43, .aload_n 0, 1, .null), (44, .iconst 4, 1, .int 4), (45, .iload 6, 2, .null), (47, .iload 5, 2, .null), (49, .iand, 1, .null)]
theorem e_X11_bits_8_k : e_X11_bits_8.all (fun q => xokB cX11_bits q && xokL q) = true := by decide +kernel
def e_X11_bits_9 : List xI := [(57, .iconst 0, 1, .int 0)]
theorem e_X11_bits_9_k : e_X11_bits_9.all (fun q => xokB cX11_bits q && xokL q) = true := by decide +kernel
def e_X11_bits_10 : List xI := [(53, .iconst 1, 1, .int 1)]
theorem e_X11_bits_10_k : e_X11_bits_10.all (fun q => xokB cX11_bits q && xokL q) = true := by decide +kernel
def e_X11_bits_11 : List xI := [(61, .iload_n 2, 1, .null)]
theorem e_X11_bits_11_k : e_X11_bits_11.all (fun q => xokB cX11_bits q && xokL q) = true := by decide +kernel
def e_X11_bits_12 : List xI := [(65, .aload_n 0, 1, .null), (66, .iload 4, 2, .null), (68, .iload_n 2, 1, .null), (69, .iconst 1, 1, .int 1)]
theorem e_X11_bits_12_k : e_X11_bits_12.all (fun q => xokB cX11_bits q && xokL q) = true := by decide +kernel
def e_X11_bits_13 : List xI := [(81, .iload_n 2, 1, .null), (82, .iconst 2, 1, .int 2)]
theorem e_X11_bits_13_k : e_X11_bits_13.all (fun q => xokB cX11_bits q && xokL q) = true := by decide +kernel
def e_X11_bits_14 : List xI := [(96, .iload 6, 2, .null), (98, .iload 5, 2, .null), (100, .ior, 1, .null)]
theorem e_X11_bits_14_k : e_X11_bits_14.all (fun q => xokB cX11_bits q && xokL q) = true := by decide +kernel
def e_X11_bits_15 : List xI := [(86, .iload 6, 2, .null), (88, .iload 5, 2, .null), (90, .iconst (-1), 1, .int (-1)), (91, .ixor, 1, .null), (92, .iand, 1, .null)]
theorem e_X11_bits_15_k : e_X11_bits_15.all (fun q => xokB cX11_bits q && xokL q) = true := by decide +kernel
def e_X11_bits_16 : List xI := [(73, .iload 6, 2, .null), (75, .iload 5, 2, .null), (77, .ixor, 1, .null)]
theorem e_X11_bits_16_k : e_X11_bits_16.all (fun q => xokB cX11_bits q && xokL q) = true := by decide +kernel
abbrev P_X11_bits (r : St) (L : Nat → Nat → Int64) : Option Value → xG → Prop := fun v σ' => PoV r L v σ' ∧ Inv INVM r
abbrev R_X11_bits : Room := { frames := 8, cells := 0, slots := 0, locals := 188 }
abbrev C_X11_bits (l : Launch) (r : St) (L : Nat → Nat → Int64) (V : XJ) : Prop := XC l yX11_bits.cls yX11_bits.name cX11_bits 7 R_X11_bits 0 0 fl_X11 kc_X11 LAY.length (xfin none LAY (P_X11_bits r L)) V
def f_X11_bits_101 (s0 : Int32) (s1 : Int32) (M : St) : St := (xb (f_X11_store s1 s0 M) fun q24 => q24)
def f_X11_bits_58 (x2 : Int32) (x4 : Int32) (x5 : Int32) (x6 : Int32) (s0 : Int32) (s1 : Int32) (M : St) : St := (xb (f_X11_flag s1 s0 M) fun q12 => (if x2 ≤ 0 then q12 else (if x2 = 1 then f_X11_bits_101 (x6 ^^^ x5) x4 q12 else (if x2 = 2 then f_X11_bits_101 (x6 &&& (x5 ^^^ (-1))) x4 q12 else f_X11_bits_101 (x6 ||| x5) x4 q12))))
def f_X11_bits_31 (x1 : Int32) (x2 : Int32) (x4 : Int32) (s0 : Int32) (s1 : Int32) (M : St) : St := (xb (f_X11_loadAt x1 x4 M) fun q7 => (if (q7.1 &&& (s1 <<< (s0 &&& 31))) = 0 then f_X11_bits_58 x2 x4 (s1 <<< (s0 &&& 31)) q7.1 1 4 q7.2 else f_X11_bits_58 x2 x4 (s1 <<< (s0 &&& 31)) q7.1 0 4 q7.2))
def f_X11_bits_11 (x1 : Int32) (x2 : Int32) (x3 : Int32) (s0 : Int32) (M : St) : St := (if 8 ≤ x1 then f_X11_bits_31 x1 x2 s0 (x3 &&& 7) 1 M else f_X11_bits_31 x1 x2 s0 (x3 &&& 31) 1 M)
def f_X11_bits (a1 : Int32) (a2 : Int32) (a3 : Int32) (M : St) : St := (if 8 ≤ a1 then f_X11_bits_11 a1 a2 a3 0 M else f_X11_bits_11 a1 a2 a3 2 M)
set_option maxRecDepth 20000 in
set_option maxHeartbeats 4000000 in
theorem b_X11_bits_101 {l : Launch} {L : Nat → Nat → Int64} {V : XJ} (r : St) (C : C_X11_bits l r L V) (s0 : Int32) (s1 : Int32) (M : St) (ws1 : xrg 0 2 s1) (hI : Inv INVM M) (h : f_X11_bits_101 s0 s1 M = r) : V 0 0 101 [] [.int s0, .int s1, .ref 14] LAY (M, L) := by
  unfold f_X11_bits_101 at h
  refine x_callV C (k := 14) (ci := 8) (rest := []) (avs := [.int s1, .int s0]) (k_X11_store l s1 s0 M L hI) yoX11_store ml_X11_193 rfl rfl rfl rfl ⟨Nat.zero_le _, Nat.zero_le _⟩ (show decode cX11_bits 101 = .ok (.invokevirtual 193, 3) from by decide +kernel) rfl (fun v σ' hPo => ?_)
  obtain ⟨⟨rfl, rfl⟩, hI26⟩ := hPo
  generalize hq24 : f_X11_store s1 s0 M = q24 at h hI26 ⊢
  have h := xb_eq h
  show V 0 0 104 [] [] LAY (q24, L)
  subst h
  exact x_vret C (show decode cX11_bits 104 = .ok (.return_, 1) from by decide +kernel) (x_finV ⟨⟨rfl, rfl⟩, hI26⟩) (Nat.le_refl 0) (Nat.le_refl 0)
set_option maxRecDepth 20000 in
set_option maxHeartbeats 4000000 in
theorem b_X11_bits_58 {l : Launch} {L : Nat → Nat → Int64} {V : XJ} (r : St) (C : C_X11_bits l r L V) (x2 : Int32) (x4 : Int32) (x5 : Int32) (x6 : Int32) (s0 : Int32) (s1 : Int32) (M : St) (wx4 : xrg 0 2 x4) (ws0 : xrg 0 1 s0) (ws1 : xrg 4 4 s1) (hI : Inv INVM M) (h : f_X11_bits_58 x2 x4 x5 x6 s0 s1 M = r) : V 0 0 58 [(0, .ref 14), (2, .int x2), (4, .int x4), (5, .int x5), (6, .int x6)] [.int s0, .int s1, .ref 14] LAY (M, L) := by
  unfold f_X11_bits_58 at h
  refine x_callV C (k := 14) (ci := 8) (rest := []) (avs := [.int s1, .int s0]) (k_X11_flag l s1 s0 M L hI) yoX11_flag ml_X11_135 rfl rfl rfl rfl ⟨Nat.zero_le _, Nat.zero_le _⟩ (show decode cX11_bits 58 = .ok (.invokevirtual 135, 3) from by decide +kernel) rfl (fun v σ' hPo => ?_)
  obtain ⟨⟨rfl, rfl⟩, hI14⟩ := hPo
  generalize hq12 : f_X11_flag s1 s0 M = q12 at h hI14 ⊢
  have h := xb_eq h
  show V 0 0 61 [(0, .ref 14), (2, .int x2), (4, .int x4), (5, .int x5), (6, .int x6)] [] LAY (q12, L)
  refine x_run C e_X11_bits_11 e_X11_bits_11_k (pc' := 62) (lv' := [(0, .ref 14), (2, .int x2), (4, .int x4), (5, .int x5), (6, .int x6)]) (st' := [.int x2]) (σ' := (q12, L)) rfl ⟨trivial, trivial⟩ ?_
  refine x_if_le C (show decode cX11_bits 62 = .ok (.ifCond .le 42, 3) from by decide +kernel) (tgt := 104) (by decide) (fun c15 => ?_) (fun c15 => ?_)
  · rw [if_pos c15] at h
    have g16 : xrg (-2147483648) 0 x2 := (x_c_le (x_rgt x2) (x_rgc (x := 0) (k := 0) (by decide)) c15).1
    subst h
    exact x_vret C (show decode cX11_bits 104 = .ok (.return_, 1) from by decide +kernel) (x_finV ⟨⟨rfl, rfl⟩, hI14⟩) (Nat.le_refl 0) (Nat.le_refl 0)
  · rw [if_neg c15] at h
    have g17 : xrg 1 2147483647 x2 := (x_c_nle (x_rgt x2) (x_rgc (x := 0) (k := 0) (by decide)) c15).1
    refine x_run C e_X11_bits_12 e_X11_bits_12_k (pc' := 70) (lv' := [(0, .ref 14), (2, .int x2), (4, .int x4), (5, .int x5), (6, .int x6)]) (st' := [.int 1, .int x2, .int x4, .ref 14]) (σ' := (q12, L)) rfl ⟨trivial, trivial, trivial, trivial, trivial⟩ ?_
    refine x_icmp_ne C (show decode cX11_bits 70 = .ok (.if_icmp .ne 11, 3) from by decide +kernel) (tgt := 81) (by decide) (fun c18 => ?_) (fun c18 => ?_)
    · rw [if_neg c18] at h
      have g19 : xrg 2 2147483647 x2 := (x_c_ne g17 (by decide) c18)
      refine x_run C e_X11_bits_13 e_X11_bits_13_k (pc' := 83) (lv' := [(0, .ref 14), (2, .int x2), (4, .int x4), (5, .int x5), (6, .int x6)]) (st' := [.int 2, .int x2, .int x4, .ref 14]) (σ' := (q12, L)) rfl ⟨trivial, trivial, trivial⟩ ?_
      refine x_icmp_ne C (show decode cX11_bits 83 = .ok (.if_icmp .ne 13, 3) from by decide +kernel) (tgt := 96) (by decide) (fun c20 => ?_) (fun c20 => ?_)
      · rw [if_neg c20] at h
        have g21 : xrg 3 2147483647 x2 := (x_c_ne g19 (by decide) c20)
        refine x_run C e_X11_bits_14 e_X11_bits_14_k (pc' := 101) (lv' := [(0, .ref 14), (2, .int x2), (4, .int x4), (5, .int x5), (6, .int x6)]) (st' := [.int (x6 ||| x5), .int x4, .ref 14]) (σ' := (q12, L)) rfl ⟨trivial, trivial, trivial, trivial⟩ ?_
        refine x_lv C [] rfl ?_
        exact b_X11_bits_101 r C (x6 ||| x5) x4 q12 wx4 hI14 h
      · rw [if_pos c20] at h
        have g22 : xrg 2 2 x2 := (x_c_eq g19 (x_rgc (x := 2) (k := 2) (by decide)) c20).1
        refine x_run C e_X11_bits_15 e_X11_bits_15_k (pc' := 93) (lv' := [(0, .ref 14), (2, .int x2), (4, .int x4), (5, .int x5), (6, .int x6)]) (st' := [.int (x6 &&& (x5 ^^^ (-1))), .int x4, .ref 14]) (σ' := (q12, L)) rfl ⟨trivial, trivial, trivial, trivial, trivial, trivial⟩ ?_
        refine x_goto C (show decode cX11_bits 93 = .ok (.goto 8, 3) from by decide +kernel) (tgt := 101) (by decide) ?_
        refine x_lv C [] rfl ?_
        exact b_X11_bits_101 r C (x6 &&& (x5 ^^^ (-1))) x4 q12 wx4 hI14 h
    · rw [if_pos c18] at h
      have g23 : xrg 1 1 x2 := (x_c_eq g17 (x_rgc (x := 1) (k := 1) (by decide)) c18).1
      refine x_run C e_X11_bits_16 e_X11_bits_16_k (pc' := 78) (lv' := [(0, .ref 14), (2, .int x2), (4, .int x4), (5, .int x5), (6, .int x6)]) (st' := [.int (x6 ^^^ x5), .int x4, .ref 14]) (σ' := (q12, L)) rfl ⟨trivial, trivial, trivial, trivial⟩ ?_
      refine x_goto C (show decode cX11_bits 78 = .ok (.goto 23, 3) from by decide +kernel) (tgt := 101) (by decide) ?_
      refine x_lv C [] rfl ?_
      exact b_X11_bits_101 r C (x6 ^^^ x5) x4 q12 wx4 hI14 h
set_option maxRecDepth 20000 in
set_option maxHeartbeats 4000000 in
theorem b_X11_bits_31 {l : Launch} {L : Nat → Nat → Int64} {V : XJ} (r : St) (C : C_X11_bits l r L V) (x1 : Int32) (x2 : Int32) (x4 : Int32) (s0 : Int32) (s1 : Int32) (M : St) (wx4 : xrg 0 2 x4) (ws0 : xrg 0 31 s0) (ws1 : xrg 1 1 s1) (hI : Inv INVM M) (h : f_X11_bits_31 x1 x2 x4 s0 s1 M = r) : V 0 0 31 [(0, .ref 14), (1, .int x1), (2, .int x2), (4, .int x4)] [.int s0, .int s1] LAY (M, L) := by
  unfold f_X11_bits_31 at h
  refine x_run C e_X11_bits_7 e_X11_bits_7_k (pc' := 38) (lv' := [(5, .int (s1 <<< (s0 &&& 31))), (0, .ref 14), (1, .int x1), (2, .int x2), (4, .int x4)]) (st' := [.int x4, .int x1, .ref 14]) (σ' := (M, L)) rfl ⟨trivial, trivial, trivial, trivial, trivial, trivial⟩ ?_
  refine x_callV C (k := 14) (ci := 8) (rest := []) (avs := [.int x1, .int x4]) (k_X11_loadAt l x1 x4 M L hI) yoX11_loadAt ml_X11_190 rfl rfl rfl rfl ⟨Nat.zero_le _, Nat.zero_le _⟩ (show decode cX11_bits 38 = .ok (.invokevirtual 190, 3) from by decide +kernel) rfl (fun v σ' hPo => ?_)
  obtain ⟨⟨rfl, rfl⟩, g8, hI9⟩ := hPo
  generalize hq7 : f_X11_loadAt x1 x4 M = q7 at h g8 hI9 ⊢
  obtain ⟨r7, M7⟩ := q7
  have h := xb_eq h
  try dsimp only at h g8 hI9
  show V 0 0 41 [(5, .int (s1 <<< (s0 &&& 31))), (0, .ref 14), (1, .int x1), (2, .int x2), (4, .int x4)] [.int r7] LAY (M7, L)
  refine x_run C e_X11_bits_8 e_X11_bits_8_k (pc' := 50) (lv' := [(6, .int r7), (5, .int (s1 <<< (s0 &&& 31))), (0, .ref 14), (1, .int x1), (2, .int x2), (4, .int x4)]) (st' := [.int (r7 &&& (s1 <<< (s0 &&& 31))), .int 4, .ref 14]) (σ' := (M7, L)) rfl ⟨trivial, trivial, trivial, trivial, trivial, trivial, trivial⟩ ?_
  refine x_if_ne C (show decode cX11_bits 50 = .ok (.ifCond .ne 7, 3) from by decide +kernel) (tgt := 57) (by decide) (fun c10 => ?_) (fun c10 => ?_)
  · rw [if_neg c10] at h
    refine x_run C e_X11_bits_9 e_X11_bits_9_k (pc' := 58) (lv' := [(6, .int r7), (5, .int (s1 <<< (s0 &&& 31))), (0, .ref 14), (1, .int x1), (2, .int x2), (4, .int x4)]) (st' := [.int 0, .int 4, .ref 14]) (σ' := (M7, L)) rfl ⟨trivial, trivial⟩ ?_
    refine x_lv C [2, 4, 5, 1, 0] rfl ?_
    exact b_X11_bits_58 r C x2 x4 (s1 <<< (s0 &&& 31)) r7 0 4 M7 wx4 (x_rgw (x_rgc (x := 0) (k := 0) (by decide)) (lo' := 0) (hi' := 1) (by decide) (by decide)) (x_rgc (x := 4) (k := 4) (by decide)) hI9 h
  · rw [if_pos c10] at h
    have g11 : xrg 0 0 (r7 &&& (s1 <<< (s0 &&& 31))) := (x_c_eq (x_rgt (r7 &&& (s1 <<< (s0 &&& 31)))) (x_rgc (x := 0) (k := 0) (by decide)) c10).1
    refine x_run C e_X11_bits_10 e_X11_bits_10_k (pc' := 54) (lv' := [(6, .int r7), (5, .int (s1 <<< (s0 &&& 31))), (0, .ref 14), (1, .int x1), (2, .int x2), (4, .int x4)]) (st' := [.int 1, .int 4, .ref 14]) (σ' := (M7, L)) rfl ⟨trivial, trivial⟩ ?_
    refine x_goto C (show decode cX11_bits 54 = .ok (.goto 4, 3) from by decide +kernel) (tgt := 58) (by decide) ?_
    refine x_lv C [2, 4, 5, 1, 0] rfl ?_
    exact b_X11_bits_58 r C x2 x4 (s1 <<< (s0 &&& 31)) r7 1 4 M7 wx4 (x_rgw (x_rgc (x := 1) (k := 1) (by decide)) (lo' := 0) (hi' := 1) (by decide) (by decide)) (x_rgc (x := 4) (k := 4) (by decide)) hI9 h
set_option maxRecDepth 20000 in
set_option maxHeartbeats 4000000 in
theorem b_X11_bits_11 {l : Launch} {L : Nat → Nat → Int64} {V : XJ} (r : St) (C : C_X11_bits l r L V) (x1 : Int32) (x2 : Int32) (x3 : Int32) (s0 : Int32) (M : St) (ws0 : xrg 0 2 s0) (hI : Inv INVM M) (h : f_X11_bits_11 x1 x2 x3 s0 M = r) : V 0 0 11 [(0, .ref 14), (1, .int x1), (2, .int x2), (3, .int x3)] [.int s0] LAY (M, L) := by
  unfold f_X11_bits_11 at h
  refine x_run C e_X11_bits_4 e_X11_bits_4_k (pc' := 17) (lv' := [(4, .int s0), (0, .ref 14), (1, .int x1), (2, .int x2), (3, .int x3)]) (st' := [.int 8, .int x1, .int 1]) (σ' := (M, L)) rfl ⟨trivial, trivial, trivial, trivial, trivial⟩ ?_
  refine x_icmp_ge C (show decode cX11_bits 17 = .ok (.if_icmp .ge 10, 3) from by decide +kernel) (tgt := 27) (by decide) (fun c4 => ?_) (fun c4 => ?_)
  · rw [if_pos c4] at h
    have g5 : xrg 8 2147483647 x1 := (x_c_le (x_rgc (x := 8) (k := 8) (by decide)) (x_rgt x1) c4).2
    refine x_run C e_X11_bits_5 e_X11_bits_5_k (pc' := 31) (lv' := [(4, .int s0), (0, .ref 14), (1, .int x1), (2, .int x2), (3, .int x3)]) (st' := [.int (x3 &&& 7), .int 1]) (σ' := (M, L)) rfl ⟨trivial, trivial, trivial, trivial⟩ ?_
    refine x_lv C [1, 2, 3, 0] rfl ?_
    exact b_X11_bits_31 r C x1 x2 s0 (x3 &&& 7) 1 M ws0 (x_rgw (x_rg_and (x := x3) (m := 7) (k := 7) (by decide) (by decide)) (lo' := 0) (hi' := 31) (by decide) (by decide)) (x_rgc (x := 1) (k := 1) (by decide)) hI h
  · rw [if_neg c4] at h
    have g6 : xrg (-2147483648) 7 x1 := (x_c_nle (x_rgc (x := 8) (k := 8) (by decide)) (x_rgt x1) c4).2
    refine x_run C e_X11_bits_6 e_X11_bits_6_k (pc' := 24) (lv' := [(4, .int s0), (0, .ref 14), (1, .int x1), (2, .int x2), (3, .int x3)]) (st' := [.int (x3 &&& 31), .int 1]) (σ' := (M, L)) rfl ⟨trivial, trivial, trivial, trivial⟩ ?_
    refine x_goto C (show decode cX11_bits 24 = .ok (.goto 7, 3) from by decide +kernel) (tgt := 31) (by decide) ?_
    refine x_lv C [1, 2, 3, 0] rfl ?_
    exact b_X11_bits_31 r C x1 x2 s0 (x3 &&& 31) 1 M ws0 (x_rg_and (x := x3) (m := 31) (k := 31) (by decide) (by decide)) (x_rgc (x := 1) (k := 1) (by decide)) hI h
set_option maxRecDepth 20000 in
set_option maxHeartbeats 4000000 in
theorem k_X11_bits (l : Launch) (a1 : Int32) (a2 : Int32) (a3 : Int32) (M : St) (L : Nat → Nat → Int64) (hI : Inv INVM M) : XM l yX11_bits cX11_bits 7 none R_X11_bits LAY [.ref 14, .int a1, .int a2, .int a3] (M, L) (P_X11_bits (f_X11_bits a1 a2 a3 M) L) := by
  refine XM.of (by decide) (Nat.le_of_ble_eq_true rfl) LAY_in cl_ok fl_X11_ok kc_X11_ok (fun V C => ?_)
  obtain ⟨r, h⟩ : ∃ r, f_X11_bits a1 a2 a3 M = r := ⟨_, rfl⟩
  rw [h] at C
  change C_X11_bits l r L V at C
  unfold f_X11_bits at h
  show V 0 0 0 [(0, .ref 14), (1, .int a1), (2, .int a2), (3, .int a3)] [] LAY (M, L)
  refine x_run C e_X11_bits_1 e_X11_bits_1_k (pc' := 3) (lv' := [(0, .ref 14), (1, .int a1), (2, .int a2), (3, .int a3)]) (st' := [.int 8, .int a1]) (σ' := (M, L)) rfl ⟨trivial, trivial, trivial⟩ ?_
  refine x_icmp_ge C (show decode cX11_bits 3 = .ok (.if_icmp .ge 7, 3) from by decide +kernel) (tgt := 10) (by decide) (fun c1 => ?_) (fun c1 => ?_)
  · rw [if_pos c1] at h
    have g2 : xrg 8 2147483647 a1 := (x_c_le (x_rgc (x := 8) (k := 8) (by decide)) (x_rgt a1) c1).2
    refine x_run C e_X11_bits_2 e_X11_bits_2_k (pc' := 11) (lv' := [(0, .ref 14), (1, .int a1), (2, .int a2), (3, .int a3)]) (st' := [.int 0]) (σ' := (M, L)) rfl ⟨trivial, trivial⟩ ?_
    exact b_X11_bits_11 r C a1 a2 a3 0 M (x_rgw (x_rgc (x := 0) (k := 0) (by decide)) (lo' := 0) (hi' := 2) (by decide) (by decide)) hI h
  · rw [if_neg c1] at h
    have g3 : xrg (-2147483648) 7 a1 := (x_c_nle (x_rgc (x := 8) (k := 8) (by decide)) (x_rgt a1) c1).2
    refine x_run C e_X11_bits_3 e_X11_bits_3_k (pc' := 7) (lv' := [(0, .ref 14), (1, .int a1), (2, .int a2), (3, .int a3)]) (st' := [.int 2]) (σ' := (M, L)) rfl ⟨trivial, trivial⟩ ?_
    refine x_goto C (show decode cX11_bits 7 = .ok (.goto 4, 3) from by decide +kernel) (tgt := 11) (by decide) ?_
    exact b_X11_bits_11 r C a1 a2 a3 2 M (x_rgw (x_rgc (x := 2) (k := 2) (by decide)) (lo' := 0) (hi' := 2) (by decide) (by decide)) hI h
-- X11_twelve
def e_X11_twelve_1 : List xI := [(0, .iload 4, 2, .null)]
theorem e_X11_twelve_1_k : e_X11_twelve_1.all (fun q => xokB cX11_twelve q && xokL q) = true := by decide +kernel
def e_X11_twelve_2 : List xI := [(5, .iload_n 1, 1, .null), (6, .iconst 3, 1, .int 3), (7, .ishr, 1, .null), (8, .iconst 1, 1, .int 1)]
theorem e_X11_twelve_2_k : e_X11_twelve_2.all (fun q => xokB cX11_twelve q && xokL q) = true := by decide +kernel
def e_X11_twelve_3 : List xI := [(12, .aload_n 0, 1, .null), (13, .iload_n 1, 1, .null), (14, .bipush 7, 2, .int 7), (16, .iand, 1, .null), (17, .iload_n 2, 1, .null), (18, .iload_n 3, 1, .null)]
theorem e_X11_twelve_3_k : e_X11_twelve_3.all (fun q => xokB cX11_twelve q && xokL q) = true := by decide +kernel
def e_X11_twelve_4 : List xI := [(23, .iload 4, 2, .null)]
theorem e_X11_twelve_4_k : e_X11_twelve_4.all (fun q => xokB cX11_twelve q && xokL q) = true := by decide +kernel
def e_X11_twelve_5 : List xI := [(28, .iload_n 3, 1, .null), (29, .iconst 4, 1, .int 4)]
theorem e_X11_twelve_5_k : e_X11_twelve_5.all (fun q => xokB cX11_twelve q && xokL q) = true := by decide +kernel
def e_X11_twelve_6 : List xI := [(58, .aload_n 0, 1, .null), (59, .iload_n 1, 1, .null), (60, .iload_n 3, 1, .null)]
theorem e_X11_twelve_6_k : e_X11_twelve_6.all (fun q => xokB cX11_twelve q && xokL q) = true := by decide +kernel
def e_X11_twelve_7 : List xI := [(71, .iload_n 2, 1, .null)]
theorem e_X11_twelve_7_k : e_X11_twelve_7.all (fun q => xokB cX11_twelve q && xokL q) = true := by decide +kernel
def e_X11_twelve_8 : List xI := [(67, .iconst 1, 1, .int 1)]
theorem e_X11_twelve_8_k : e_X11_twelve_8.all (fun q => xokB cX11_twelve q && xokL q) = true := by decide +kernel
def e_X11_twelve_9 : List xI := [(33, .aload_n 0, 1, .null), (34, .iload_n 1, 1, .null), (35, .iload_n 2, 1, .null), (36, .iload 4, 2, .null)]
theorem e_X11_twelve_9_k : e_X11_twelve_9.all (fun q => xokB cX11_twelve q && xokL q) = true := by decide +kernel
def e_X11_twelve_10 : List xI := [(50, .aload_n 0, 1, .null)]
theorem e_X11_twelve_10_k : e_X11_twelve_10.all (fun q => xokB cX11_twelve q && xokL q) = true := by decide +kernel
def e_X11_twelve_11 : List xI := [(41, .aload_n 0, 1, .null), (42, .getfield 7, 3, .null), (45, .iload_n 3, 1, .null), (46, .iaload, 1, .null)]
theorem e_X11_twelve_11_k : e_X11_twelve_11.all (fun q => xokB cX11_twelve q && xokL q) = true := by decide +kernel
def e_X11_twelve_12 : List xI := [(75, .istore 5, 2, .null), (77, .iload_n 1, 1, .null), (78, .iload_n 3, 1, .null)]
theorem e_X11_twelve_12_k : e_X11_twelve_12.all (fun q => xokB cX11_twelve q && xokL q) = true := by decide +kernel
def e_X11_twelve_13 : List xI := [(181, .aload_n 0, 1, .null), (182, .iload_n 1, 1, .null), (183, .iload_n 2, 1, .null)]
theorem e_X11_twelve_13_k : e_X11_twelve_13.all (fun q => xokB cX11_twelve q && xokL q) = true := by decide +kernel
def e_X11_twelve_14 : List xI := [(187, .istore 6, 2, .null), (189, .iload_n 3, 1, .null), (190, .bipush 6, 2, .int 6)]
theorem e_X11_twelve_14_k : e_X11_twelve_14.all (fun q => xokB cX11_twelve q && xokL q) = true := by decide +kernel
def e_X11_twelve_15 : List xI := [(211, .iload_n 3, 1, .null), (212, .iconst 2, 1, .int 2)]
theorem e_X11_twelve_15_k : e_X11_twelve_15.all (fun q => xokB cX11_twelve q && xokL q) = true := by decide +kernel
def e_X11_twelve_16 : List xI := [(216, .iload_n 3, 1, .null), (217, .iconst 3, 1, .int 3)]
theorem e_X11_twelve_16_k : e_X11_twelve_16.all (fun q => xokB cX11_twelve q && xokL q) = true := by decide +kernel
def e_X11_twelve_17 : List xI := [(249, .iload_n 3, 1, .null)]
theorem e_X11_twelve_17_k : e_X11_twelve_17.all (fun q => xokB cX11_twelve q && xokL q) = true := by decide +kernel
def e_X11_twelve_18 : List xI := [(261, .iload_n 3, 1, .null), (262, .iconst 1, 1, .int 1)]
theorem e_X11_twelve_18_k : e_X11_twelve_18.all (fun q => xokB cX11_twelve q && xokL q) = true := by decide +kernel
def e_X11_twelve_19 : List xI := [(274, .iload 6, 2, .null), (276, .iload 5, 2, .null), (278, .ixor, 1, .null)]
theorem e_X11_twelve_19_k : e_X11_twelve_19.all (fun q => xokB cX11_twelve q && xokL q) = true := by decide +kernel
def e_X11_twelve_20 : List xI := [(266, .iload 6, 2, .null), (268, .iload 5, 2, .null), (270, .iand, 1, .null)]
theorem e_X11_twelve_20_k : e_X11_twelve_20.all (fun q => xokB cX11_twelve q && xokL q) = true := by decide +kernel
def e_X11_twelve_21 : List xI := [(253, .iload 6, 2, .null), (255, .iload 5, 2, .null), (257, .ior, 1, .null)]
theorem e_X11_twelve_21_k : e_X11_twelve_21.all (fun q => xokB cX11_twelve q && xokL q) = true := by decide +kernel
def e_X11_twelve_22 : List xI := [(195, .aload_n 0, 1, .null), (196, .iload_n 2, 1, .null), (197, .iload 5, 2, .null), (199, .iload 6, 2, .null), (201, .iconst 1, 1, .int 1), (202, .iconst 2, 1, .int 2)]
theorem e_X11_twelve_22_k : e_X11_twelve_22.all (fun q => xokB cX11_twelve q && xokL q) = true := by decide +kernel
def e_X11_twelve_23 : List xI := [(206, .istore 6, 2, .null)]
theorem e_X11_twelve_23_k : e_X11_twelve_23.all (fun q => xokB cX11_twelve q && xokL q) = true := by decide +kernel
def e_X11_twelve_24 : List xI := [(85, .iload_n 2, 1, .null)]
theorem e_X11_twelve_24_k : e_X11_twelve_24.all (fun q => xokB cX11_twelve q && xokL q) = true := by decide +kernel
def e_X11_twelve_25 : List xI := [(99, .aload_n 0, 1, .null), (100, .getfield 13, 3, .null)]
theorem e_X11_twelve_25_k : e_X11_twelve_25.all (fun q => xokB cX11_twelve q && xokL q) = true := by decide +kernel
def e_X11_twelve_26 : List xI := [(89, .aload_n 0, 1, .null), (90, .getfield 13, 3, .null), (93, .bipush 31, 2, .int 31), (95, .iand, 1, .null)]
theorem e_X11_twelve_26_k : e_X11_twelve_26.all (fun q => xokB cX11_twelve q && xokL q) = true := by decide +kernel
def e_X11_twelve_27 : List xI := [(221, .aload_n 0, 1, .null), (222, .iload_n 2, 1, .null), (223, .aload_n 0, 1, .null), (224, .iload_n 2, 1, .null), (225, .iload 5, 2, .null), (227, .iload 6, 2, .null), (229, .iload_n 3, 1, .null), (230, .iconst 2, 1, .int 2)]
theorem e_X11_twelve_27_k : e_X11_twelve_27.all (fun q => xokB cX11_twelve q && xokL q) = true := by decide +kernel
def e_X11_twelve_28 : List xI := [(238, .iconst 0, 1, .int 0)]
theorem e_X11_twelve_28_k : e_X11_twelve_28.all (fun q => xokB cX11_twelve q && xokL q) = true := by decide +kernel
def e_X11_twelve_29 : List xI := [(234, .iconst 1, 1, .int 1)]
theorem e_X11_twelve_29_k : e_X11_twelve_29.all (fun q => xokB cX11_twelve q && xokL q) = true := by decide +kernel
def e_X11_twelve_30 : List xI := [(279, .istore 6, 2, .null), (281, .aload_n 0, 1, .null), (282, .iload_n 2, 1, .null), (283, .iload 6, 2, .null)]
theorem e_X11_twelve_30_k : e_X11_twelve_30.all (fun q => xokB cX11_twelve q && xokL q) = true := by decide +kernel
def e_X11_twelve_31 : List xI := [(288, .aload_n 0, 1, .null), (289, .iload_n 2, 1, .null), (290, .iload 6, 2, .null)]
theorem e_X11_twelve_31_k : e_X11_twelve_31.all (fun q => xokB cX11_twelve q && xokL q) = true := by decide +kernel
def e_X11_twelve_32 : List xI := [(103, .istore 6, 2, .null), (105, .iload_n 2, 1, .null)]
theorem e_X11_twelve_32_k : e_X11_twelve_32.all (fun q => xokB cX11_twelve q && xokL q) = true := by decide +kernel
def e_X11_twelve_33 : List xI := [(117, .iload 5, 2, .null)]
theorem e_X11_twelve_33_k : e_X11_twelve_33.all (fun q => xokB cX11_twelve q && xokL q) = true := by decide +kernel
def e_X11_twelve_34 : List xI := [(109, .iload 5, 2, .null), (111, .bipush 31, 2, .int 31), (113, .iand, 1, .null)]
theorem e_X11_twelve_34_k : e_X11_twelve_34.all (fun q => xokB cX11_twelve q && xokL q) = true := by decide +kernel
def e_X11_twelve_35 : List xI := [(239, .iconst 0, 1, .int 0)]
theorem e_X11_twelve_35_k : e_X11_twelve_35.all (fun q => xokB cX11_twelve q && xokL q) = true := by decide +kernel
def e_X11_twelve_36 : List xI := [(119, .istore 7, 2, .null), (121, .iload_n 3, 1, .null)]
theorem e_X11_twelve_36_k : e_X11_twelve_36.all (fun q => xokB cX11_twelve q && xokL q) = true := by decide +kernel
def e_X11_twelve_37 : List xI := [(133, .iload_n 3, 1, .null), (134, .iconst 1, 1, .int 1)]
theorem e_X11_twelve_37_k : e_X11_twelve_37.all (fun q => xokB cX11_twelve q && xokL q) = true := by decide +kernel
def e_X11_twelve_38 : List xI := [(146, .iload 6, 2, .null), (148, .iload 7, 2, .null), (150, .ixor, 1, .null)]
theorem e_X11_twelve_38_k : e_X11_twelve_38.all (fun q => xokB cX11_twelve q && xokL q) = true := by decide +kernel
def e_X11_twelve_39 : List xI := [(138, .iload 6, 2, .null), (140, .iload 7, 2, .null), (142, .iand, 1, .null)]
theorem e_X11_twelve_39_k : e_X11_twelve_39.all (fun q => xokB cX11_twelve q && xokL q) = true := by decide +kernel
def e_X11_twelve_40 : List xI := [(125, .iload 6, 2, .null), (127, .iload 7, 2, .null), (129, .ior, 1, .null)]
theorem e_X11_twelve_40_k : e_X11_twelve_40.all (fun q => xokB cX11_twelve q && xokL q) = true := by decide +kernel
def e_X11_twelve_41 : List xI := [(151, .istore 8, 2, .null), (153, .iload_n 2, 1, .null)]
theorem e_X11_twelve_41_k : e_X11_twelve_41.all (fun q => xokB cX11_twelve q && xokL q) = true := by decide +kernel
def e_X11_twelve_42 : List xI := [(174, .aload_n 0, 1, .null), (175, .iload 8, 2, .null)]
theorem e_X11_twelve_42_k : e_X11_twelve_42.all (fun q => xokB cX11_twelve q && xokL q) = true := by decide +kernel
def e_X11_twelve_43 : List xI := [(157, .aload_n 0, 1, .null), (158, .aload_n 0, 1, .null), (159, .getfield 13, 3, .null), (162, .bipush (-32), 2, .int (-32)), (164, .iand, 1, .null), (165, .iload 8, 2, .null), (167, .ior, 1, .null), (168, .putfield 13, 3, .null)]
theorem e_X11_twelve_43_k : e_X11_twelve_43.all (fun q => xokB cX11_twelve q && xokL q) = true := by decide +kernel
abbrev P_X11_twelve (r : St) (L : Nat → Nat → Int64) : Option Value → xG → Prop := fun v σ' => PoV r L v σ' ∧ Inv INVM r
abbrev R_X11_twelve : Room := { frames := 9, cells := 0, slots := 0, locals := 214 }
abbrev C_X11_twelve (l : Launch) (r : St) (L : Nat → Nat → Int64) (V : XJ) : Prop := XC l yX11_twelve.cls yX11_twelve.name cX11_twelve 9 R_X11_twelve 0 0 fl_X11 kc_X11 LAY.length (xfin none LAY (P_X11_twelve r L)) V
def f_X11_twelve_54 (s0 : Int32) (s1 : Int32) (s2 : Int32) (M : St) : St := (xb (f_X11_bits s2 s1 s0 M) fun q52 => q52)
def f_X11_twelve_33 (x1 : Int32) (x2 : Int32) (x3 : Int32) (x4 : Int32) (M : St) : St := (if x4 = 0 then (xb (f_X11_fetch  M) fun q20 => f_X11_twelve_54 q20.1 x2 x1 q20.2) else f_X11_twelve_54 (M 15 x3.toNatClampNeg) x2 x1 M)
def f_X11_twelve_239 (s0 : Int32) (s1 : Int32) (s2 : Int32) (s3 : Int32) (s5 : Int32) (M : St) : St := (xb (f_X11_sum s3 s2 s1 s0 0 M) fun q66 => (xb (f_X11_store s5 q66.1 q66.2) fun q69 => q69))
def f_X11_twelve_221 (x2 : Int32) (x3 : Int32) (x5 : Int32) (x6 : Int32) (M : St) : St := (if x3 = 2 then f_X11_twelve_239 1 x6 x5 x2 x2 M else f_X11_twelve_239 0 x6 x5 x2 x2 M)
def f_X11_twelve_279 (x2 : Int32) (s0 : Int32) (M : St) : St := (xb (f_X11_store x2 s0 M) fun q58 => (xb (f_X11_test x2 s0 q58) fun q61 => q61))
def f_X11_twelve_151 (x2 : Int32) (s0 : Int32) (M : St) : St := (if x2 = 0 then (xup M 14 2 (((M 14 2) &&& (-32)) ||| s0)) else (xb (f_X11_setStatus s0 M) fun q79 => q79))
def f_X11_twelve_119 (x2 : Int32) (x3 : Int32) (x6 : Int32) (s0 : Int32) (M : St) : St := (if x3 = 0 then f_X11_twelve_151 x2 (x6 ||| s0) M else (if x3 = 1 then f_X11_twelve_151 x2 (x6 &&& s0) M else f_X11_twelve_151 x2 (x6 ^^^ s0) M))
def f_X11_twelve_103 (x2 : Int32) (x3 : Int32) (x5 : Int32) (s0 : Int32) (M : St) : St := (if x2 = 0 then f_X11_twelve_119 x2 x3 s0 (x5 &&& 31) M else f_X11_twelve_119 x2 x3 s0 x5 M)
def f_X11_twelve_72 (x1 : Int32) (x2 : Int32) (x3 : Int32) (s0 : Int32) (M : St) : St := (xb (f_X11_number s0 M) fun q23 => (if (f_X11_isStatus x1 x3) = 0 then (xb (f_X11_loadAt x1 x2 q23.2) fun q31 => (if x3 = 6 then (xb (f_X11_sum x2 q23.1 q31.1 1 2 q31.2) fun q46 => q46.2) else (if x3 = 2 then f_X11_twelve_221 x2 x3 q23.1 q31.1 q31.2 else (if x3 = 3 then f_X11_twelve_221 x2 x3 q23.1 q31.1 q31.2 else (if x3 = 0 then f_X11_twelve_279 x2 (q31.1 ||| q23.1) q31.2 else (if x3 = 1 then f_X11_twelve_279 x2 (q31.1 &&& q23.1) q31.2 else f_X11_twelve_279 x2 (q31.1 ^^^ q23.1) q31.2)))))) else (if x2 = 0 then f_X11_twelve_103 x2 x3 q23.1 ((q23.2 14 2) &&& 31) q23.2 else f_X11_twelve_103 x2 x3 q23.1 (q23.2 14 2) q23.2)))
def f_X11_twelve_23 (x1 : Int32) (x2 : Int32) (x3 : Int32) (x4 : Int32) (M : St) : St := (if x4 = 0 then (if x3 = 4 then f_X11_twelve_33 x1 x2 x3 x4 M else (if (f_X11_isStatus x1 x3) = 0 then f_X11_twelve_72 x1 x2 x3 x2 M else f_X11_twelve_72 x1 x2 x3 1 M)) else f_X11_twelve_33 x1 x2 x3 x4 M)
def f_X11_twelve (a1 : Int32) (a2 : Int32) (a3 : Int32) (a4 : Int32) (M : St) : St := (if a4 = 0 then f_X11_twelve_23 a1 a2 a3 a4 M else (if (a1 >>> ((3 : Int32) &&& 31)) = 1 then (xb (f_X11_peripheral (a1 &&& 7) a2 a3 M) fun q5 => q5) else f_X11_twelve_23 a1 a2 a3 a4 M))
set_option maxRecDepth 20000 in
set_option maxHeartbeats 4000000 in
theorem b_X11_twelve_54 {l : Launch} {L : Nat → Nat → Int64} {V : XJ} (r : St) (C : C_X11_twelve l r L V) (s0 : Int32) (s1 : Int32) (s2 : Int32) (M : St) (ws2 : xrg 0 63 s2) (hI : Inv INVM M) (h : f_X11_twelve_54 s0 s1 s2 M = r) : V 0 0 54 [] [.int s0, .int s1, .int s2, .ref 14] LAY (M, L) := by
  unfold f_X11_twelve_54 at h
  refine x_callV C (k := 14) (ci := 8) (rest := []) (avs := [.int s2, .int s1, .int s0]) (k_X11_bits l s2 s1 s0 M L hI) yoX11_bits ml_X11_263 rfl rfl rfl rfl ⟨Nat.zero_le _, Nat.zero_le _⟩ (show decode cX11_twelve 54 = .ok (.invokevirtual 263, 3) from by decide +kernel) rfl (fun v σ' hPo => ?_)
  obtain ⟨⟨rfl, rfl⟩, hI54⟩ := hPo
  generalize hq52 : f_X11_bits s2 s1 s0 M = q52 at h hI54 ⊢
  have h := xb_eq h
  show V 0 0 57 [] [] LAY (q52, L)
  subst h
  exact x_vret C (show decode cX11_twelve 57 = .ok (.return_, 1) from by decide +kernel) (x_finV ⟨⟨rfl, rfl⟩, hI54⟩) (Nat.le_refl 0) (Nat.le_refl 0)
set_option maxRecDepth 20000 in
set_option maxHeartbeats 4000000 in
theorem b_X11_twelve_33 {l : Launch} {L : Nat → Nat → Int64} {V : XJ} (r : St) (C : C_X11_twelve l r L V) (x1 : Int32) (x2 : Int32) (x3 : Int32) (x4 : Int32) (M : St) (wx1 : xrg 0 63 x1) (wx3 : xrg 0 7 x3) (hI : Inv INVM M) (h : f_X11_twelve_33 x1 x2 x3 x4 M = r) : V 0 0 33 [(0, .ref 14), (1, .int x1), (2, .int x2), (3, .int x3), (4, .int x4)] [] LAY (M, L) := by
  unfold f_X11_twelve_33 at h
  refine x_run C e_X11_twelve_9 e_X11_twelve_9_k (pc' := 38) (lv' := [(0, .ref 14), (1, .int x1), (2, .int x2), (3, .int x3), (4, .int x4)]) (st' := [.int x4, .int x2, .int x1, .ref 14]) (σ' := (M, L)) rfl ⟨trivial, trivial, trivial, trivial, trivial⟩ ?_
  refine x_if_eq C (show decode cX11_twelve 38 = .ok (.ifCond .eq 12, 3) from by decide +kernel) (tgt := 50) (by decide) (fun c18 => ?_) (fun c18 => ?_)
  · rw [if_pos c18] at h
    have g19 : xrg 0 0 x4 := (x_c_eq (x_rgt x4) (x_rgc (x := 0) (k := 0) (by decide)) c18).1
    refine x_run C e_X11_twelve_10 e_X11_twelve_10_k (pc' := 51) (lv' := [(0, .ref 14), (1, .int x1), (2, .int x2), (3, .int x3), (4, .int x4)]) (st' := [.ref 14, .int x2, .int x1, .ref 14]) (σ' := (M, L)) rfl ⟨trivial, trivial⟩ ?_
    refine x_callV C (k := 14) (ci := 8) (rest := [.int x2, .int x1, .ref 14]) (avs := []) (k_X11_fetch l  M L hI) yoX11_fetch ml_X11_103 rfl rfl rfl rfl ⟨Nat.zero_le _, Nat.zero_le _⟩ (show decode cX11_twelve 51 = .ok (.invokevirtual 103, 3) from by decide +kernel) rfl (fun v σ' hPo => ?_)
    obtain ⟨⟨rfl, rfl⟩, g21, hI22⟩ := hPo
    generalize hq20 : f_X11_fetch  M = q20 at h g21 hI22 ⊢
    obtain ⟨r20, M20⟩ := q20
    have h := xb_eq h
    try dsimp only at h g21 hI22
    show V 0 0 54 [(0, .ref 14), (1, .int x1), (2, .int x2), (3, .int x3), (4, .int x4)] [.int r20, .int x2, .int x1, .ref 14] LAY (M20, L)
    refine x_lv C [] rfl ?_
    exact b_X11_twelve_54 r C r20 x2 x1 M20 wx1 hI22 h
  · rw [if_neg c18] at h
    refine x_run C e_X11_twelve_11 e_X11_twelve_11_k (pc' := 47) (lv' := [(0, .ref 14), (1, .int x1), (2, .int x2), (3, .int x3), (4, .int x4)]) (st' := [.int (M 15 x3.toNatClampNeg), .int x2, .int x1, .ref 14]) (σ' := (M, L)) rfl ⟨trivial, trivial, trivial, (x_rgv wx3 (by decide) (by decide)), trivial⟩ ?_
    refine x_goto C (show decode cX11_twelve 47 = .ok (.goto 7, 3) from by decide +kernel) (tgt := 54) (by decide) ?_
    refine x_lv C [] rfl ?_
    exact b_X11_twelve_54 r C (M 15 x3.toNatClampNeg) x2 x1 M wx1 hI h
set_option maxRecDepth 20000 in
set_option maxHeartbeats 4000000 in
theorem b_X11_twelve_239 {l : Launch} {L : Nat → Nat → Int64} {V : XJ} (r : St) (C : C_X11_twelve l r L V) (s0 : Int32) (s1 : Int32) (s2 : Int32) (s3 : Int32) (s5 : Int32) (M : St) (ws0 : xrg 0 1 s0) (hI : Inv INVM M) (h : f_X11_twelve_239 s0 s1 s2 s3 s5 M = r) : V 0 0 239 [] [.int s0, .int s1, .int s2, .int s3, .ref 14, .int s5, .ref 14] LAY (M, L) := by
  unfold f_X11_twelve_239 at h
  refine x_run C e_X11_twelve_35 e_X11_twelve_35_k (pc' := 240) (lv' := []) (st' := [.int 0, .int s0, .int s1, .int s2, .int s3, .ref 14, .int s5, .ref 14]) (σ' := (M, L)) rfl ⟨trivial, trivial⟩ ?_
  refine x_callV C (k := 14) (ci := 8) (rest := [.int s5, .ref 14]) (avs := [.int s3, .int s2, .int s1, .int s0, .int 0]) (k_X11_sum l s3 s2 s1 s0 0 M L hI) yoX11_sum ml_X11_221 rfl rfl rfl rfl ⟨Nat.zero_le _, Nat.zero_le _⟩ (show decode cX11_twelve 240 = .ok (.invokevirtual 221, 3) from by decide +kernel) rfl (fun v σ' hPo => ?_)
  obtain ⟨⟨rfl, rfl⟩, g67, hI68⟩ := hPo
  generalize hq66 : f_X11_sum s3 s2 s1 s0 0 M = q66 at h g67 hI68 ⊢
  obtain ⟨r66, M66⟩ := q66
  have h := xb_eq h
  try dsimp only at h g67 hI68
  show V 0 0 243 [] [.int r66, .int s5, .ref 14] LAY (M66, L)
  refine x_callV C (k := 14) (ci := 8) (rest := []) (avs := [.int s5, .int r66]) (k_X11_store l s5 r66 M66 L hI68) yoX11_store ml_X11_193 rfl rfl rfl rfl ⟨Nat.zero_le _, Nat.zero_le _⟩ (show decode cX11_twelve 243 = .ok (.invokevirtual 193, 3) from by decide +kernel) rfl (fun v σ' hPo => ?_)
  obtain ⟨⟨rfl, rfl⟩, hI71⟩ := hPo
  generalize hq69 : f_X11_store s5 r66 M66 = q69 at h hI71 ⊢
  have h := xb_eq h
  show V 0 0 246 [] [] LAY (q69, L)
  refine x_goto C (show decode cX11_twelve 246 = .ok (.goto 49, 3) from by decide +kernel) (tgt := 295) (by decide) ?_
  subst h
  exact x_vret C (show decode cX11_twelve 295 = .ok (.return_, 1) from by decide +kernel) (x_finV ⟨⟨rfl, rfl⟩, hI71⟩) (Nat.le_refl 0) (Nat.le_refl 0)
set_option maxRecDepth 20000 in
set_option maxHeartbeats 4000000 in
theorem b_X11_twelve_221 {l : Launch} {L : Nat → Nat → Int64} {V : XJ} (r : St) (C : C_X11_twelve l r L V) (x2 : Int32) (x3 : Int32) (x5 : Int32) (x6 : Int32) (M : St) (wx3 : xrg 2 3 x3) (hI : Inv INVM M) (h : f_X11_twelve_221 x2 x3 x5 x6 M = r) : V 0 0 221 [(0, .ref 14), (2, .int x2), (3, .int x3), (5, .int x5), (6, .int x6)] [] LAY (M, L) := by
  unfold f_X11_twelve_221 at h
  refine x_run C e_X11_twelve_27 e_X11_twelve_27_k (pc' := 231) (lv' := [(0, .ref 14), (2, .int x2), (3, .int x3), (5, .int x5), (6, .int x6)]) (st' := [.int 2, .int x3, .int x6, .int x5, .int x2, .ref 14, .int x2, .ref 14]) (σ' := (M, L)) rfl ⟨trivial, trivial, trivial, trivial, trivial, trivial, trivial, trivial, trivial⟩ ?_
  refine x_icmp_ne C (show decode cX11_twelve 231 = .ok (.if_icmp .ne 7, 3) from by decide +kernel) (tgt := 238) (by decide) (fun c55 => ?_) (fun c55 => ?_)
  · rw [if_neg c55] at h
    have g56 : xrg 3 3 x3 := (x_c_ne wx3 (by decide) c55)
    refine x_run C e_X11_twelve_28 e_X11_twelve_28_k (pc' := 239) (lv' := [(0, .ref 14), (2, .int x2), (3, .int x3), (5, .int x5), (6, .int x6)]) (st' := [.int 0, .int x6, .int x5, .int x2, .ref 14, .int x2, .ref 14]) (σ' := (M, L)) rfl ⟨trivial, trivial⟩ ?_
    refine x_lv C [] rfl ?_
    exact b_X11_twelve_239 r C 0 x6 x5 x2 x2 M (x_rgw (x_rgc (x := 0) (k := 0) (by decide)) (lo' := 0) (hi' := 1) (by decide) (by decide)) hI h
  · rw [if_pos c55] at h
    have g57 : xrg 2 2 x3 := (x_c_eq wx3 (x_rgc (x := 2) (k := 2) (by decide)) c55).1
    refine x_run C e_X11_twelve_29 e_X11_twelve_29_k (pc' := 235) (lv' := [(0, .ref 14), (2, .int x2), (3, .int x3), (5, .int x5), (6, .int x6)]) (st' := [.int 1, .int x6, .int x5, .int x2, .ref 14, .int x2, .ref 14]) (σ' := (M, L)) rfl ⟨trivial, trivial⟩ ?_
    refine x_goto C (show decode cX11_twelve 235 = .ok (.goto 4, 3) from by decide +kernel) (tgt := 239) (by decide) ?_
    refine x_lv C [] rfl ?_
    exact b_X11_twelve_239 r C 1 x6 x5 x2 x2 M (x_rgw (x_rgc (x := 1) (k := 1) (by decide)) (lo' := 0) (hi' := 1) (by decide) (by decide)) hI h
set_option maxRecDepth 20000 in
set_option maxHeartbeats 4000000 in
theorem b_X11_twelve_279 {l : Launch} {L : Nat → Nat → Int64} {V : XJ} (r : St) (C : C_X11_twelve l r L V) (x2 : Int32) (s0 : Int32) (M : St) (hI : Inv INVM M) (h : f_X11_twelve_279 x2 s0 M = r) : V 0 0 279 [(0, .ref 14), (2, .int x2)] [.int s0] LAY (M, L) := by
  unfold f_X11_twelve_279 at h
  refine x_run C e_X11_twelve_30 e_X11_twelve_30_k (pc' := 285) (lv' := [(6, .int s0), (0, .ref 14), (2, .int x2)]) (st' := [.int s0, .int x2, .ref 14]) (σ' := (M, L)) rfl ⟨trivial, trivial, trivial, trivial, trivial⟩ ?_
  refine x_callV C (k := 14) (ci := 8) (rest := []) (avs := [.int x2, .int s0]) (k_X11_store l x2 s0 M L hI) yoX11_store ml_X11_193 rfl rfl rfl rfl ⟨Nat.zero_le _, Nat.zero_le _⟩ (show decode cX11_twelve 285 = .ok (.invokevirtual 193, 3) from by decide +kernel) rfl (fun v σ' hPo => ?_)
  obtain ⟨⟨rfl, rfl⟩, hI60⟩ := hPo
  generalize hq58 : f_X11_store x2 s0 M = q58 at h hI60 ⊢
  have h := xb_eq h
  show V 0 0 288 [(6, .int s0), (0, .ref 14), (2, .int x2)] [] LAY (q58, L)
  refine x_run C e_X11_twelve_31 e_X11_twelve_31_k (pc' := 292) (lv' := [(6, .int s0), (0, .ref 14), (2, .int x2)]) (st' := [.int s0, .int x2, .ref 14]) (σ' := (q58, L)) rfl ⟨trivial, trivial, trivial, trivial⟩ ?_
  refine x_callV C (k := 14) (ci := 8) (rest := []) (avs := [.int x2, .int s0]) (k_X11_test l x2 s0 q58 L hI60) yoX11_test ml_X11_196 rfl rfl rfl rfl ⟨Nat.zero_le _, Nat.zero_le _⟩ (show decode cX11_twelve 292 = .ok (.invokevirtual 196, 3) from by decide +kernel) rfl (fun v σ' hPo => ?_)
  obtain ⟨⟨rfl, rfl⟩, hI63⟩ := hPo
  generalize hq61 : f_X11_test x2 s0 q58 = q61 at h hI63 ⊢
  have h := xb_eq h
  show V 0 0 295 [(6, .int s0), (0, .ref 14), (2, .int x2)] [] LAY (q61, L)
  subst h
  exact x_vret C (show decode cX11_twelve 295 = .ok (.return_, 1) from by decide +kernel) (x_finV ⟨⟨rfl, rfl⟩, hI63⟩) (Nat.le_refl 0) (Nat.le_refl 0)
set_option maxRecDepth 20000 in
set_option maxHeartbeats 4000000 in
theorem b_X11_twelve_151 {l : Launch} {L : Nat → Nat → Int64} {V : XJ} (r : St) (C : C_X11_twelve l r L V) (x2 : Int32) (s0 : Int32) (M : St) (hI : Inv INVM M) (h : f_X11_twelve_151 x2 s0 M = r) : V 0 0 151 [(0, .ref 14), (2, .int x2)] [.int s0] LAY (M, L) := by
  unfold f_X11_twelve_151 at h
  refine x_run C e_X11_twelve_41 e_X11_twelve_41_k (pc' := 154) (lv' := [(8, .int s0), (0, .ref 14), (2, .int x2)]) (st' := [.int x2]) (σ' := (M, L)) rfl ⟨trivial, trivial, trivial⟩ ?_
  refine x_if_ne C (show decode cX11_twelve 154 = .ok (.ifCond .ne 20, 3) from by decide +kernel) (tgt := 174) (by decide) (fun c78 => ?_) (fun c78 => ?_)
  · rw [if_neg c78] at h
    refine x_run C e_X11_twelve_42 e_X11_twelve_42_k (pc' := 177) (lv' := [(8, .int s0), (0, .ref 14), (2, .int x2)]) (st' := [.int s0, .ref 14]) (σ' := (M, L)) rfl ⟨trivial, trivial, trivial⟩ ?_
    refine x_callV C (k := 14) (ci := 8) (rest := []) (avs := [.int s0]) (k_X11_setStatus l s0 M L hI) yoX11_setStatus ml_X11_202 rfl rfl rfl rfl ⟨Nat.zero_le _, Nat.zero_le _⟩ (show decode cX11_twelve 177 = .ok (.invokevirtual 202, 3) from by decide +kernel) rfl (fun v σ' hPo => ?_)
    obtain ⟨⟨rfl, rfl⟩, hI81⟩ := hPo
    generalize hq79 : f_X11_setStatus s0 M = q79 at h hI81 ⊢
    have h := xb_eq h
    show V 0 0 180 [(8, .int s0), (0, .ref 14), (2, .int x2)] [] LAY (q79, L)
    subst h
    exact x_vret C (show decode cX11_twelve 180 = .ok (.return_, 1) from by decide +kernel) (x_finV ⟨⟨rfl, rfl⟩, hI81⟩) (Nat.le_refl 0) (Nat.le_refl 0)
  · rw [if_pos c78] at h
    have g82 : xrg 0 0 x2 := (x_c_eq (x_rgt x2) (x_rgc (x := 0) (k := 0) (by decide)) c78).1
    refine x_run C e_X11_twelve_43 e_X11_twelve_43_k (pc' := 171) (lv' := [(8, .int s0), (0, .ref 14), (2, .int x2)]) (st' := []) (σ' := ((xup M 14 2 (((M 14 2) &&& (-32)) ||| s0)), L)) rfl ⟨trivial, trivial, trivial, trivial, trivial, trivial, trivial, trivial, trivial⟩ ?_
    have hI83 : Inv INVM (xup M 14 2 (((M 14 2) &&& (-32)) ||| s0)) := (hI.fld 14 2 (((M 14 2) &&& (-32)) ||| s0) (by decide))
    refine x_goto C (show decode cX11_twelve 171 = .ok (.goto 9, 3) from by decide +kernel) (tgt := 180) (by decide) ?_
    subst h
    exact x_vret C (show decode cX11_twelve 180 = .ok (.return_, 1) from by decide +kernel) (x_finV ⟨⟨rfl, rfl⟩, hI83⟩) (Nat.le_refl 0) (Nat.le_refl 0)
set_option maxRecDepth 20000 in
set_option maxHeartbeats 4000000 in
theorem b_X11_twelve_119 {l : Launch} {L : Nat → Nat → Int64} {V : XJ} (r : St) (C : C_X11_twelve l r L V) (x2 : Int32) (x3 : Int32) (x6 : Int32) (s0 : Int32) (M : St) (wx3 : xrg 0 7 x3) (hI : Inv INVM M) (h : f_X11_twelve_119 x2 x3 x6 s0 M = r) : V 0 0 119 [(0, .ref 14), (2, .int x2), (3, .int x3), (6, .int x6)] [.int s0] LAY (M, L) := by
  unfold f_X11_twelve_119 at h
  refine x_run C e_X11_twelve_36 e_X11_twelve_36_k (pc' := 122) (lv' := [(7, .int s0), (0, .ref 14), (2, .int x2), (3, .int x3), (6, .int x6)]) (st' := [.int x3]) (σ' := (M, L)) rfl ⟨trivial, trivial, trivial⟩ ?_
  refine x_if_ne C (show decode cX11_twelve 122 = .ok (.ifCond .ne 11, 3) from by decide +kernel) (tgt := 133) (by decide) (fun c72 => ?_) (fun c72 => ?_)
  · rw [if_neg c72] at h
    have g73 : xrg 1 7 x3 := (x_c_ne wx3 (by decide) c72)
    refine x_run C e_X11_twelve_37 e_X11_twelve_37_k (pc' := 135) (lv' := [(7, .int s0), (0, .ref 14), (2, .int x2), (3, .int x3), (6, .int x6)]) (st' := [.int 1, .int x3]) (σ' := (M, L)) rfl ⟨trivial, trivial, trivial⟩ ?_
    refine x_icmp_ne C (show decode cX11_twelve 135 = .ok (.if_icmp .ne 11, 3) from by decide +kernel) (tgt := 146) (by decide) (fun c74 => ?_) (fun c74 => ?_)
    · rw [if_neg c74] at h
      have g75 : xrg 2 7 x3 := (x_c_ne g73 (by decide) c74)
      refine x_run C e_X11_twelve_38 e_X11_twelve_38_k (pc' := 151) (lv' := [(7, .int s0), (0, .ref 14), (2, .int x2), (3, .int x3), (6, .int x6)]) (st' := [.int (x6 ^^^ s0)]) (σ' := (M, L)) rfl ⟨trivial, trivial, trivial, trivial⟩ ?_
      refine x_lv C [1, 2] rfl ?_
      exact b_X11_twelve_151 r C x2 (x6 ^^^ s0) M hI h
    · rw [if_pos c74] at h
      have g76 : xrg 1 1 x3 := (x_c_eq g73 (x_rgc (x := 1) (k := 1) (by decide)) c74).1
      refine x_run C e_X11_twelve_39 e_X11_twelve_39_k (pc' := 143) (lv' := [(7, .int s0), (0, .ref 14), (2, .int x2), (3, .int x3), (6, .int x6)]) (st' := [.int (x6 &&& s0)]) (σ' := (M, L)) rfl ⟨trivial, trivial, trivial, trivial⟩ ?_
      refine x_goto C (show decode cX11_twelve 143 = .ok (.goto 8, 3) from by decide +kernel) (tgt := 151) (by decide) ?_
      refine x_lv C [1, 2] rfl ?_
      exact b_X11_twelve_151 r C x2 (x6 &&& s0) M hI h
  · rw [if_pos c72] at h
    have g77 : xrg 0 0 x3 := (x_c_eq wx3 (x_rgc (x := 0) (k := 0) (by decide)) c72).1
    refine x_run C e_X11_twelve_40 e_X11_twelve_40_k (pc' := 130) (lv' := [(7, .int s0), (0, .ref 14), (2, .int x2), (3, .int x3), (6, .int x6)]) (st' := [.int (x6 ||| s0)]) (σ' := (M, L)) rfl ⟨trivial, trivial, trivial, trivial⟩ ?_
    refine x_goto C (show decode cX11_twelve 130 = .ok (.goto 21, 3) from by decide +kernel) (tgt := 151) (by decide) ?_
    refine x_lv C [1, 2] rfl ?_
    exact b_X11_twelve_151 r C x2 (x6 ||| s0) M hI h
set_option maxRecDepth 20000 in
set_option maxHeartbeats 4000000 in
theorem b_X11_twelve_103 {l : Launch} {L : Nat → Nat → Int64} {V : XJ} (r : St) (C : C_X11_twelve l r L V) (x2 : Int32) (x3 : Int32) (x5 : Int32) (s0 : Int32) (M : St) (wx3 : xrg 0 7 x3) (hI : Inv INVM M) (h : f_X11_twelve_103 x2 x3 x5 s0 M = r) : V 0 0 103 [(0, .ref 14), (2, .int x2), (3, .int x3), (5, .int x5)] [.int s0] LAY (M, L) := by
  unfold f_X11_twelve_103 at h
  refine x_run C e_X11_twelve_32 e_X11_twelve_32_k (pc' := 106) (lv' := [(6, .int s0), (0, .ref 14), (2, .int x2), (3, .int x3), (5, .int x5)]) (st' := [.int x2]) (σ' := (M, L)) rfl ⟨trivial, trivial, trivial⟩ ?_
  refine x_if_ne C (show decode cX11_twelve 106 = .ok (.ifCond .ne 11, 3) from by decide +kernel) (tgt := 117) (by decide) (fun c64 => ?_) (fun c64 => ?_)
  · rw [if_neg c64] at h
    refine x_run C e_X11_twelve_33 e_X11_twelve_33_k (pc' := 119) (lv' := [(6, .int s0), (0, .ref 14), (2, .int x2), (3, .int x3), (5, .int x5)]) (st' := [.int x5]) (σ' := (M, L)) rfl ⟨trivial, trivial⟩ ?_
    refine x_lv C [1, 2, 3, 0] rfl ?_
    exact b_X11_twelve_119 r C x2 x3 s0 x5 M wx3 hI h
  · rw [if_pos c64] at h
    have g65 : xrg 0 0 x2 := (x_c_eq (x_rgt x2) (x_rgc (x := 0) (k := 0) (by decide)) c64).1
    refine x_run C e_X11_twelve_34 e_X11_twelve_34_k (pc' := 114) (lv' := [(6, .int s0), (0, .ref 14), (2, .int x2), (3, .int x3), (5, .int x5)]) (st' := [.int (x5 &&& 31)]) (σ' := (M, L)) rfl ⟨trivial, trivial, trivial, trivial⟩ ?_
    refine x_goto C (show decode cX11_twelve 114 = .ok (.goto 5, 3) from by decide +kernel) (tgt := 119) (by decide) ?_
    refine x_lv C [1, 2, 3, 0] rfl ?_
    exact b_X11_twelve_119 r C x2 x3 s0 (x5 &&& 31) M wx3 hI h
set_option maxRecDepth 20000 in
set_option maxHeartbeats 4000000 in
theorem b_X11_twelve_72 {l : Launch} {L : Nat → Nat → Int64} {V : XJ} (r : St) (C : C_X11_twelve l r L V) (x1 : Int32) (x2 : Int32) (x3 : Int32) (s0 : Int32) (M : St) (wx1 : xrg 0 63 x1) (wx3 : xrg 0 7 x3) (hI : Inv INVM M) (h : f_X11_twelve_72 x1 x2 x3 s0 M = r) : V 0 0 72 [(0, .ref 14), (1, .int x1), (2, .int x2), (3, .int x3)] [.int s0, .ref 14] LAY (M, L) := by
  unfold f_X11_twelve_72 at h
  refine x_callV C (k := 14) (ci := 8) (rest := []) (avs := [.int s0]) (k_X11_number l s0 M L hI) yoX11_number ml_X11_119 rfl rfl rfl rfl ⟨Nat.zero_le _, Nat.zero_le _⟩ (show decode cX11_twelve 72 = .ok (.invokevirtual 119, 3) from by decide +kernel) rfl (fun v σ' hPo => ?_)
  obtain ⟨⟨rfl, rfl⟩, g24, hI25⟩ := hPo
  generalize hq23 : f_X11_number s0 M = q23 at h g24 hI25 ⊢
  obtain ⟨r23, M23⟩ := q23
  have h := xb_eq h
  try dsimp only at h g24 hI25
  show V 0 0 75 [(0, .ref 14), (1, .int x1), (2, .int x2), (3, .int x3)] [.int r23] LAY (M23, L)
  refine x_run C e_X11_twelve_12 e_X11_twelve_12_k (pc' := 79) (lv' := [(5, .int r23), (0, .ref 14), (1, .int x1), (2, .int x2), (3, .int x3)]) (st' := [.int x3, .int x1]) (σ' := (M23, L)) rfl ⟨trivial, trivial, trivial, trivial⟩ ?_
  refine x_callS C (rest := []) (avs := [.int x1, .int x3]) (k_X11_isStatus l x1 x3 M23 L) yoX11_isStatus ml_X11_153 rfl ⟨Nat.zero_le _, Nat.zero_le _⟩ (show decode cX11_twelve 79 = .ok (.invokestatic 153, 3) from by decide +kernel) rfl (fun v σ' hPo => ?_)
  obtain ⟨⟨rfl, rfl⟩, g27, -⟩ := hPo
  show V 0 0 82 [(5, .int r23), (0, .ref 14), (1, .int x1), (2, .int x2), (3, .int x3)] [.int (f_X11_isStatus x1 x3)] LAY (M23, L)
  refine x_if_eq C (show decode cX11_twelve 82 = .ok (.ifCond .eq 99, 3) from by decide +kernel) (tgt := 181) (by decide) (fun c29 => ?_) (fun c29 => ?_)
  · rw [if_pos c29] at h
    have g30 : xrg 0 0 (f_X11_isStatus x1 x3) := (x_c_eq g27 (x_rgc (x := 0) (k := 0) (by decide)) c29).1
    refine x_run C e_X11_twelve_13 e_X11_twelve_13_k (pc' := 184) (lv' := [(5, .int r23), (0, .ref 14), (1, .int x1), (2, .int x2), (3, .int x3)]) (st' := [.int x2, .int x1, .ref 14]) (σ' := (M23, L)) rfl ⟨trivial, trivial, trivial, trivial⟩ ?_
    refine x_callV C (k := 14) (ci := 8) (rest := []) (avs := [.int x1, .int x2]) (k_X11_loadAt l x1 x2 M23 L hI25) yoX11_loadAt ml_X11_190 rfl rfl rfl rfl ⟨Nat.zero_le _, Nat.zero_le _⟩ (show decode cX11_twelve 184 = .ok (.invokevirtual 190, 3) from by decide +kernel) rfl (fun v σ' hPo => ?_)
    obtain ⟨⟨rfl, rfl⟩, g32, hI33⟩ := hPo
    generalize hq31 : f_X11_loadAt x1 x2 M23 = q31 at h g32 hI33 ⊢
    obtain ⟨r31, M31⟩ := q31
    have h := xb_eq h
    try dsimp only at h g32 hI33
    show V 0 0 187 [(5, .int r23), (0, .ref 14), (1, .int x1), (2, .int x2), (3, .int x3)] [.int r31] LAY (M31, L)
    refine x_run C e_X11_twelve_14 e_X11_twelve_14_k (pc' := 192) (lv' := [(6, .int r31), (5, .int r23), (0, .ref 14), (1, .int x1), (2, .int x2), (3, .int x3)]) (st' := [.int 6, .int x3]) (σ' := (M31, L)) rfl ⟨trivial, trivial, trivial, trivial⟩ ?_
    refine x_icmp_ne C (show decode cX11_twelve 192 = .ok (.if_icmp .ne 19, 3) from by decide +kernel) (tgt := 211) (by decide) (fun c34 => ?_) (fun c34 => ?_)
    · rw [if_neg c34] at h
      refine x_run C e_X11_twelve_15 e_X11_twelve_15_k (pc' := 213) (lv' := [(6, .int r31), (5, .int r23), (0, .ref 14), (1, .int x1), (2, .int x2), (3, .int x3)]) (st' := [.int 2, .int x3]) (σ' := (M31, L)) rfl ⟨trivial, trivial, trivial⟩ ?_
      refine x_icmp_eq C (show decode cX11_twelve 213 = .ok (.if_icmp .eq 8, 3) from by decide +kernel) (tgt := 221) (by decide) (fun c35 => ?_) (fun c35 => ?_)
      · rw [if_pos c35] at h
        have g36 : xrg 2 2 x3 := (x_c_eq wx3 (x_rgc (x := 2) (k := 2) (by decide)) c35).1
        refine x_lv C [2, 4, 5, 1, 0] rfl ?_
        exact b_X11_twelve_221 r C x2 x3 r23 r31 M31 (x_rgw g36 (lo' := 2) (hi' := 3) (by decide) (by decide)) hI33 h
      · rw [if_neg c35] at h
        refine x_run C e_X11_twelve_16 e_X11_twelve_16_k (pc' := 218) (lv' := [(6, .int r31), (5, .int r23), (0, .ref 14), (1, .int x1), (2, .int x2), (3, .int x3)]) (st' := [.int 3, .int x3]) (σ' := (M31, L)) rfl ⟨trivial, trivial, trivial⟩ ?_
        refine x_icmp_ne C (show decode cX11_twelve 218 = .ok (.if_icmp .ne 31, 3) from by decide +kernel) (tgt := 249) (by decide) (fun c37 => ?_) (fun c37 => ?_)
        · rw [if_neg c37] at h
          refine x_run C e_X11_twelve_17 e_X11_twelve_17_k (pc' := 250) (lv' := [(6, .int r31), (5, .int r23), (0, .ref 14), (1, .int x1), (2, .int x2), (3, .int x3)]) (st' := [.int x3]) (σ' := (M31, L)) rfl ⟨trivial, trivial⟩ ?_
          refine x_if_ne C (show decode cX11_twelve 250 = .ok (.ifCond .ne 11, 3) from by decide +kernel) (tgt := 261) (by decide) (fun c38 => ?_) (fun c38 => ?_)
          · rw [if_neg c38] at h
            have g39 : xrg 1 7 x3 := (x_c_ne wx3 (by decide) c38)
            refine x_run C e_X11_twelve_18 e_X11_twelve_18_k (pc' := 263) (lv' := [(6, .int r31), (5, .int r23), (0, .ref 14), (1, .int x1), (2, .int x2), (3, .int x3)]) (st' := [.int 1, .int x3]) (σ' := (M31, L)) rfl ⟨trivial, trivial, trivial⟩ ?_
            refine x_icmp_ne C (show decode cX11_twelve 263 = .ok (.if_icmp .ne 11, 3) from by decide +kernel) (tgt := 274) (by decide) (fun c40 => ?_) (fun c40 => ?_)
            · rw [if_neg c40] at h
              have g41 : xrg 2 7 x3 := (x_c_ne g39 (by decide) c40)
              refine x_run C e_X11_twelve_19 e_X11_twelve_19_k (pc' := 279) (lv' := [(6, .int r31), (5, .int r23), (0, .ref 14), (1, .int x1), (2, .int x2), (3, .int x3)]) (st' := [.int (r31 ^^^ r23)]) (σ' := (M31, L)) rfl ⟨trivial, trivial, trivial, trivial⟩ ?_
              refine x_lv C [2, 4] rfl ?_
              exact b_X11_twelve_279 r C x2 (r31 ^^^ r23) M31 hI33 h
            · rw [if_pos c40] at h
              have g42 : xrg 1 1 x3 := (x_c_eq g39 (x_rgc (x := 1) (k := 1) (by decide)) c40).1
              refine x_run C e_X11_twelve_20 e_X11_twelve_20_k (pc' := 271) (lv' := [(6, .int r31), (5, .int r23), (0, .ref 14), (1, .int x1), (2, .int x2), (3, .int x3)]) (st' := [.int (r31 &&& r23)]) (σ' := (M31, L)) rfl ⟨trivial, trivial, trivial, trivial⟩ ?_
              refine x_goto C (show decode cX11_twelve 271 = .ok (.goto 8, 3) from by decide +kernel) (tgt := 279) (by decide) ?_
              refine x_lv C [2, 4] rfl ?_
              exact b_X11_twelve_279 r C x2 (r31 &&& r23) M31 hI33 h
          · rw [if_pos c38] at h
            have g43 : xrg 0 0 x3 := (x_c_eq wx3 (x_rgc (x := 0) (k := 0) (by decide)) c38).1
            refine x_run C e_X11_twelve_21 e_X11_twelve_21_k (pc' := 258) (lv' := [(6, .int r31), (5, .int r23), (0, .ref 14), (1, .int x1), (2, .int x2), (3, .int x3)]) (st' := [.int (r31 ||| r23)]) (σ' := (M31, L)) rfl ⟨trivial, trivial, trivial, trivial⟩ ?_
            refine x_goto C (show decode cX11_twelve 258 = .ok (.goto 21, 3) from by decide +kernel) (tgt := 279) (by decide) ?_
            refine x_lv C [2, 4] rfl ?_
            exact b_X11_twelve_279 r C x2 (r31 ||| r23) M31 hI33 h
        · rw [if_pos c37] at h
          have g44 : xrg 3 3 x3 := (x_c_eq wx3 (x_rgc (x := 3) (k := 3) (by decide)) c37).1
          refine x_lv C [2, 4, 5, 1, 0] rfl ?_
          exact b_X11_twelve_221 r C x2 x3 r23 r31 M31 (x_rgw g44 (lo' := 2) (hi' := 3) (by decide) (by decide)) hI33 h
    · rw [if_pos c34] at h
      have g45 : xrg 6 6 x3 := (x_c_eq wx3 (x_rgc (x := 6) (k := 6) (by decide)) c34).1
      refine x_run C e_X11_twelve_22 e_X11_twelve_22_k (pc' := 203) (lv' := [(6, .int r31), (5, .int r23), (0, .ref 14), (1, .int x1), (2, .int x2), (3, .int x3)]) (st' := [.int 2, .int 1, .int r31, .int r23, .int x2, .ref 14]) (σ' := (M31, L)) rfl ⟨trivial, trivial, trivial, trivial, trivial, trivial, trivial⟩ ?_
      refine x_callV C (k := 14) (ci := 8) (rest := []) (avs := [.int x2, .int r23, .int r31, .int 1, .int 2]) (k_X11_sum l x2 r23 r31 1 2 M31 L hI33) yoX11_sum ml_X11_221 rfl rfl rfl rfl ⟨Nat.zero_le _, Nat.zero_le _⟩ (show decode cX11_twelve 203 = .ok (.invokevirtual 221, 3) from by decide +kernel) rfl (fun v σ' hPo => ?_)
      obtain ⟨⟨rfl, rfl⟩, g47, hI48⟩ := hPo
      generalize hq46 : f_X11_sum x2 r23 r31 1 2 M31 = q46 at h g47 hI48 ⊢
      obtain ⟨r46, M46⟩ := q46
      have h := xb_eq h
      try dsimp only at h g47 hI48
      show V 0 0 206 [(6, .int r31), (5, .int r23), (0, .ref 14), (1, .int x1), (2, .int x2), (3, .int x3)] [.int r46] LAY (M46, L)
      refine x_run C e_X11_twelve_23 e_X11_twelve_23_k (pc' := 208) (lv' := [(6, .int r46), (5, .int r23), (0, .ref 14), (1, .int x1), (2, .int x2), (3, .int x3)]) (st' := []) (σ' := (M46, L)) rfl ⟨trivial, trivial⟩ ?_
      refine x_goto C (show decode cX11_twelve 208 = .ok (.goto 87, 3) from by decide +kernel) (tgt := 295) (by decide) ?_
      subst h
      exact x_vret C (show decode cX11_twelve 295 = .ok (.return_, 1) from by decide +kernel) (x_finV ⟨⟨rfl, rfl⟩, hI48⟩) (Nat.le_refl 0) (Nat.le_refl 0)
  · rw [if_neg c29] at h
    have g49 : xrg 1 1 (f_X11_isStatus x1 x3) := (x_c_ne g27 (by decide) c29)
    refine x_run C e_X11_twelve_24 e_X11_twelve_24_k (pc' := 86) (lv' := [(5, .int r23), (0, .ref 14), (1, .int x1), (2, .int x2), (3, .int x3)]) (st' := [.int x2]) (σ' := (M23, L)) rfl ⟨trivial, trivial⟩ ?_
    refine x_if_ne C (show decode cX11_twelve 86 = .ok (.ifCond .ne 13, 3) from by decide +kernel) (tgt := 99) (by decide) (fun c50 => ?_) (fun c50 => ?_)
    · rw [if_neg c50] at h
      refine x_run C e_X11_twelve_25 e_X11_twelve_25_k (pc' := 103) (lv' := [(5, .int r23), (0, .ref 14), (1, .int x1), (2, .int x2), (3, .int x3)]) (st' := [.int (M23 14 2)]) (σ' := (M23, L)) rfl ⟨trivial, trivial, trivial⟩ ?_
      refine x_lv C [1, 3, 4, 0] rfl ?_
      exact b_X11_twelve_103 r C x2 x3 r23 (M23 14 2) M23 wx3 hI25 h
    · rw [if_pos c50] at h
      have g51 : xrg 0 0 x2 := (x_c_eq (x_rgt x2) (x_rgc (x := 0) (k := 0) (by decide)) c50).1
      refine x_run C e_X11_twelve_26 e_X11_twelve_26_k (pc' := 96) (lv' := [(5, .int r23), (0, .ref 14), (1, .int x1), (2, .int x2), (3, .int x3)]) (st' := [.int ((M23 14 2) &&& 31)]) (σ' := (M23, L)) rfl ⟨trivial, trivial, trivial, trivial, trivial⟩ ?_
      refine x_goto C (show decode cX11_twelve 96 = .ok (.goto 7, 3) from by decide +kernel) (tgt := 103) (by decide) ?_
      refine x_lv C [1, 3, 4, 0] rfl ?_
      exact b_X11_twelve_103 r C x2 x3 r23 ((M23 14 2) &&& 31) M23 wx3 hI25 h
set_option maxRecDepth 20000 in
set_option maxHeartbeats 4000000 in
theorem b_X11_twelve_23 {l : Launch} {L : Nat → Nat → Int64} {V : XJ} (r : St) (C : C_X11_twelve l r L V) (x1 : Int32) (x2 : Int32) (x3 : Int32) (x4 : Int32) (M : St) (wx1 : xrg 0 63 x1) (wx3 : xrg 0 7 x3) (hI : Inv INVM M) (h : f_X11_twelve_23 x1 x2 x3 x4 M = r) : V 0 0 23 [(0, .ref 14), (1, .int x1), (2, .int x2), (3, .int x3), (4, .int x4)] [] LAY (M, L) := by
  unfold f_X11_twelve_23 at h
  refine x_run C e_X11_twelve_4 e_X11_twelve_4_k (pc' := 25) (lv' := [(0, .ref 14), (1, .int x1), (2, .int x2), (3, .int x3), (4, .int x4)]) (st' := [.int x4]) (σ' := (M, L)) rfl ⟨trivial, trivial⟩ ?_
  refine x_if_ne C (show decode cX11_twelve 25 = .ok (.ifCond .ne 8, 3) from by decide +kernel) (tgt := 33) (by decide) (fun c8 => ?_) (fun c8 => ?_)
  · rw [if_neg c8] at h
    exact b_X11_twelve_33 r C x1 x2 x3 x4 M wx1 wx3 hI h
  · rw [if_pos c8] at h
    have g9 : xrg 0 0 x4 := (x_c_eq (x_rgt x4) (x_rgc (x := 0) (k := 0) (by decide)) c8).1
    refine x_run C e_X11_twelve_5 e_X11_twelve_5_k (pc' := 30) (lv' := [(0, .ref 14), (1, .int x1), (2, .int x2), (3, .int x3), (4, .int x4)]) (st' := [.int 4, .int x3]) (σ' := (M, L)) rfl ⟨trivial, trivial, trivial⟩ ?_
    refine x_icmp_ne C (show decode cX11_twelve 30 = .ok (.if_icmp .ne 28, 3) from by decide +kernel) (tgt := 58) (by decide) (fun c10 => ?_) (fun c10 => ?_)
    · rw [if_neg c10] at h
      refine x_run C e_X11_twelve_6 e_X11_twelve_6_k (pc' := 61) (lv' := [(0, .ref 14), (1, .int x1), (2, .int x2), (3, .int x3), (4, .int x4)]) (st' := [.int x3, .int x1, .ref 14]) (σ' := (M, L)) rfl ⟨trivial, trivial, trivial, trivial⟩ ?_
      refine x_callS C (rest := [.ref 14]) (avs := [.int x1, .int x3]) (k_X11_isStatus l x1 x3 M L) yoX11_isStatus ml_X11_153 rfl ⟨Nat.zero_le _, Nat.zero_le _⟩ (show decode cX11_twelve 61 = .ok (.invokestatic 153, 3) from by decide +kernel) rfl (fun v σ' hPo => ?_)
      obtain ⟨⟨rfl, rfl⟩, g12, -⟩ := hPo
      show V 0 0 64 [(0, .ref 14), (1, .int x1), (2, .int x2), (3, .int x3), (4, .int x4)] [.int (f_X11_isStatus x1 x3), .ref 14] LAY (M, L)
      refine x_if_eq C (show decode cX11_twelve 64 = .ok (.ifCond .eq 7, 3) from by decide +kernel) (tgt := 71) (by decide) (fun c14 => ?_) (fun c14 => ?_)
      · rw [if_pos c14] at h
        have g15 : xrg 0 0 (f_X11_isStatus x1 x3) := (x_c_eq g12 (x_rgc (x := 0) (k := 0) (by decide)) c14).1
        refine x_run C e_X11_twelve_7 e_X11_twelve_7_k (pc' := 72) (lv' := [(0, .ref 14), (1, .int x1), (2, .int x2), (3, .int x3), (4, .int x4)]) (st' := [.int x2, .ref 14]) (σ' := (M, L)) rfl ⟨trivial, trivial⟩ ?_
        refine x_lv C [0, 1, 2, 3] rfl ?_
        exact b_X11_twelve_72 r C x1 x2 x3 x2 M wx1 wx3 hI h
      · rw [if_neg c14] at h
        have g16 : xrg 1 1 (f_X11_isStatus x1 x3) := (x_c_ne g12 (by decide) c14)
        refine x_run C e_X11_twelve_8 e_X11_twelve_8_k (pc' := 68) (lv' := [(0, .ref 14), (1, .int x1), (2, .int x2), (3, .int x3), (4, .int x4)]) (st' := [.int 1, .ref 14]) (σ' := (M, L)) rfl ⟨trivial, trivial⟩ ?_
        refine x_goto C (show decode cX11_twelve 68 = .ok (.goto 4, 3) from by decide +kernel) (tgt := 72) (by decide) ?_
        refine x_lv C [0, 1, 2, 3] rfl ?_
        exact b_X11_twelve_72 r C x1 x2 x3 1 M wx1 wx3 hI h
    · rw [if_pos c10] at h
      have g17 : xrg 4 4 x3 := (x_c_eq wx3 (x_rgc (x := 4) (k := 4) (by decide)) c10).1
      exact b_X11_twelve_33 r C x1 x2 x3 x4 M wx1 (x_rgw g17 (lo' := 0) (hi' := 7) (by decide) (by decide)) hI h
set_option maxRecDepth 20000 in
set_option maxHeartbeats 4000000 in
theorem k_X11_twelve (l : Launch) (a1 : Int32) (a2 : Int32) (a3 : Int32) (a4 : Int32) (M : St) (L : Nat → Nat → Int64) (hp1 : xrg 0 63 a1) (hp3 : xrg 0 7 a3) (hI : Inv INVM M) : XM l yX11_twelve cX11_twelve 9 none R_X11_twelve LAY [.ref 14, .int a1, .int a2, .int a3, .int a4] (M, L) (P_X11_twelve (f_X11_twelve a1 a2 a3 a4 M) L) := by
  refine XM.of (by decide) (Nat.le_of_ble_eq_true rfl) LAY_in cl_ok fl_X11_ok kc_X11_ok (fun V C => ?_)
  obtain ⟨r, h⟩ : ∃ r, f_X11_twelve a1 a2 a3 a4 M = r := ⟨_, rfl⟩
  rw [h] at C
  change C_X11_twelve l r L V at C
  unfold f_X11_twelve at h
  show V 0 0 0 [(0, .ref 14), (1, .int a1), (2, .int a2), (3, .int a3), (4, .int a4)] [] LAY (M, L)
  refine x_run C e_X11_twelve_1 e_X11_twelve_1_k (pc' := 2) (lv' := [(0, .ref 14), (1, .int a1), (2, .int a2), (3, .int a3), (4, .int a4)]) (st' := [.int a4]) (σ' := (M, L)) rfl ⟨trivial, trivial⟩ ?_
  refine x_if_eq C (show decode cX11_twelve 2 = .ok (.ifCond .eq 21, 3) from by decide +kernel) (tgt := 23) (by decide) (fun c1 => ?_) (fun c1 => ?_)
  · rw [if_pos c1] at h
    have g2 : xrg 0 0 a4 := (x_c_eq (x_rgt a4) (x_rgc (x := 0) (k := 0) (by decide)) c1).1
    exact b_X11_twelve_23 r C a1 a2 a3 a4 M hp1 hp3 hI h
  · rw [if_neg c1] at h
    refine x_run C e_X11_twelve_2 e_X11_twelve_2_k (pc' := 9) (lv' := [(0, .ref 14), (1, .int a1), (2, .int a2), (3, .int a3), (4, .int a4)]) (st' := [.int 1, .int (a1 >>> ((3 : Int32) &&& 31))]) (σ' := (M, L)) rfl ⟨trivial, trivial, trivial, trivial, trivial⟩ ?_
    refine x_icmp_ne C (show decode cX11_twelve 9 = .ok (.if_icmp .ne 14, 3) from by decide +kernel) (tgt := 23) (by decide) (fun c3 => ?_) (fun c3 => ?_)
    · rw [if_neg c3] at h
      exact b_X11_twelve_23 r C a1 a2 a3 a4 M hp1 hp3 hI h
    · rw [if_pos c3] at h
      have g4 : xrg 1 1 (a1 >>> ((3 : Int32) &&& 31)) := (x_c_eq (x_rgt (a1 >>> ((3 : Int32) &&& 31))) (x_rgc (x := 1) (k := 1) (by decide)) c3).1
      refine x_run C e_X11_twelve_3 e_X11_twelve_3_k (pc' := 19) (lv' := [(0, .ref 14), (1, .int a1), (2, .int a2), (3, .int a3), (4, .int a4)]) (st' := [.int a3, .int a2, .int (a1 &&& 7), .ref 14]) (σ' := (M, L)) rfl ⟨trivial, trivial, trivial, trivial, trivial, trivial, trivial⟩ ?_
      refine x_callV C (k := 14) (ci := 8) (rest := []) (avs := [.int (a1 &&& 7), .int a2, .int a3]) (k_X11_peripheral l (a1 &&& 7) a2 a3 M L (x_rg_and (x := a1) (m := 7) (k := 7) (by decide) (by decide)) hp3 hI) yoX11_peripheral ml_X11_260 rfl rfl rfl rfl ⟨Nat.zero_le _, Nat.zero_le _⟩ (show decode cX11_twelve 19 = .ok (.invokevirtual 260, 3) from by decide +kernel) rfl (fun v σ' hPo => ?_)
      obtain ⟨⟨rfl, rfl⟩, hI7⟩ := hPo
      generalize hq5 : f_X11_peripheral (a1 &&& 7) a2 a3 M = q5 at h hI7 ⊢
      have h := xb_eq h
      show V 0 0 22 [(0, .ref 14), (1, .int a1), (2, .int a2), (3, .int a3), (4, .int a4)] [] LAY (q5, L)
      subst h
      exact x_vret C (show decode cX11_twelve 22 = .ok (.return_, 1) from by decide +kernel) (x_finV ⟨⟨rfl, rfl⟩, hI7⟩) (Nat.le_refl 0) (Nat.le_refl 0)
-- X11_shifted
def e_X11_shifted_1 : List xI := [(0, .iload_n 1, 1, .null), (1, .istore 6, 2, .null), (3, .iload_n 2, 1, .null)]
theorem e_X11_shifted_1_k : e_X11_shifted_1.all (fun q => xokB cX11_shifted q && xokL q) = true := by decide +kernel
def e_X11_shifted_2 : List xI := [(13, .iload_n 2, 1, .null), (14, .iconst 1, 1, .int 1)]
theorem e_X11_shifted_2_k : e_X11_shifted_2.all (fun q => xokB cX11_shifted q && xokL q) = true := by decide +kernel
def e_X11_shifted_3 : List xI := [(24, .ldc_w 270, 3, .null)]
theorem e_X11_shifted_3_k : e_X11_shifted_3.all (fun q => xokB cX11_shifted q && xokL q) = true := by decide +kernel
def e_X11_shifted_4 : List xI := [(18, .ldc_w 269, 3, .null)]
theorem e_X11_shifted_4_k : e_X11_shifted_4.all (fun q => xokB cX11_shifted q && xokL q) = true := by decide +kernel
def e_X11_shifted_5 : List xI := [(7, .sipush 128, 3, .int 128)]
theorem e_X11_shifted_5_k : e_X11_shifted_5.all (fun q => xokB cX11_shifted q && xokL q) = true := by decide +kernel
def e_X11_shifted_6 : List xI := [(27, .istore 7, 2, .null), (29, .iload 5, 2, .null)]
theorem e_X11_shifted_6_k : e_X11_shifted_6.all (fun q => xokB cX11_shifted q && xokL q) = true := by decide +kernel
def e_X11_shifted_7 : List xI := [(34, .iload_n 3, 1, .null), (35, .iconst 2, 1, .int 2)]
theorem e_X11_shifted_7_k : e_X11_shifted_7.all (fun q => xokB cX11_shifted q && xokL q) = true := by decide +kernel
def e_X11_shifted_8 : List xI := [(39, .aload_n 0, 1, .null), (40, .bipush 16, 2, .int 16)]
theorem e_X11_shifted_8_k : e_X11_shifted_8.all (fun q => xokB cX11_shifted q && xokL q) = true := by decide +kernel
def e_X11_shifted_9 : List xI := [(48, .iconst 1, 1, .int 1)]
theorem e_X11_shifted_9_k : e_X11_shifted_9.all (fun q => xokB cX11_shifted q && xokL q) = true := by decide +kernel
def e_X11_shifted_10 : List xI := [(52, .iconst 0, 1, .int 0)]
theorem e_X11_shifted_10_k : e_X11_shifted_10.all (fun q => xokB cX11_shifted q && xokL q) = true := by decide +kernel
def e_X11_shifted_11 : List xI := [(53, .istore 8, 2, .null), (55, .iconst 0, 1, .int 0), (56, .istore 9, 2, .null), (58, .iconst 0, 1, .int 0), (59, .istore 10, 2, .null)]
theorem e_X11_shifted_11_k : e_X11_shifted_11.all (fun q => xokB cX11_shifted q && xokL q) = true := by decide +kernel
def e_X11_shifted_12 : List xI := [(61, .iload 10, 2, .null), (63, .iload 5, 2, .null)]
theorem e_X11_shifted_12_k : e_X11_shifted_12.all (fun q => xokB cX11_shifted q && xokL q) = true := by decide +kernel
def e_X11_shifted_13 : List xI := [(260, .aload_n 0, 1, .null), (261, .iload_n 2, 1, .null), (262, .iload 6, 2, .null)]
theorem e_X11_shifted_13_k : e_X11_shifted_13.all (fun q => xokB cX11_shifted q && xokL q) = true := by decide +kernel
def e_X11_shifted_14 : List xI := [(267, .aload_n 0, 1, .null), (268, .iconst 1, 1, .int 1), (269, .iload 8, 2, .null)]
theorem e_X11_shifted_14_k : e_X11_shifted_14.all (fun q => xokB cX11_shifted q && xokL q) = true := by decide +kernel
def e_X11_shifted_15 : List xI := [(274, .aload_n 0, 1, .null), (275, .iconst 2, 1, .int 2), (276, .iload_n 3, 1, .null)]
theorem e_X11_shifted_15_k : e_X11_shifted_15.all (fun q => xokB cX11_shifted q && xokL q) = true := by decide +kernel
def e_X11_shifted_16 : List xI := [(280, .iload 4, 2, .null)]
theorem e_X11_shifted_16_k : e_X11_shifted_16.all (fun q => xokB cX11_shifted q && xokL q) = true := by decide +kernel
def e_X11_shifted_17 : List xI := [(285, .iload 9, 2, .null)]
theorem e_X11_shifted_17_k : e_X11_shifted_17.all (fun q => xokB cX11_shifted q && xokL q) = true := by decide +kernel
def e_X11_shifted_18 : List xI := [(290, .iconst 1, 1, .int 1)]
theorem e_X11_shifted_18_k : e_X11_shifted_18.all (fun q => xokB cX11_shifted q && xokL q) = true := by decide +kernel
def e_X11_shifted_19 : List xI := [(68, .iload 6, 2, .null), (70, .iload 4, 2, .null)]
theorem e_X11_shifted_19_k : e_X11_shifted_19.all (fun q => xokB cX11_shifted q && xokL q) = true := by decide +kernel
def e_X11_shifted_20 : List xI := [(80, .iconst 1, 1, .int 1)]
theorem e_X11_shifted_20_k : e_X11_shifted_20.all (fun q => xokB cX11_shifted q && xokL q) = true := by decide +kernel
def e_X11_shifted_21 : List xI := [(75, .iload 7, 2, .null)]
theorem e_X11_shifted_21_k : e_X11_shifted_21.all (fun q => xokB cX11_shifted q && xokL q) = true := by decide +kernel
def e_X11_shifted_22 : List xI := [(294, .iconst 0, 1, .int 0)]
theorem e_X11_shifted_22_k : e_X11_shifted_22.all (fun q => xokB cX11_shifted q && xokL q) = true := by decide +kernel
def e_X11_shifted_23 : List xI := [(298, .iload 6, 2, .null)]
theorem e_X11_shifted_23_k : e_X11_shifted_23.all (fun q => xokB cX11_shifted q && xokL q) = true := by decide +kernel
def e_X11_shifted_24 : List xI := [(81, .iand, 1, .null)]
theorem e_X11_shifted_24_k : e_X11_shifted_24.all (fun q => xokB cX11_shifted q && xokL q) = true := by decide +kernel
def e_X11_shifted_25 : List xI := [(89, .iconst 0, 1, .int 0)]
theorem e_X11_shifted_25_k : e_X11_shifted_25.all (fun q => xokB cX11_shifted q && xokL q) = true := by decide +kernel
def e_X11_shifted_26 : List xI := [(85, .iconst 1, 1, .int 1)]
theorem e_X11_shifted_26_k : e_X11_shifted_26.all (fun q => xokB cX11_shifted q && xokL q) = true := by decide +kernel
def e_X11_shifted_27 : List xI := [(90, .istore 8, 2, .null), (92, .iload 6, 2, .null), (94, .iload 7, 2, .null), (96, .iand, 1, .null)]
theorem e_X11_shifted_27_k : e_X11_shifted_27.all (fun q => xokB cX11_shifted q && xokL q) = true := by decide +kernel
def e_X11_shifted_28 : List xI := [(104, .iconst 0, 1, .int 0)]
theorem e_X11_shifted_28_k : e_X11_shifted_28.all (fun q => xokB cX11_shifted q && xokL q) = true := by decide +kernel
def e_X11_shifted_29 : List xI := [(100, .iconst 1, 1, .int 1)]
theorem e_X11_shifted_29_k : e_X11_shifted_29.all (fun q => xokB cX11_shifted q && xokL q) = true := by decide +kernel
def e_X11_shifted_30 : List xI := [(105, .istore 11, 2, .null), (107, .iload_n 3, 1, .null)]
theorem e_X11_shifted_30_k : e_X11_shifted_30.all (fun q => xokB cX11_shifted q && xokL q) = true := by decide +kernel
def e_X11_shifted_31 : List xI := [(129, .iload_n 3, 1, .null), (130, .iconst 2, 1, .int 2)]
theorem e_X11_shifted_31_k : e_X11_shifted_31.all (fun q => xokB cX11_shifted q && xokL q) = true := by decide +kernel
def e_X11_shifted_32 : List xI := [(143, .iload_n 3, 1, .null), (144, .iconst 3, 1, .int 3)]
theorem e_X11_shifted_32_k : e_X11_shifted_32.all (fun q => xokB cX11_shifted q && xokL q) = true := by decide +kernel
def e_X11_shifted_33 : List xI := [(148, .iload 8, 2, .null)]
theorem e_X11_shifted_33_k : e_X11_shifted_33.all (fun q => xokB cX11_shifted q && xokL q) = true := by decide +kernel
def e_X11_shifted_34 : List xI := [(153, .iconst 1, 1, .int 1)]
theorem e_X11_shifted_34_k : e_X11_shifted_34.all (fun q => xokB cX11_shifted q && xokL q) = true := by decide +kernel
def e_X11_shifted_35 : List xI := [(134, .aload_n 0, 1, .null), (135, .bipush 16, 2, .int 16)]
theorem e_X11_shifted_35_k : e_X11_shifted_35.all (fun q => xokB cX11_shifted q && xokL q) = true := by decide +kernel
def e_X11_shifted_36 : List xI := [(111, .iload 4, 2, .null)]
theorem e_X11_shifted_36_k : e_X11_shifted_36.all (fun q => xokB cX11_shifted q && xokL q) = true := by decide +kernel
def e_X11_shifted_37 : List xI := [(116, .iload 11, 2, .null)]
theorem e_X11_shifted_37_k : e_X11_shifted_37.all (fun q => xokB cX11_shifted q && xokL q) = true := by decide +kernel
def e_X11_shifted_38 : List xI := [(121, .iconst 1, 1, .int 1)]
theorem e_X11_shifted_38_k : e_X11_shifted_38.all (fun q => xokB cX11_shifted q && xokL q) = true := by decide +kernel
def e_X11_shifted_39 : List xI := [(157, .iconst 0, 1, .int 0)]
theorem e_X11_shifted_39_k : e_X11_shifted_39.all (fun q => xokB cX11_shifted q && xokL q) = true := by decide +kernel
def e_X11_shifted_40 : List xI := [(158, .istore 12, 2, .null), (160, .iload 4, 2, .null)]
theorem e_X11_shifted_40_k : e_X11_shifted_40.all (fun q => xokB cX11_shifted q && xokL q) = true := by decide +kernel
def e_X11_shifted_41 : List xI := [(183, .iload 6, 2, .null), (185, .iload_n 2, 1, .null)]
theorem e_X11_shifted_41_k : e_X11_shifted_41.all (fun q => xokB cX11_shifted q && xokL q) = true := by decide +kernel
def e_X11_shifted_42 : List xI := [(189, .iand, 1, .null), (190, .iconst 1, 1, .int 1), (191, .iushr, 1, .null), (192, .iload 7, 2, .null), (194, .iconst (-1), 1, .int (-1)), (195, .ixor, 1, .null), (196, .iand, 1, .null), (197, .iload 12, 2, .null)]
theorem e_X11_shifted_42_k : e_X11_shifted_42.all (fun q => xokB cX11_shifted q && xokL q) = true := by decide +kernel
def e_X11_shifted_43 : List xI := [(207, .iconst 0, 1, .int 0)]
theorem e_X11_shifted_43_k : e_X11_shifted_43.all (fun q => xokB cX11_shifted q && xokL q) = true := by decide +kernel
def e_X11_shifted_44 : List xI := [(202, .iload 7, 2, .null)]
theorem e_X11_shifted_44_k : e_X11_shifted_44.all (fun q => xokB cX11_shifted q && xokL q) = true := by decide +kernel
def e_X11_shifted_45 : List xI := [(165, .iload 6, 2, .null), (167, .iconst 1, 1, .int 1), (168, .ishl, 1, .null), (169, .iload 12, 2, .null)]
theorem e_X11_shifted_45_k : e_X11_shifted_45.all (fun q => xokB cX11_shifted q && xokL q) = true := by decide +kernel
def e_X11_shifted_46 : List xI := [(178, .iconst 0, 1, .int 0)]
theorem e_X11_shifted_46_k : e_X11_shifted_46.all (fun q => xokB cX11_shifted q && xokL q) = true := by decide +kernel
def e_X11_shifted_47 : List xI := [(174, .iconst 1, 1, .int 1)]
theorem e_X11_shifted_47_k : e_X11_shifted_47.all (fun q => xokB cX11_shifted q && xokL q) = true := by decide +kernel
def e_X11_shifted_48 : List xI := [(125, .iconst 0, 1, .int 0)]
theorem e_X11_shifted_48_k : e_X11_shifted_48.all (fun q => xokB cX11_shifted q && xokL q) = true := by decide +kernel
def e_X11_shifted_49 : List xI := [(208, .ior, 1, .null)]
theorem e_X11_shifted_49_k : e_X11_shifted_49.all (fun q => xokB cX11_shifted q && xokL q) = true := by decide +kernel
def e_X11_shifted_50 : List xI := [(179, .ior, 1, .null)]
theorem e_X11_shifted_50_k : e_X11_shifted_50.all (fun q => xokB cX11_shifted q && xokL q) = true := by decide +kernel
def e_X11_shifted_51 : List xI := [(209, .istore 6, 2, .null), (211, .iload 9, 2, .null)]
theorem e_X11_shifted_51_k : e_X11_shifted_51.all (fun q => xokB cX11_shifted q && xokL q) = true := by decide +kernel
def e_X11_shifted_52 : List xI := [(216, .iload 6, 2, .null), (218, .iload 7, 2, .null), (220, .iand, 1, .null)]
theorem e_X11_shifted_52_k : e_X11_shifted_52.all (fun q => xokB cX11_shifted q && xokL q) = true := by decide +kernel
def e_X11_shifted_53 : List xI := [(228, .iconst 0, 1, .int 0)]
theorem e_X11_shifted_53_k : e_X11_shifted_53.all (fun q => xokB cX11_shifted q && xokL q) = true := by decide +kernel
def e_X11_shifted_54 : List xI := [(224, .iconst 1, 1, .int 1)]
theorem e_X11_shifted_54_k : e_X11_shifted_54.all (fun q => xokB cX11_shifted q && xokL q) = true := by decide +kernel
def e_X11_shifted_55 : List xI := [(234, .iconst 1, 1, .int 1)]
theorem e_X11_shifted_55_k : e_X11_shifted_55.all (fun q => xokB cX11_shifted q && xokL q) = true := by decide +kernel
def e_X11_shifted_56 : List xI := [(229, .iload 11, 2, .null)]
theorem e_X11_shifted_56_k : e_X11_shifted_56.all (fun q => xokB cX11_shifted q && xokL q) = true := by decide +kernel
def e_X11_shifted_57 : List xI := [(238, .iconst 0, 1, .int 0)]
theorem e_X11_shifted_57_k : e_X11_shifted_57.all (fun q => xokB cX11_shifted q && xokL q) = true := by decide +kernel
def e_X11_shifted_58 : List xI := [(239, .istore 9, 2, .null), (241, .iload_n 3, 1, .null), (242, .iconst 3, 1, .int 3)]
theorem e_X11_shifted_58_k : e_X11_shifted_58.all (fun q => xokB cX11_shifted q && xokL q) = true := by decide +kernel
def e_X11_shifted_59 : List xI := [(246, .aload_n 0, 1, .null), (247, .bipush 16, 2, .int 16), (249, .iload 8, 2, .null)]
theorem e_X11_shifted_59_k : e_X11_shifted_59.all (fun q => xokB cX11_shifted q && xokL q) = true := by decide +kernel
def e_X11_shifted_60 : List xI := [(254, .iinc 10 1, 3, .null)]
theorem e_X11_shifted_60_k : e_X11_shifted_60.all (fun q => xokB cX11_shifted q && xokL q) = true := by decide +kernel
abbrev P_X11_shifted (r : Int32 × St) (L : Nat → Nat → Int64) : Option Value → xG → Prop := fun v σ' => PoI r.1 r.2 L v σ' ∧ True ∧ Inv INVM r.2
abbrev R_X11_shifted : Room := { frames := 2, cells := 0, slots := 0, locals := 45 }
abbrev C_X11_shifted (l : Launch) (r : Int32 × St) (L : Nat → Nat → Int64) (V : XJ) : Prop := XC l yX11_shifted.cls yX11_shifted.name cX11_shifted 13 R_X11_shifted 0 0 fl_X11 kc_X11 LAY.length (xfin (some .int) LAY (P_X11_shifted r L)) V
def f_X11_shifted_295 (x6 : Int32) (s0 : Int32) (s1 : Int32) (M : St) : Int32 × St := (xb (f_X11_flag s1 s0 M) fun q36 => (x6, q36))
def f_X11_shifted_294 (x6 : Int32) (s0 : Int32) (M : St) : Int32 × St := f_X11_shifted_295 x6 0 s0 M
def f_X11_shifted_254 (rec : Int32 → Int32 → Int32 → Int32 → Int32 → Int32 → Int32 → Int32 → Int32 → St → Int32 × St) (x2 : Int32) (x3 : Int32) (x4 : Int32) (x5 : Int32) (x6 : Int32) (x7 : Int32) (x8 : Int32) (x9 : Int32) (x10 : Int32) (M : St) : Int32 × St := rec x2 x3 x4 x5 x6 x7 x8 x9 (x10 + 1) M
def f_X11_shifted_239 (rec : Int32 → Int32 → Int32 → Int32 → Int32 → Int32 → Int32 → Int32 → Int32 → St → Int32 × St) (x2 : Int32) (x3 : Int32) (x4 : Int32) (x5 : Int32) (x6 : Int32) (x7 : Int32) (x8 : Int32) (x10 : Int32) (s0 : Int32) (M : St) : Int32 × St := (if 3 ≤ x3 then f_X11_shifted_254 (rec) x2 x3 x4 x5 x6 x7 x8 s0 x10 M else (xb (f_X11_flag 16 x8 M) fun q80 => f_X11_shifted_254 (rec) x2 x3 x4 x5 x6 x7 x8 s0 x10 q80))
def f_X11_shifted_234 (rec : Int32 → Int32 → Int32 → Int32 → Int32 → Int32 → Int32 → Int32 → Int32 → St → Int32 × St) (x2 : Int32) (x3 : Int32) (x4 : Int32) (x5 : Int32) (x6 : Int32) (x7 : Int32) (x8 : Int32) (x10 : Int32) (M : St) : Int32 × St := f_X11_shifted_239 (rec) x2 x3 x4 x5 x6 x7 x8 x10 1 M
def f_X11_shifted_229 (rec : Int32 → Int32 → Int32 → Int32 → Int32 → Int32 → Int32 → Int32 → Int32 → St → Int32 × St) (x2 : Int32) (x3 : Int32) (x4 : Int32) (x5 : Int32) (x6 : Int32) (x7 : Int32) (x8 : Int32) (x10 : Int32) (x11 : Int32) (s0 : Int32) (M : St) : Int32 × St := (if s0 = x11 then f_X11_shifted_239 (rec) x2 x3 x4 x5 x6 x7 x8 x10 0 M else f_X11_shifted_234 (rec) x2 x3 x4 x5 x6 x7 x8 x10 M)
def f_X11_shifted_209 (rec : Int32 → Int32 → Int32 → Int32 → Int32 → Int32 → Int32 → Int32 → Int32 → St → Int32 × St) (x2 : Int32) (x3 : Int32) (x4 : Int32) (x5 : Int32) (x7 : Int32) (x8 : Int32) (x9 : Int32) (x10 : Int32) (x11 : Int32) (s0 : Int32) (M : St) : Int32 × St := (if x9 = 0 then (if (s0 &&& x7) = 0 then f_X11_shifted_229 (rec) x2 x3 x4 x5 s0 x7 x8 x10 x11 0 M else f_X11_shifted_229 (rec) x2 x3 x4 x5 s0 x7 x8 x10 x11 1 M) else f_X11_shifted_234 (rec) x2 x3 x4 x5 s0 x7 x8 x10 M)
def f_X11_shifted_208 (rec : Int32 → Int32 → Int32 → Int32 → Int32 → Int32 → Int32 → Int32 → Int32 → St → Int32 × St) (x2 : Int32) (x3 : Int32) (x4 : Int32) (x5 : Int32) (x7 : Int32) (x8 : Int32) (x9 : Int32) (x10 : Int32) (x11 : Int32) (s0 : Int32) (s1 : Int32) (M : St) : Int32 × St := f_X11_shifted_209 (rec) x2 x3 x4 x5 x7 x8 x9 x10 x11 (s1 ||| s0) M
def f_X11_shifted_179 (rec : Int32 → Int32 → Int32 → Int32 → Int32 → Int32 → Int32 → Int32 → Int32 → St → Int32 × St) (x2 : Int32) (x3 : Int32) (x4 : Int32) (x5 : Int32) (x7 : Int32) (x8 : Int32) (x9 : Int32) (x10 : Int32) (x11 : Int32) (s0 : Int32) (s1 : Int32) (M : St) : Int32 × St := f_X11_shifted_209 (rec) x2 x3 x4 x5 x7 x8 x9 x10 x11 (s1 ||| s0) M
def f_X11_shifted_158 (rec : Int32 → Int32 → Int32 → Int32 → Int32 → Int32 → Int32 → Int32 → Int32 → St → Int32 × St) (x2 : Int32) (x3 : Int32) (x4 : Int32) (x5 : Int32) (x6 : Int32) (x7 : Int32) (x8 : Int32) (x9 : Int32) (x10 : Int32) (x11 : Int32) (s0 : Int32) (M : St) : Int32 × St := (if x4 = 0 then (if s0 = 0 then f_X11_shifted_208 (rec) x2 x3 x4 x5 x7 x8 x9 x10 x11 0 ((ius (x6 &&& (f_X11_mask x2)) 1) &&& (x7 ^^^ (-1))) M else f_X11_shifted_208 (rec) x2 x3 x4 x5 x7 x8 x9 x10 x11 x7 ((ius (x6 &&& (f_X11_mask x2)) 1) &&& (x7 ^^^ (-1))) M) else (if s0 = 0 then f_X11_shifted_179 (rec) x2 x3 x4 x5 x7 x8 x9 x10 x11 0 (x6 <<< ((1 : Int32) &&& 31)) M else f_X11_shifted_179 (rec) x2 x3 x4 x5 x7 x8 x9 x10 x11 1 (x6 <<< ((1 : Int32) &&& 31)) M))
def f_X11_shifted_125 (rec : Int32 → Int32 → Int32 → Int32 → Int32 → Int32 → Int32 → Int32 → Int32 → St → Int32 × St) (x2 : Int32) (x3 : Int32) (x4 : Int32) (x5 : Int32) (x6 : Int32) (x7 : Int32) (x8 : Int32) (x9 : Int32) (x10 : Int32) (x11 : Int32) (M : St) : Int32 × St := f_X11_shifted_158 (rec) x2 x3 x4 x5 x6 x7 x8 x9 x10 x11 0 M
def f_X11_shifted_157 (rec : Int32 → Int32 → Int32 → Int32 → Int32 → Int32 → Int32 → Int32 → Int32 → St → Int32 × St) (x2 : Int32) (x3 : Int32) (x4 : Int32) (x5 : Int32) (x6 : Int32) (x7 : Int32) (x8 : Int32) (x9 : Int32) (x10 : Int32) (x11 : Int32) (M : St) : Int32 × St := f_X11_shifted_158 (rec) x2 x3 x4 x5 x6 x7 x8 x9 x10 x11 0 M
def f_X11_shifted_105 (rec : Int32 → Int32 → Int32 → Int32 → Int32 → Int32 → Int32 → Int32 → Int32 → St → Int32 × St) (x2 : Int32) (x3 : Int32) (x4 : Int32) (x5 : Int32) (x6 : Int32) (x7 : Int32) (x8 : Int32) (x9 : Int32) (x10 : Int32) (s0 : Int32) (M : St) : Int32 × St := (if x3 = 0 then (if x4 = 0 then (if s0 = 0 then f_X11_shifted_125 (rec) x2 x3 x4 x5 x6 x7 x8 x9 x10 s0 M else f_X11_shifted_158 (rec) x2 x3 x4 x5 x6 x7 x8 x9 x10 s0 1 M) else f_X11_shifted_125 (rec) x2 x3 x4 x5 x6 x7 x8 x9 x10 s0 M) else (if x3 = 2 then f_X11_shifted_158 (rec) x2 x3 x4 x5 x6 x7 x8 x9 x10 s0 (f_X11_has 16 M) M else (if x3 = 3 then (if x8 = 0 then f_X11_shifted_157 (rec) x2 x3 x4 x5 x6 x7 x8 x9 x10 s0 M else f_X11_shifted_158 (rec) x2 x3 x4 x5 x6 x7 x8 x9 x10 s0 1 M) else f_X11_shifted_157 (rec) x2 x3 x4 x5 x6 x7 x8 x9 x10 s0 M)))
def f_X11_shifted_90 (rec : Int32 → Int32 → Int32 → Int32 → Int32 → Int32 → Int32 → Int32 → Int32 → St → Int32 × St) (x2 : Int32) (x3 : Int32) (x4 : Int32) (x5 : Int32) (x6 : Int32) (x7 : Int32) (x9 : Int32) (x10 : Int32) (s0 : Int32) (M : St) : Int32 × St := (if (x6 &&& x7) = 0 then f_X11_shifted_105 (rec) x2 x3 x4 x5 x6 x7 s0 x9 x10 0 M else f_X11_shifted_105 (rec) x2 x3 x4 x5 x6 x7 s0 x9 x10 1 M)
def f_X11_shifted_81 (rec : Int32 → Int32 → Int32 → Int32 → Int32 → Int32 → Int32 → Int32 → Int32 → St → Int32 × St) (x2 : Int32) (x3 : Int32) (x4 : Int32) (x5 : Int32) (x6 : Int32) (x7 : Int32) (x9 : Int32) (x10 : Int32) (s0 : Int32) (s1 : Int32) (M : St) : Int32 × St := (if (s1 &&& s0) = 0 then f_X11_shifted_90 (rec) x2 x3 x4 x5 x6 x7 x9 x10 0 M else f_X11_shifted_90 (rec) x2 x3 x4 x5 x6 x7 x9 x10 1 M)
def f_X11_shifted_61 : Nat → Int32 → Int32 → Int32 → Int32 → Int32 → Int32 → Int32 → Int32 → Int32 → St → Int32 × St
  | 0, x2, x3, x4, x5, x6, x7, x8, x9, x10, M => (0, M)
  | n + 1, x2, x3, x4, x5, x6, x7, x8, x9, x10, M => (if x5 ≤ x10 then (xb (f_X11_test x2 x6 M) fun q18 => (xb (f_X11_flag 1 x8 q18) fun q21 => (if x3 = 0 then (if x4 = 0 then f_X11_shifted_294 x6 2 q21 else (if x9 = 0 then f_X11_shifted_294 x6 2 q21 else f_X11_shifted_295 x6 1 2 q21)) else f_X11_shifted_294 x6 2 q21))) else (if x4 = 0 then f_X11_shifted_81 (f_X11_shifted_61 n) x2 x3 x4 x5 x6 x7 x9 x10 1 x6 M else f_X11_shifted_81 (f_X11_shifted_61 n) x2 x3 x4 x5 x6 x7 x9 x10 x7 x6 M))
def f_X11_shifted_53 (x2 : Int32) (x3 : Int32) (x4 : Int32) (x5 : Int32) (x6 : Int32) (x7 : Int32) (s0 : Int32) (M : St) : Int32 × St := f_X11_shifted_61 (((x5).toInt - (0 : Int32).toInt).toNat + 1) x2 x3 x4 x5 x6 x7 s0 0 0 M
def f_X11_shifted_52 (x2 : Int32) (x3 : Int32) (x4 : Int32) (x5 : Int32) (x6 : Int32) (x7 : Int32) (M : St) : Int32 × St := f_X11_shifted_53 x2 x3 x4 x5 x6 x7 0 M
def f_X11_shifted_27 (x2 : Int32) (x3 : Int32) (x4 : Int32) (x5 : Int32) (x6 : Int32) (s0 : Int32) (M : St) : Int32 × St := (if x5 = 0 then (if x3 = 2 then (if (f_X11_has 16 M) = 0 then f_X11_shifted_52 x2 x3 x4 x5 x6 s0 M else f_X11_shifted_53 x2 x3 x4 x5 x6 s0 1 M) else f_X11_shifted_52 x2 x3 x4 x5 x6 s0 M) else f_X11_shifted_52 x2 x3 x4 x5 x6 s0 M)
def f_X11_shifted (a1 : Int32) (a2 : Int32) (a3 : Int32) (a4 : Int32) (a5 : Int32) (M : St) : Int32 × St := (if a2 = 0 then f_X11_shifted_27 a2 a3 a4 a5 a1 128 M else (if a2 = 1 then f_X11_shifted_27 a2 a3 a4 a5 a1 32768 M else f_X11_shifted_27 a2 a3 a4 a5 a1 (-2147483648) M))
set_option maxRecDepth 20000 in
set_option maxHeartbeats 4000000 in
theorem b_X11_shifted_295 {l : Launch} {L : Nat → Nat → Int64} {V : XJ} (r : Int32 × St) (C : C_X11_shifted l r L V) (x6 : Int32) (s0 : Int32) (s1 : Int32) (M : St) (ws0 : xrg 0 1 s0) (ws1 : xrg 2 2 s1) (hI : Inv INVM M) (h : f_X11_shifted_295 x6 s0 s1 M = r) : V 0 0 295 [(6, .int x6)] [.int s0, .int s1, .ref 14] LAY (M, L) := by
  unfold f_X11_shifted_295 at h
  refine x_callV C (k := 14) (ci := 8) (rest := []) (avs := [.int s1, .int s0]) (k_X11_flag l s1 s0 M L hI) yoX11_flag ml_X11_135 rfl rfl rfl rfl ⟨Nat.zero_le _, Nat.zero_le _⟩ (show decode cX11_shifted 295 = .ok (.invokevirtual 135, 3) from by decide +kernel) rfl (fun v σ' hPo => ?_)
  obtain ⟨⟨rfl, rfl⟩, hI38⟩ := hPo
  generalize hq36 : f_X11_flag s1 s0 M = q36 at h hI38 ⊢
  have h := xb_eq h
  show V 0 0 298 [(6, .int x6)] [] LAY (q36, L)
  refine x_run C e_X11_shifted_23 e_X11_shifted_23_k (pc' := 300) (lv' := [(6, .int x6)]) (st' := [.int x6]) (σ' := (q36, L)) rfl ⟨trivial, trivial⟩ ?_
  subst h
  exact x_iret C (show decode cX11_shifted 300 = .ok (.ireturn, 1) from by decide +kernel) (x_finI rfl ⟨⟨rfl, rfl⟩, trivial, hI38⟩) (Nat.le_refl 0) (Nat.le_refl 0)
set_option maxRecDepth 20000 in
set_option maxHeartbeats 4000000 in
theorem b_X11_shifted_294 {l : Launch} {L : Nat → Nat → Int64} {V : XJ} (r : Int32 × St) (C : C_X11_shifted l r L V) (x6 : Int32) (s0 : Int32) (M : St) (ws0 : xrg 2 2 s0) (hI : Inv INVM M) (h : f_X11_shifted_294 x6 s0 M = r) : V 0 0 294 [(6, .int x6)] [.int s0, .ref 14] LAY (M, L) := by
  unfold f_X11_shifted_294 at h
  refine x_run C e_X11_shifted_22 e_X11_shifted_22_k (pc' := 295) (lv' := [(6, .int x6)]) (st' := [.int 0, .int s0, .ref 14]) (σ' := (M, L)) rfl ⟨trivial, trivial⟩ ?_
  exact b_X11_shifted_295 r C x6 0 s0 M (x_rgw (x_rgc (x := 0) (k := 0) (by decide)) (lo' := 0) (hi' := 1) (by decide) (by decide)) ws0 hI h
set_option maxRecDepth 20000 in
set_option maxHeartbeats 4000000 in
theorem b_X11_shifted_254 {l : Launch} {L : Nat → Nat → Int64} {V : XJ} (r : Int32 × St) (C : C_X11_shifted l r L V) (n : Nat) (rec : Int32 → Int32 → Int32 → Int32 → Int32 → Int32 → Int32 → Int32 → Int32 → St → Int32 × St) (hrec : ∀ (x2 : Int32) (x3 : Int32) (x4 : Int32) (x5 : Int32) (x6 : Int32) (x7 : Int32) (x8 : Int32) (x9 : Int32) (x10 : Int32) (M : St), xrg (-2147483648) 32768 x7 → xrg 0 1 x8 → xrg 0 1 x9 → Inv INVM M → ((x5).toInt - x10.toInt).toNat < n → rec x2 x3 x4 x5 x6 x7 x8 x9 x10 M = r → V 0 0 61 [(0, .ref 14), (2, .int x2), (3, .int x3), (4, .int x4), (5, .int x5), (6, .int x6), (7, .int x7), (8, .int x8), (9, .int x9), (10, .int x10)] [] LAY (M, L)) (x2 : Int32) (x3 : Int32) (x4 : Int32) (x5 : Int32) (x6 : Int32) (x7 : Int32) (x8 : Int32) (x9 : Int32) (x10 : Int32) (M : St) (wx7 : xrg (-2147483648) 32768 x7) (wx8 : xrg 0 1 x8) (wx9 : xrg 0 1 x9) (hI : Inv INVM M) (hk : ((x5).toInt - (x10 + 1).toInt).toNat < n) (h : f_X11_shifted_254 rec x2 x3 x4 x5 x6 x7 x8 x9 x10 M = r) : V 0 0 254 [(0, .ref 14), (2, .int x2), (3, .int x3), (4, .int x4), (5, .int x5), (6, .int x6), (7, .int x7), (8, .int x8), (9, .int x9), (10, .int x10)] [] LAY (M, L) := by
  unfold f_X11_shifted_254 at h
  refine x_run C e_X11_shifted_60 e_X11_shifted_60_k (pc' := 257) (lv' := [(10, .int (x10 + 1)), (0, .ref 14), (2, .int x2), (3, .int x3), (4, .int x4), (5, .int x5), (6, .int x6), (7, .int x7), (8, .int x8), (9, .int x9)]) (st' := []) (σ' := (M, L)) rfl ⟨trivial, trivial⟩ ?_
  refine x_goto C (show decode cX11_shifted 257 = .ok (.goto (-196), 3) from by decide +kernel) (tgt := 61) (by decide) ?_
  refine x_lv C [1, 2, 3, 4, 5, 6, 7, 8, 9, 0] rfl ?_
  exact hrec x2 x3 x4 x5 x6 x7 x8 x9 (x10 + 1) M wx7 wx8 wx9 hI (hk) h
set_option maxRecDepth 20000 in
set_option maxHeartbeats 4000000 in
theorem b_X11_shifted_239 {l : Launch} {L : Nat → Nat → Int64} {V : XJ} (r : Int32 × St) (C : C_X11_shifted l r L V) (n : Nat) (rec : Int32 → Int32 → Int32 → Int32 → Int32 → Int32 → Int32 → Int32 → Int32 → St → Int32 × St) (hrec : ∀ (x2 : Int32) (x3 : Int32) (x4 : Int32) (x5 : Int32) (x6 : Int32) (x7 : Int32) (x8 : Int32) (x9 : Int32) (x10 : Int32) (M : St), xrg (-2147483648) 32768 x7 → xrg 0 1 x8 → xrg 0 1 x9 → Inv INVM M → ((x5).toInt - x10.toInt).toNat < n → rec x2 x3 x4 x5 x6 x7 x8 x9 x10 M = r → V 0 0 61 [(0, .ref 14), (2, .int x2), (3, .int x3), (4, .int x4), (5, .int x5), (6, .int x6), (7, .int x7), (8, .int x8), (9, .int x9), (10, .int x10)] [] LAY (M, L)) (x2 : Int32) (x3 : Int32) (x4 : Int32) (x5 : Int32) (x6 : Int32) (x7 : Int32) (x8 : Int32) (x10 : Int32) (s0 : Int32) (M : St) (wx7 : xrg (-2147483648) 32768 x7) (wx8 : xrg 0 1 x8) (ws0 : xrg 0 1 s0) (hI : Inv INVM M) (hk : ((x5).toInt - (x10 + 1).toInt).toNat < n) (h : f_X11_shifted_239 rec x2 x3 x4 x5 x6 x7 x8 x10 s0 M = r) : V 0 0 239 [(0, .ref 14), (2, .int x2), (3, .int x3), (4, .int x4), (5, .int x5), (6, .int x6), (7, .int x7), (8, .int x8), (10, .int x10)] [.int s0] LAY (M, L) := by
  unfold f_X11_shifted_239 at h
  refine x_run C e_X11_shifted_58 e_X11_shifted_58_k (pc' := 243) (lv' := [(9, .int s0), (0, .ref 14), (2, .int x2), (3, .int x3), (4, .int x4), (5, .int x5), (6, .int x6), (7, .int x7), (8, .int x8), (10, .int x10)]) (st' := [.int 3, .int x3]) (σ' := (M, L)) rfl ⟨trivial, trivial, trivial, trivial⟩ ?_
  refine x_icmp_ge C (show decode cX11_shifted 243 = .ok (.if_icmp .ge 11, 3) from by decide +kernel) (tgt := 254) (by decide) (fun c77 => ?_) (fun c77 => ?_)
  · rw [if_pos c77] at h
    have g78 : xrg 3 2147483647 x3 := (x_c_le (x_rgc (x := 3) (k := 3) (by decide)) (x_rgt x3) c77).2
    refine x_lv C [1, 2, 3, 4, 5, 6, 7, 8, 0, 9] rfl ?_
    exact b_X11_shifted_254 r C n rec hrec x2 x3 x4 x5 x6 x7 x8 s0 x10 M wx7 wx8 ws0 hI (hk) h
  · rw [if_neg c77] at h
    have g79 : xrg (-2147483648) 2 x3 := (x_c_nle (x_rgc (x := 3) (k := 3) (by decide)) (x_rgt x3) c77).2
    refine x_run C e_X11_shifted_59 e_X11_shifted_59_k (pc' := 251) (lv' := [(9, .int s0), (0, .ref 14), (2, .int x2), (3, .int x3), (4, .int x4), (5, .int x5), (6, .int x6), (7, .int x7), (8, .int x8), (10, .int x10)]) (st' := [.int x8, .int 16, .ref 14]) (σ' := (M, L)) rfl ⟨trivial, trivial, trivial, trivial⟩ ?_
    refine x_callV C (k := 14) (ci := 8) (rest := []) (avs := [.int 16, .int x8]) (k_X11_flag l 16 x8 M L hI) yoX11_flag ml_X11_135 rfl rfl rfl rfl ⟨Nat.zero_le _, Nat.zero_le _⟩ (show decode cX11_shifted 251 = .ok (.invokevirtual 135, 3) from by decide +kernel) rfl (fun v σ' hPo => ?_)
    obtain ⟨⟨rfl, rfl⟩, hI82⟩ := hPo
    generalize hq80 : f_X11_flag 16 x8 M = q80 at h hI82 ⊢
    have h := xb_eq h
    show V 0 0 254 [(9, .int s0), (0, .ref 14), (2, .int x2), (3, .int x3), (4, .int x4), (5, .int x5), (6, .int x6), (7, .int x7), (8, .int x8), (10, .int x10)] [] LAY (q80, L)
    refine x_lv C [1, 2, 3, 4, 5, 6, 7, 8, 0, 9] rfl ?_
    exact b_X11_shifted_254 r C n rec hrec x2 x3 x4 x5 x6 x7 x8 s0 x10 q80 wx7 wx8 ws0 hI82 (hk) h
set_option maxRecDepth 20000 in
set_option maxHeartbeats 4000000 in
theorem b_X11_shifted_234 {l : Launch} {L : Nat → Nat → Int64} {V : XJ} (r : Int32 × St) (C : C_X11_shifted l r L V) (n : Nat) (rec : Int32 → Int32 → Int32 → Int32 → Int32 → Int32 → Int32 → Int32 → Int32 → St → Int32 × St) (hrec : ∀ (x2 : Int32) (x3 : Int32) (x4 : Int32) (x5 : Int32) (x6 : Int32) (x7 : Int32) (x8 : Int32) (x9 : Int32) (x10 : Int32) (M : St), xrg (-2147483648) 32768 x7 → xrg 0 1 x8 → xrg 0 1 x9 → Inv INVM M → ((x5).toInt - x10.toInt).toNat < n → rec x2 x3 x4 x5 x6 x7 x8 x9 x10 M = r → V 0 0 61 [(0, .ref 14), (2, .int x2), (3, .int x3), (4, .int x4), (5, .int x5), (6, .int x6), (7, .int x7), (8, .int x8), (9, .int x9), (10, .int x10)] [] LAY (M, L)) (x2 : Int32) (x3 : Int32) (x4 : Int32) (x5 : Int32) (x6 : Int32) (x7 : Int32) (x8 : Int32) (x10 : Int32) (M : St) (wx7 : xrg (-2147483648) 32768 x7) (wx8 : xrg 0 1 x8) (hI : Inv INVM M) (hk : ((x5).toInt - (x10 + 1).toInt).toNat < n) (h : f_X11_shifted_234 rec x2 x3 x4 x5 x6 x7 x8 x10 M = r) : V 0 0 234 [(0, .ref 14), (2, .int x2), (3, .int x3), (4, .int x4), (5, .int x5), (6, .int x6), (7, .int x7), (8, .int x8), (10, .int x10)] [] LAY (M, L) := by
  unfold f_X11_shifted_234 at h
  refine x_run C e_X11_shifted_55 e_X11_shifted_55_k (pc' := 235) (lv' := [(0, .ref 14), (2, .int x2), (3, .int x3), (4, .int x4), (5, .int x5), (6, .int x6), (7, .int x7), (8, .int x8), (10, .int x10)]) (st' := [.int 1]) (σ' := (M, L)) rfl ⟨trivial, trivial⟩ ?_
  refine x_goto C (show decode cX11_shifted 235 = .ok (.goto 4, 3) from by decide +kernel) (tgt := 239) (by decide) ?_
  exact b_X11_shifted_239 r C n rec hrec x2 x3 x4 x5 x6 x7 x8 x10 1 M wx7 wx8 (x_rgw (x_rgc (x := 1) (k := 1) (by decide)) (lo' := 0) (hi' := 1) (by decide) (by decide)) hI (hk) h
set_option maxRecDepth 20000 in
set_option maxHeartbeats 4000000 in
theorem b_X11_shifted_229 {l : Launch} {L : Nat → Nat → Int64} {V : XJ} (r : Int32 × St) (C : C_X11_shifted l r L V) (n : Nat) (rec : Int32 → Int32 → Int32 → Int32 → Int32 → Int32 → Int32 → Int32 → Int32 → St → Int32 × St) (hrec : ∀ (x2 : Int32) (x3 : Int32) (x4 : Int32) (x5 : Int32) (x6 : Int32) (x7 : Int32) (x8 : Int32) (x9 : Int32) (x10 : Int32) (M : St), xrg (-2147483648) 32768 x7 → xrg 0 1 x8 → xrg 0 1 x9 → Inv INVM M → ((x5).toInt - x10.toInt).toNat < n → rec x2 x3 x4 x5 x6 x7 x8 x9 x10 M = r → V 0 0 61 [(0, .ref 14), (2, .int x2), (3, .int x3), (4, .int x4), (5, .int x5), (6, .int x6), (7, .int x7), (8, .int x8), (9, .int x9), (10, .int x10)] [] LAY (M, L)) (x2 : Int32) (x3 : Int32) (x4 : Int32) (x5 : Int32) (x6 : Int32) (x7 : Int32) (x8 : Int32) (x10 : Int32) (x11 : Int32) (s0 : Int32) (M : St) (wx7 : xrg (-2147483648) 32768 x7) (wx8 : xrg 0 1 x8) (wx11 : xrg 0 1 x11) (ws0 : xrg 0 1 s0) (hI : Inv INVM M) (hk : ((x5).toInt - (x10 + 1).toInt).toNat < n) (h : f_X11_shifted_229 rec x2 x3 x4 x5 x6 x7 x8 x10 x11 s0 M = r) : V 0 0 229 [(0, .ref 14), (2, .int x2), (3, .int x3), (4, .int x4), (5, .int x5), (6, .int x6), (7, .int x7), (8, .int x8), (10, .int x10), (11, .int x11)] [.int s0] LAY (M, L) := by
  unfold f_X11_shifted_229 at h
  refine x_run C e_X11_shifted_56 e_X11_shifted_56_k (pc' := 231) (lv' := [(0, .ref 14), (2, .int x2), (3, .int x3), (4, .int x4), (5, .int x5), (6, .int x6), (7, .int x7), (8, .int x8), (10, .int x10), (11, .int x11)]) (st' := [.int x11, .int s0]) (σ' := (M, L)) rfl ⟨trivial, trivial⟩ ?_
  refine x_icmp_eq C (show decode cX11_shifted 231 = .ok (.if_icmp .eq 7, 3) from by decide +kernel) (tgt := 238) (by decide) (fun c76 => ?_) (fun c76 => ?_)
  · rw [if_pos c76] at h
    refine x_run C e_X11_shifted_57 e_X11_shifted_57_k (pc' := 239) (lv' := [(0, .ref 14), (2, .int x2), (3, .int x3), (4, .int x4), (5, .int x5), (6, .int x6), (7, .int x7), (8, .int x8), (10, .int x10), (11, .int x11)]) (st' := [.int 0]) (σ' := (M, L)) rfl ⟨trivial, trivial⟩ ?_
    refine x_lv C [0, 1, 2, 3, 4, 5, 6, 7, 8] rfl ?_
    exact b_X11_shifted_239 r C n rec hrec x2 x3 x4 x5 x6 x7 x8 x10 0 M wx7 wx8 (x_rgw (x_rgc (x := 0) (k := 0) (by decide)) (lo' := 0) (hi' := 1) (by decide) (by decide)) hI (hk) h
  · rw [if_neg c76] at h
    refine x_lv C [0, 1, 2, 3, 4, 5, 6, 7, 8] rfl ?_
    exact b_X11_shifted_234 r C n rec hrec x2 x3 x4 x5 x6 x7 x8 x10 M wx7 wx8 hI (hk) h
set_option maxRecDepth 20000 in
set_option maxHeartbeats 4000000 in
theorem b_X11_shifted_209 {l : Launch} {L : Nat → Nat → Int64} {V : XJ} (r : Int32 × St) (C : C_X11_shifted l r L V) (n : Nat) (rec : Int32 → Int32 → Int32 → Int32 → Int32 → Int32 → Int32 → Int32 → Int32 → St → Int32 × St) (hrec : ∀ (x2 : Int32) (x3 : Int32) (x4 : Int32) (x5 : Int32) (x6 : Int32) (x7 : Int32) (x8 : Int32) (x9 : Int32) (x10 : Int32) (M : St), xrg (-2147483648) 32768 x7 → xrg 0 1 x8 → xrg 0 1 x9 → Inv INVM M → ((x5).toInt - x10.toInt).toNat < n → rec x2 x3 x4 x5 x6 x7 x8 x9 x10 M = r → V 0 0 61 [(0, .ref 14), (2, .int x2), (3, .int x3), (4, .int x4), (5, .int x5), (6, .int x6), (7, .int x7), (8, .int x8), (9, .int x9), (10, .int x10)] [] LAY (M, L)) (x2 : Int32) (x3 : Int32) (x4 : Int32) (x5 : Int32) (x7 : Int32) (x8 : Int32) (x9 : Int32) (x10 : Int32) (x11 : Int32) (s0 : Int32) (M : St) (wx7 : xrg (-2147483648) 32768 x7) (wx8 : xrg 0 1 x8) (wx9 : xrg 0 1 x9) (wx11 : xrg 0 1 x11) (hI : Inv INVM M) (hk : ((x5).toInt - (x10 + 1).toInt).toNat < n) (h : f_X11_shifted_209 rec x2 x3 x4 x5 x7 x8 x9 x10 x11 s0 M = r) : V 0 0 209 [(0, .ref 14), (2, .int x2), (3, .int x3), (4, .int x4), (5, .int x5), (7, .int x7), (8, .int x8), (9, .int x9), (10, .int x10), (11, .int x11)] [.int s0] LAY (M, L) := by
  unfold f_X11_shifted_209 at h
  refine x_run C e_X11_shifted_51 e_X11_shifted_51_k (pc' := 213) (lv' := [(6, .int s0), (0, .ref 14), (2, .int x2), (3, .int x3), (4, .int x4), (5, .int x5), (7, .int x7), (8, .int x8), (9, .int x9), (10, .int x10), (11, .int x11)]) (st' := [.int x9]) (σ' := (M, L)) rfl ⟨trivial, trivial, trivial⟩ ?_
  refine x_if_ne C (show decode cX11_shifted 213 = .ok (.ifCond .ne 21, 3) from by decide +kernel) (tgt := 234) (by decide) (fun c71 => ?_) (fun c71 => ?_)
  · rw [if_neg c71] at h
    have g72 : xrg 1 1 x9 := (x_c_ne wx9 (by decide) c71)
    refine x_lv C [1, 2, 3, 4, 5, 0, 6, 7, 9] rfl ?_
    exact b_X11_shifted_234 r C n rec hrec x2 x3 x4 x5 s0 x7 x8 x10 M wx7 wx8 hI (hk) h
  · rw [if_pos c71] at h
    have g73 : xrg 0 0 x9 := (x_c_eq wx9 (x_rgc (x := 0) (k := 0) (by decide)) c71).1
    refine x_run C e_X11_shifted_52 e_X11_shifted_52_k (pc' := 221) (lv' := [(6, .int s0), (0, .ref 14), (2, .int x2), (3, .int x3), (4, .int x4), (5, .int x5), (7, .int x7), (8, .int x8), (9, .int x9), (10, .int x10), (11, .int x11)]) (st' := [.int (s0 &&& x7)]) (σ' := (M, L)) rfl ⟨trivial, trivial, trivial, trivial⟩ ?_
    refine x_if_eq C (show decode cX11_shifted 221 = .ok (.ifCond .eq 7, 3) from by decide +kernel) (tgt := 228) (by decide) (fun c74 => ?_) (fun c74 => ?_)
    · rw [if_pos c74] at h
      have g75 : xrg 0 0 (s0 &&& x7) := (x_c_eq (x_rgt (s0 &&& x7)) (x_rgc (x := 0) (k := 0) (by decide)) c74).1
      refine x_run C e_X11_shifted_53 e_X11_shifted_53_k (pc' := 229) (lv' := [(6, .int s0), (0, .ref 14), (2, .int x2), (3, .int x3), (4, .int x4), (5, .int x5), (7, .int x7), (8, .int x8), (9, .int x9), (10, .int x10), (11, .int x11)]) (st' := [.int 0]) (σ' := (M, L)) rfl ⟨trivial, trivial⟩ ?_
      refine x_lv C [1, 2, 3, 4, 5, 0, 6, 7, 9, 10] rfl ?_
      exact b_X11_shifted_229 r C n rec hrec x2 x3 x4 x5 s0 x7 x8 x10 x11 0 M wx7 wx8 wx11 (x_rgw (x_rgc (x := 0) (k := 0) (by decide)) (lo' := 0) (hi' := 1) (by decide) (by decide)) hI (hk) h
    · rw [if_neg c74] at h
      refine x_run C e_X11_shifted_54 e_X11_shifted_54_k (pc' := 225) (lv' := [(6, .int s0), (0, .ref 14), (2, .int x2), (3, .int x3), (4, .int x4), (5, .int x5), (7, .int x7), (8, .int x8), (9, .int x9), (10, .int x10), (11, .int x11)]) (st' := [.int 1]) (σ' := (M, L)) rfl ⟨trivial, trivial⟩ ?_
      refine x_goto C (show decode cX11_shifted 225 = .ok (.goto 4, 3) from by decide +kernel) (tgt := 229) (by decide) ?_
      refine x_lv C [1, 2, 3, 4, 5, 0, 6, 7, 9, 10] rfl ?_
      exact b_X11_shifted_229 r C n rec hrec x2 x3 x4 x5 s0 x7 x8 x10 x11 1 M wx7 wx8 wx11 (x_rgw (x_rgc (x := 1) (k := 1) (by decide)) (lo' := 0) (hi' := 1) (by decide) (by decide)) hI (hk) h
set_option maxRecDepth 20000 in
set_option maxHeartbeats 4000000 in
theorem b_X11_shifted_208 {l : Launch} {L : Nat → Nat → Int64} {V : XJ} (r : Int32 × St) (C : C_X11_shifted l r L V) (n : Nat) (rec : Int32 → Int32 → Int32 → Int32 → Int32 → Int32 → Int32 → Int32 → Int32 → St → Int32 × St) (hrec : ∀ (x2 : Int32) (x3 : Int32) (x4 : Int32) (x5 : Int32) (x6 : Int32) (x7 : Int32) (x8 : Int32) (x9 : Int32) (x10 : Int32) (M : St), xrg (-2147483648) 32768 x7 → xrg 0 1 x8 → xrg 0 1 x9 → Inv INVM M → ((x5).toInt - x10.toInt).toNat < n → rec x2 x3 x4 x5 x6 x7 x8 x9 x10 M = r → V 0 0 61 [(0, .ref 14), (2, .int x2), (3, .int x3), (4, .int x4), (5, .int x5), (6, .int x6), (7, .int x7), (8, .int x8), (9, .int x9), (10, .int x10)] [] LAY (M, L)) (x2 : Int32) (x3 : Int32) (x4 : Int32) (x5 : Int32) (x7 : Int32) (x8 : Int32) (x9 : Int32) (x10 : Int32) (x11 : Int32) (s0 : Int32) (s1 : Int32) (M : St) (wx4 : xrg 0 0 x4) (wx7 : xrg (-2147483648) 32768 x7) (wx8 : xrg 0 1 x8) (wx9 : xrg 0 1 x9) (wx11 : xrg 0 1 x11) (ws0 : xrg (-2147483648) 32768 s0) (hI : Inv INVM M) (hk : ((x5).toInt - (x10 + 1).toInt).toNat < n) (h : f_X11_shifted_208 rec x2 x3 x4 x5 x7 x8 x9 x10 x11 s0 s1 M = r) : V 0 0 208 [(0, .ref 14), (2, .int x2), (3, .int x3), (4, .int x4), (5, .int x5), (7, .int x7), (8, .int x8), (9, .int x9), (10, .int x10), (11, .int x11)] [.int s0, .int s1] LAY (M, L) := by
  unfold f_X11_shifted_208 at h
  refine x_run C e_X11_shifted_49 e_X11_shifted_49_k (pc' := 209) (lv' := [(0, .ref 14), (2, .int x2), (3, .int x3), (4, .int x4), (5, .int x5), (7, .int x7), (8, .int x8), (9, .int x9), (10, .int x10), (11, .int x11)]) (st' := [.int (s1 ||| s0)]) (σ' := (M, L)) rfl ⟨trivial, trivial⟩ ?_
  exact b_X11_shifted_209 r C n rec hrec x2 x3 x4 x5 x7 x8 x9 x10 x11 (s1 ||| s0) M wx7 wx8 wx9 wx11 hI (hk) h
set_option maxRecDepth 20000 in
set_option maxHeartbeats 4000000 in
theorem b_X11_shifted_179 {l : Launch} {L : Nat → Nat → Int64} {V : XJ} (r : Int32 × St) (C : C_X11_shifted l r L V) (n : Nat) (rec : Int32 → Int32 → Int32 → Int32 → Int32 → Int32 → Int32 → Int32 → Int32 → St → Int32 × St) (hrec : ∀ (x2 : Int32) (x3 : Int32) (x4 : Int32) (x5 : Int32) (x6 : Int32) (x7 : Int32) (x8 : Int32) (x9 : Int32) (x10 : Int32) (M : St), xrg (-2147483648) 32768 x7 → xrg 0 1 x8 → xrg 0 1 x9 → Inv INVM M → ((x5).toInt - x10.toInt).toNat < n → rec x2 x3 x4 x5 x6 x7 x8 x9 x10 M = r → V 0 0 61 [(0, .ref 14), (2, .int x2), (3, .int x3), (4, .int x4), (5, .int x5), (6, .int x6), (7, .int x7), (8, .int x8), (9, .int x9), (10, .int x10)] [] LAY (M, L)) (x2 : Int32) (x3 : Int32) (x4 : Int32) (x5 : Int32) (x7 : Int32) (x8 : Int32) (x9 : Int32) (x10 : Int32) (x11 : Int32) (s0 : Int32) (s1 : Int32) (M : St) (wx7 : xrg (-2147483648) 32768 x7) (wx8 : xrg 0 1 x8) (wx9 : xrg 0 1 x9) (wx11 : xrg 0 1 x11) (ws0 : xrg 0 1 s0) (hI : Inv INVM M) (hk : ((x5).toInt - (x10 + 1).toInt).toNat < n) (h : f_X11_shifted_179 rec x2 x3 x4 x5 x7 x8 x9 x10 x11 s0 s1 M = r) : V 0 0 179 [(0, .ref 14), (2, .int x2), (3, .int x3), (4, .int x4), (5, .int x5), (7, .int x7), (8, .int x8), (9, .int x9), (10, .int x10), (11, .int x11)] [.int s0, .int s1] LAY (M, L) := by
  unfold f_X11_shifted_179 at h
  refine x_run C e_X11_shifted_50 e_X11_shifted_50_k (pc' := 180) (lv' := [(0, .ref 14), (2, .int x2), (3, .int x3), (4, .int x4), (5, .int x5), (7, .int x7), (8, .int x8), (9, .int x9), (10, .int x10), (11, .int x11)]) (st' := [.int (s1 ||| s0)]) (σ' := (M, L)) rfl ⟨trivial, trivial⟩ ?_
  refine x_goto C (show decode cX11_shifted 180 = .ok (.goto 29, 3) from by decide +kernel) (tgt := 209) (by decide) ?_
  exact b_X11_shifted_209 r C n rec hrec x2 x3 x4 x5 x7 x8 x9 x10 x11 (s1 ||| s0) M wx7 wx8 wx9 wx11 hI (hk) h
set_option maxRecDepth 20000 in
set_option maxHeartbeats 4000000 in
theorem b_X11_shifted_158 {l : Launch} {L : Nat → Nat → Int64} {V : XJ} (r : Int32 × St) (C : C_X11_shifted l r L V) (n : Nat) (rec : Int32 → Int32 → Int32 → Int32 → Int32 → Int32 → Int32 → Int32 → Int32 → St → Int32 × St) (hrec : ∀ (x2 : Int32) (x3 : Int32) (x4 : Int32) (x5 : Int32) (x6 : Int32) (x7 : Int32) (x8 : Int32) (x9 : Int32) (x10 : Int32) (M : St), xrg (-2147483648) 32768 x7 → xrg 0 1 x8 → xrg 0 1 x9 → Inv INVM M → ((x5).toInt - x10.toInt).toNat < n → rec x2 x3 x4 x5 x6 x7 x8 x9 x10 M = r → V 0 0 61 [(0, .ref 14), (2, .int x2), (3, .int x3), (4, .int x4), (5, .int x5), (6, .int x6), (7, .int x7), (8, .int x8), (9, .int x9), (10, .int x10)] [] LAY (M, L)) (x2 : Int32) (x3 : Int32) (x4 : Int32) (x5 : Int32) (x6 : Int32) (x7 : Int32) (x8 : Int32) (x9 : Int32) (x10 : Int32) (x11 : Int32) (s0 : Int32) (M : St) (wx7 : xrg (-2147483648) 32768 x7) (wx8 : xrg 0 1 x8) (wx9 : xrg 0 1 x9) (wx11 : xrg 0 1 x11) (ws0 : xrg 0 1 s0) (hI : Inv INVM M) (hk : ((x5).toInt - (x10 + 1).toInt).toNat < n) (h : f_X11_shifted_158 rec x2 x3 x4 x5 x6 x7 x8 x9 x10 x11 s0 M = r) : V 0 0 158 [(0, .ref 14), (2, .int x2), (3, .int x3), (4, .int x4), (5, .int x5), (6, .int x6), (7, .int x7), (8, .int x8), (9, .int x9), (10, .int x10), (11, .int x11)] [.int s0] LAY (M, L) := by
  unfold f_X11_shifted_158 at h
  refine x_run C e_X11_shifted_40 e_X11_shifted_40_k (pc' := 162) (lv' := [(12, .int s0), (0, .ref 14), (2, .int x2), (3, .int x3), (4, .int x4), (5, .int x5), (6, .int x6), (7, .int x7), (8, .int x8), (9, .int x9), (10, .int x10), (11, .int x11)]) (st' := [.int x4]) (σ' := (M, L)) rfl ⟨trivial, trivial, trivial⟩ ?_
  refine x_if_eq C (show decode cX11_shifted 162 = .ok (.ifCond .eq 21, 3) from by decide +kernel) (tgt := 183) (by decide) (fun c60 => ?_) (fun c60 => ?_)
  · rw [if_pos c60] at h
    have g61 : xrg 0 0 x4 := (x_c_eq (x_rgt x4) (x_rgc (x := 0) (k := 0) (by decide)) c60).1
    refine x_run C e_X11_shifted_41 e_X11_shifted_41_k (pc' := 186) (lv' := [(12, .int s0), (0, .ref 14), (2, .int x2), (3, .int x3), (4, .int x4), (5, .int x5), (6, .int x6), (7, .int x7), (8, .int x8), (9, .int x9), (10, .int x10), (11, .int x11)]) (st' := [.int x2, .int x6]) (σ' := (M, L)) rfl ⟨trivial, trivial, trivial⟩ ?_
    refine x_callS C (rest := [.int x6]) (avs := [.int x2]) (k_X11_mask l x2 M L) yoX11_mask ml_X11_122 rfl ⟨Nat.zero_le _, Nat.zero_le _⟩ (show decode cX11_shifted 186 = .ok (.invokestatic 122, 3) from by decide +kernel) rfl (fun v σ' hPo => ?_)
    obtain ⟨⟨rfl, rfl⟩, g63, -⟩ := hPo
    show V 0 0 189 [(12, .int s0), (0, .ref 14), (2, .int x2), (3, .int x3), (4, .int x4), (5, .int x5), (6, .int x6), (7, .int x7), (8, .int x8), (9, .int x9), (10, .int x10), (11, .int x11)] [.int (f_X11_mask x2), .int x6] LAY (M, L)
    refine x_run C e_X11_shifted_42 e_X11_shifted_42_k (pc' := 199) (lv' := [(12, .int s0), (0, .ref 14), (2, .int x2), (3, .int x3), (4, .int x4), (5, .int x5), (6, .int x6), (7, .int x7), (8, .int x8), (9, .int x9), (10, .int x10), (11, .int x11)]) (st' := [.int s0, .int ((ius (x6 &&& (f_X11_mask x2)) 1) &&& (x7 ^^^ (-1)))]) (σ' := (M, L)) rfl ⟨trivial, trivial, trivial, trivial, trivial, trivial, trivial, trivial, trivial⟩ ?_
    refine x_if_eq C (show decode cX11_shifted 199 = .ok (.ifCond .eq 8, 3) from by decide +kernel) (tgt := 207) (by decide) (fun c65 => ?_) (fun c65 => ?_)
    · rw [if_pos c65] at h
      have g66 : xrg 0 0 s0 := (x_c_eq ws0 (x_rgc (x := 0) (k := 0) (by decide)) c65).1
      refine x_run C e_X11_shifted_43 e_X11_shifted_43_k (pc' := 208) (lv' := [(12, .int s0), (0, .ref 14), (2, .int x2), (3, .int x3), (4, .int x4), (5, .int x5), (6, .int x6), (7, .int x7), (8, .int x8), (9, .int x9), (10, .int x10), (11, .int x11)]) (st' := [.int 0, .int ((ius (x6 &&& (f_X11_mask x2)) 1) &&& (x7 ^^^ (-1)))]) (σ' := (M, L)) rfl ⟨trivial, trivial⟩ ?_
      refine x_lv C [1, 2, 3, 4, 5, 7, 8, 9, 10, 11] rfl ?_
      exact b_X11_shifted_208 r C n rec hrec x2 x3 x4 x5 x7 x8 x9 x10 x11 0 ((ius (x6 &&& (f_X11_mask x2)) 1) &&& (x7 ^^^ (-1))) M g61 wx7 wx8 wx9 wx11 (x_rgw (x_rgc (x := 0) (k := 0) (by decide)) (lo' := (-2147483648)) (hi' := 32768) (by decide) (by decide)) hI (hk) h
    · rw [if_neg c65] at h
      have g67 : xrg 1 1 s0 := (x_c_ne ws0 (by decide) c65)
      refine x_run C e_X11_shifted_44 e_X11_shifted_44_k (pc' := 204) (lv' := [(12, .int s0), (0, .ref 14), (2, .int x2), (3, .int x3), (4, .int x4), (5, .int x5), (6, .int x6), (7, .int x7), (8, .int x8), (9, .int x9), (10, .int x10), (11, .int x11)]) (st' := [.int x7, .int ((ius (x6 &&& (f_X11_mask x2)) 1) &&& (x7 ^^^ (-1)))]) (σ' := (M, L)) rfl ⟨trivial, trivial⟩ ?_
      refine x_goto C (show decode cX11_shifted 204 = .ok (.goto 4, 3) from by decide +kernel) (tgt := 208) (by decide) ?_
      refine x_lv C [1, 2, 3, 4, 5, 7, 8, 9, 10, 11] rfl ?_
      exact b_X11_shifted_208 r C n rec hrec x2 x3 x4 x5 x7 x8 x9 x10 x11 x7 ((ius (x6 &&& (f_X11_mask x2)) 1) &&& (x7 ^^^ (-1))) M g61 wx7 wx8 wx9 wx11 wx7 hI (hk) h
  · rw [if_neg c60] at h
    refine x_run C e_X11_shifted_45 e_X11_shifted_45_k (pc' := 171) (lv' := [(12, .int s0), (0, .ref 14), (2, .int x2), (3, .int x3), (4, .int x4), (5, .int x5), (6, .int x6), (7, .int x7), (8, .int x8), (9, .int x9), (10, .int x10), (11, .int x11)]) (st' := [.int s0, .int (x6 <<< ((1 : Int32) &&& 31))]) (σ' := (M, L)) rfl ⟨trivial, trivial, trivial, trivial, trivial⟩ ?_
    refine x_if_eq C (show decode cX11_shifted 171 = .ok (.ifCond .eq 7, 3) from by decide +kernel) (tgt := 178) (by decide) (fun c68 => ?_) (fun c68 => ?_)
    · rw [if_pos c68] at h
      have g69 : xrg 0 0 s0 := (x_c_eq ws0 (x_rgc (x := 0) (k := 0) (by decide)) c68).1
      refine x_run C e_X11_shifted_46 e_X11_shifted_46_k (pc' := 179) (lv' := [(12, .int s0), (0, .ref 14), (2, .int x2), (3, .int x3), (4, .int x4), (5, .int x5), (6, .int x6), (7, .int x7), (8, .int x8), (9, .int x9), (10, .int x10), (11, .int x11)]) (st' := [.int 0, .int (x6 <<< ((1 : Int32) &&& 31))]) (σ' := (M, L)) rfl ⟨trivial, trivial⟩ ?_
      refine x_lv C [1, 2, 3, 4, 5, 7, 8, 9, 10, 11] rfl ?_
      exact b_X11_shifted_179 r C n rec hrec x2 x3 x4 x5 x7 x8 x9 x10 x11 0 (x6 <<< ((1 : Int32) &&& 31)) M wx7 wx8 wx9 wx11 (x_rgw (x_rgc (x := 0) (k := 0) (by decide)) (lo' := 0) (hi' := 1) (by decide) (by decide)) hI (hk) h
    · rw [if_neg c68] at h
      have g70 : xrg 1 1 s0 := (x_c_ne ws0 (by decide) c68)
      refine x_run C e_X11_shifted_47 e_X11_shifted_47_k (pc' := 175) (lv' := [(12, .int s0), (0, .ref 14), (2, .int x2), (3, .int x3), (4, .int x4), (5, .int x5), (6, .int x6), (7, .int x7), (8, .int x8), (9, .int x9), (10, .int x10), (11, .int x11)]) (st' := [.int 1, .int (x6 <<< ((1 : Int32) &&& 31))]) (σ' := (M, L)) rfl ⟨trivial, trivial⟩ ?_
      refine x_goto C (show decode cX11_shifted 175 = .ok (.goto 4, 3) from by decide +kernel) (tgt := 179) (by decide) ?_
      refine x_lv C [1, 2, 3, 4, 5, 7, 8, 9, 10, 11] rfl ?_
      exact b_X11_shifted_179 r C n rec hrec x2 x3 x4 x5 x7 x8 x9 x10 x11 1 (x6 <<< ((1 : Int32) &&& 31)) M wx7 wx8 wx9 wx11 (x_rgw (x_rgc (x := 1) (k := 1) (by decide)) (lo' := 0) (hi' := 1) (by decide) (by decide)) hI (hk) h
set_option maxRecDepth 20000 in
set_option maxHeartbeats 4000000 in
theorem b_X11_shifted_125 {l : Launch} {L : Nat → Nat → Int64} {V : XJ} (r : Int32 × St) (C : C_X11_shifted l r L V) (n : Nat) (rec : Int32 → Int32 → Int32 → Int32 → Int32 → Int32 → Int32 → Int32 → Int32 → St → Int32 × St) (hrec : ∀ (x2 : Int32) (x3 : Int32) (x4 : Int32) (x5 : Int32) (x6 : Int32) (x7 : Int32) (x8 : Int32) (x9 : Int32) (x10 : Int32) (M : St), xrg (-2147483648) 32768 x7 → xrg 0 1 x8 → xrg 0 1 x9 → Inv INVM M → ((x5).toInt - x10.toInt).toNat < n → rec x2 x3 x4 x5 x6 x7 x8 x9 x10 M = r → V 0 0 61 [(0, .ref 14), (2, .int x2), (3, .int x3), (4, .int x4), (5, .int x5), (6, .int x6), (7, .int x7), (8, .int x8), (9, .int x9), (10, .int x10)] [] LAY (M, L)) (x2 : Int32) (x3 : Int32) (x4 : Int32) (x5 : Int32) (x6 : Int32) (x7 : Int32) (x8 : Int32) (x9 : Int32) (x10 : Int32) (x11 : Int32) (M : St) (wx3 : xrg 0 0 x3) (wx7 : xrg (-2147483648) 32768 x7) (wx8 : xrg 0 1 x8) (wx9 : xrg 0 1 x9) (wx11 : xrg 0 1 x11) (hI : Inv INVM M) (hk : ((x5).toInt - (x10 + 1).toInt).toNat < n) (h : f_X11_shifted_125 rec x2 x3 x4 x5 x6 x7 x8 x9 x10 x11 M = r) : V 0 0 125 [(0, .ref 14), (2, .int x2), (3, .int x3), (4, .int x4), (5, .int x5), (6, .int x6), (7, .int x7), (8, .int x8), (9, .int x9), (10, .int x10), (11, .int x11)] [] LAY (M, L) := by
  unfold f_X11_shifted_125 at h
  refine x_run C e_X11_shifted_48 e_X11_shifted_48_k (pc' := 126) (lv' := [(0, .ref 14), (2, .int x2), (3, .int x3), (4, .int x4), (5, .int x5), (6, .int x6), (7, .int x7), (8, .int x8), (9, .int x9), (10, .int x10), (11, .int x11)]) (st' := [.int 0]) (σ' := (M, L)) rfl ⟨trivial, trivial⟩ ?_
  refine x_goto C (show decode cX11_shifted 126 = .ok (.goto 32, 3) from by decide +kernel) (tgt := 158) (by decide) ?_
  exact b_X11_shifted_158 r C n rec hrec x2 x3 x4 x5 x6 x7 x8 x9 x10 x11 0 M wx7 wx8 wx9 wx11 (x_rgw (x_rgc (x := 0) (k := 0) (by decide)) (lo' := 0) (hi' := 1) (by decide) (by decide)) hI (hk) h
set_option maxRecDepth 20000 in
set_option maxHeartbeats 4000000 in
theorem b_X11_shifted_157 {l : Launch} {L : Nat → Nat → Int64} {V : XJ} (r : Int32 × St) (C : C_X11_shifted l r L V) (n : Nat) (rec : Int32 → Int32 → Int32 → Int32 → Int32 → Int32 → Int32 → Int32 → Int32 → St → Int32 × St) (hrec : ∀ (x2 : Int32) (x3 : Int32) (x4 : Int32) (x5 : Int32) (x6 : Int32) (x7 : Int32) (x8 : Int32) (x9 : Int32) (x10 : Int32) (M : St), xrg (-2147483648) 32768 x7 → xrg 0 1 x8 → xrg 0 1 x9 → Inv INVM M → ((x5).toInt - x10.toInt).toNat < n → rec x2 x3 x4 x5 x6 x7 x8 x9 x10 M = r → V 0 0 61 [(0, .ref 14), (2, .int x2), (3, .int x3), (4, .int x4), (5, .int x5), (6, .int x6), (7, .int x7), (8, .int x8), (9, .int x9), (10, .int x10)] [] LAY (M, L)) (x2 : Int32) (x3 : Int32) (x4 : Int32) (x5 : Int32) (x6 : Int32) (x7 : Int32) (x8 : Int32) (x9 : Int32) (x10 : Int32) (x11 : Int32) (M : St) (wx7 : xrg (-2147483648) 32768 x7) (wx8 : xrg 0 1 x8) (wx9 : xrg 0 1 x9) (wx11 : xrg 0 1 x11) (hI : Inv INVM M) (hk : ((x5).toInt - (x10 + 1).toInt).toNat < n) (h : f_X11_shifted_157 rec x2 x3 x4 x5 x6 x7 x8 x9 x10 x11 M = r) : V 0 0 157 [(0, .ref 14), (2, .int x2), (3, .int x3), (4, .int x4), (5, .int x5), (6, .int x6), (7, .int x7), (8, .int x8), (9, .int x9), (10, .int x10), (11, .int x11)] [] LAY (M, L) := by
  unfold f_X11_shifted_157 at h
  refine x_run C e_X11_shifted_39 e_X11_shifted_39_k (pc' := 158) (lv' := [(0, .ref 14), (2, .int x2), (3, .int x3), (4, .int x4), (5, .int x5), (6, .int x6), (7, .int x7), (8, .int x8), (9, .int x9), (10, .int x10), (11, .int x11)]) (st' := [.int 0]) (σ' := (M, L)) rfl ⟨trivial, trivial⟩ ?_
  exact b_X11_shifted_158 r C n rec hrec x2 x3 x4 x5 x6 x7 x8 x9 x10 x11 0 M wx7 wx8 wx9 wx11 (x_rgw (x_rgc (x := 0) (k := 0) (by decide)) (lo' := 0) (hi' := 1) (by decide) (by decide)) hI (hk) h
set_option maxRecDepth 20000 in
set_option maxHeartbeats 4000000 in
theorem b_X11_shifted_105 {l : Launch} {L : Nat → Nat → Int64} {V : XJ} (r : Int32 × St) (C : C_X11_shifted l r L V) (n : Nat) (rec : Int32 → Int32 → Int32 → Int32 → Int32 → Int32 → Int32 → Int32 → Int32 → St → Int32 × St) (hrec : ∀ (x2 : Int32) (x3 : Int32) (x4 : Int32) (x5 : Int32) (x6 : Int32) (x7 : Int32) (x8 : Int32) (x9 : Int32) (x10 : Int32) (M : St), xrg (-2147483648) 32768 x7 → xrg 0 1 x8 → xrg 0 1 x9 → Inv INVM M → ((x5).toInt - x10.toInt).toNat < n → rec x2 x3 x4 x5 x6 x7 x8 x9 x10 M = r → V 0 0 61 [(0, .ref 14), (2, .int x2), (3, .int x3), (4, .int x4), (5, .int x5), (6, .int x6), (7, .int x7), (8, .int x8), (9, .int x9), (10, .int x10)] [] LAY (M, L)) (x2 : Int32) (x3 : Int32) (x4 : Int32) (x5 : Int32) (x6 : Int32) (x7 : Int32) (x8 : Int32) (x9 : Int32) (x10 : Int32) (s0 : Int32) (M : St) (wx7 : xrg (-2147483648) 32768 x7) (wx8 : xrg 0 1 x8) (wx9 : xrg 0 1 x9) (ws0 : xrg 0 1 s0) (hI : Inv INVM M) (hk : ((x5).toInt - (x10 + 1).toInt).toNat < n) (h : f_X11_shifted_105 rec x2 x3 x4 x5 x6 x7 x8 x9 x10 s0 M = r) : V 0 0 105 [(0, .ref 14), (2, .int x2), (3, .int x3), (4, .int x4), (5, .int x5), (6, .int x6), (7, .int x7), (8, .int x8), (9, .int x9), (10, .int x10)] [.int s0] LAY (M, L) := by
  unfold f_X11_shifted_105 at h
  refine x_run C e_X11_shifted_30 e_X11_shifted_30_k (pc' := 108) (lv' := [(11, .int s0), (0, .ref 14), (2, .int x2), (3, .int x3), (4, .int x4), (5, .int x5), (6, .int x6), (7, .int x7), (8, .int x8), (9, .int x9), (10, .int x10)]) (st' := [.int x3]) (σ' := (M, L)) rfl ⟨trivial, trivial, trivial⟩ ?_
  refine x_if_ne C (show decode cX11_shifted 108 = .ok (.ifCond .ne 21, 3) from by decide +kernel) (tgt := 129) (by decide) (fun c43 => ?_) (fun c43 => ?_)
  · rw [if_neg c43] at h
    refine x_run C e_X11_shifted_31 e_X11_shifted_31_k (pc' := 131) (lv' := [(11, .int s0), (0, .ref 14), (2, .int x2), (3, .int x3), (4, .int x4), (5, .int x5), (6, .int x6), (7, .int x7), (8, .int x8), (9, .int x9), (10, .int x10)]) (st' := [.int 2, .int x3]) (σ' := (M, L)) rfl ⟨trivial, trivial, trivial⟩ ?_
    refine x_icmp_ne C (show decode cX11_shifted 131 = .ok (.if_icmp .ne 12, 3) from by decide +kernel) (tgt := 143) (by decide) (fun c44 => ?_) (fun c44 => ?_)
    · rw [if_neg c44] at h
      refine x_run C e_X11_shifted_32 e_X11_shifted_32_k (pc' := 145) (lv' := [(11, .int s0), (0, .ref 14), (2, .int x2), (3, .int x3), (4, .int x4), (5, .int x5), (6, .int x6), (7, .int x7), (8, .int x8), (9, .int x9), (10, .int x10)]) (st' := [.int 3, .int x3]) (σ' := (M, L)) rfl ⟨trivial, trivial, trivial⟩ ?_
      refine x_icmp_ne C (show decode cX11_shifted 145 = .ok (.if_icmp .ne 12, 3) from by decide +kernel) (tgt := 157) (by decide) (fun c45 => ?_) (fun c45 => ?_)
      · rw [if_neg c45] at h
        refine x_lv C [1, 2, 3, 4, 5, 6, 7, 8, 9, 10, 0] rfl ?_
        exact b_X11_shifted_157 r C n rec hrec x2 x3 x4 x5 x6 x7 x8 x9 x10 s0 M wx7 wx8 wx9 ws0 hI (hk) h
      · rw [if_pos c45] at h
        have g46 : xrg 3 3 x3 := (x_c_eq (x_rgt x3) (x_rgc (x := 3) (k := 3) (by decide)) c45).1
        refine x_run C e_X11_shifted_33 e_X11_shifted_33_k (pc' := 150) (lv' := [(11, .int s0), (0, .ref 14), (2, .int x2), (3, .int x3), (4, .int x4), (5, .int x5), (6, .int x6), (7, .int x7), (8, .int x8), (9, .int x9), (10, .int x10)]) (st' := [.int x8]) (σ' := (M, L)) rfl ⟨trivial, trivial⟩ ?_
        refine x_if_eq C (show decode cX11_shifted 150 = .ok (.ifCond .eq 7, 3) from by decide +kernel) (tgt := 157) (by decide) (fun c47 => ?_) (fun c47 => ?_)
        · rw [if_pos c47] at h
          have g48 : xrg 0 0 x8 := (x_c_eq wx8 (x_rgc (x := 0) (k := 0) (by decide)) c47).1
          refine x_lv C [1, 2, 3, 4, 5, 6, 7, 8, 9, 10, 0] rfl ?_
          exact b_X11_shifted_157 r C n rec hrec x2 x3 x4 x5 x6 x7 x8 x9 x10 s0 M wx7 (x_rgw g48 (lo' := 0) (hi' := 1) (by decide) (by decide)) wx9 ws0 hI (hk) h
        · rw [if_neg c47] at h
          have g49 : xrg 1 1 x8 := (x_c_ne wx8 (by decide) c47)
          refine x_run C e_X11_shifted_34 e_X11_shifted_34_k (pc' := 154) (lv' := [(11, .int s0), (0, .ref 14), (2, .int x2), (3, .int x3), (4, .int x4), (5, .int x5), (6, .int x6), (7, .int x7), (8, .int x8), (9, .int x9), (10, .int x10)]) (st' := [.int 1]) (σ' := (M, L)) rfl ⟨trivial, trivial⟩ ?_
          refine x_goto C (show decode cX11_shifted 154 = .ok (.goto 4, 3) from by decide +kernel) (tgt := 158) (by decide) ?_
          refine x_lv C [1, 2, 3, 4, 5, 6, 7, 8, 9, 10, 0] rfl ?_
          exact b_X11_shifted_158 r C n rec hrec x2 x3 x4 x5 x6 x7 x8 x9 x10 s0 1 M wx7 (x_rgw g49 (lo' := 0) (hi' := 1) (by decide) (by decide)) wx9 ws0 (x_rgw (x_rgc (x := 1) (k := 1) (by decide)) (lo' := 0) (hi' := 1) (by decide) (by decide)) hI (hk) h
    · rw [if_pos c44] at h
      have g50 : xrg 2 2 x3 := (x_c_eq (x_rgt x3) (x_rgc (x := 2) (k := 2) (by decide)) c44).1
      refine x_run C e_X11_shifted_35 e_X11_shifted_35_k (pc' := 137) (lv' := [(11, .int s0), (0, .ref 14), (2, .int x2), (3, .int x3), (4, .int x4), (5, .int x5), (6, .int x6), (7, .int x7), (8, .int x8), (9, .int x9), (10, .int x10)]) (st' := [.int 16, .ref 14]) (σ' := (M, L)) rfl ⟨trivial, trivial, trivial⟩ ?_
      refine x_callV C (k := 14) (ci := 8) (rest := []) (avs := [.int 16]) (k_X11_has l 16 M L hI) yoX11_has ml_X11_55 rfl rfl rfl rfl ⟨Nat.zero_le _, Nat.zero_le _⟩ (show decode cX11_shifted 137 = .ok (.invokevirtual 55, 3) from by decide +kernel) rfl (fun v σ' hPo => ?_)
      obtain ⟨⟨rfl, rfl⟩, g52, hI53⟩ := hPo
      show V 0 0 140 [(11, .int s0), (0, .ref 14), (2, .int x2), (3, .int x3), (4, .int x4), (5, .int x5), (6, .int x6), (7, .int x7), (8, .int x8), (9, .int x9), (10, .int x10)] [.int (f_X11_has 16 M)] LAY (M, L)
      refine x_goto C (show decode cX11_shifted 140 = .ok (.goto 18, 3) from by decide +kernel) (tgt := 158) (by decide) ?_
      refine x_lv C [1, 2, 3, 4, 5, 6, 7, 8, 9, 10, 0] rfl ?_
      exact b_X11_shifted_158 r C n rec hrec x2 x3 x4 x5 x6 x7 x8 x9 x10 s0 (f_X11_has 16 M) M wx7 wx8 wx9 ws0 g52 hI (hk) h
  · rw [if_pos c43] at h
    have g54 : xrg 0 0 x3 := (x_c_eq (x_rgt x3) (x_rgc (x := 0) (k := 0) (by decide)) c43).1
    refine x_run C e_X11_shifted_36 e_X11_shifted_36_k (pc' := 113) (lv' := [(11, .int s0), (0, .ref 14), (2, .int x2), (3, .int x3), (4, .int x4), (5, .int x5), (6, .int x6), (7, .int x7), (8, .int x8), (9, .int x9), (10, .int x10)]) (st' := [.int x4]) (σ' := (M, L)) rfl ⟨trivial, trivial⟩ ?_
    refine x_if_ne C (show decode cX11_shifted 113 = .ok (.ifCond .ne 12, 3) from by decide +kernel) (tgt := 125) (by decide) (fun c55 => ?_) (fun c55 => ?_)
    · rw [if_neg c55] at h
      refine x_lv C [1, 2, 3, 4, 5, 6, 7, 8, 9, 10, 0] rfl ?_
      exact b_X11_shifted_125 r C n rec hrec x2 x3 x4 x5 x6 x7 x8 x9 x10 s0 M g54 wx7 wx8 wx9 ws0 hI (hk) h
    · rw [if_pos c55] at h
      have g56 : xrg 0 0 x4 := (x_c_eq (x_rgt x4) (x_rgc (x := 0) (k := 0) (by decide)) c55).1
      refine x_run C e_X11_shifted_37 e_X11_shifted_37_k (pc' := 118) (lv' := [(11, .int s0), (0, .ref 14), (2, .int x2), (3, .int x3), (4, .int x4), (5, .int x5), (6, .int x6), (7, .int x7), (8, .int x8), (9, .int x9), (10, .int x10)]) (st' := [.int s0]) (σ' := (M, L)) rfl ⟨trivial, trivial⟩ ?_
      refine x_if_eq C (show decode cX11_shifted 118 = .ok (.ifCond .eq 7, 3) from by decide +kernel) (tgt := 125) (by decide) (fun c57 => ?_) (fun c57 => ?_)
      · rw [if_pos c57] at h
        have g58 : xrg 0 0 s0 := (x_c_eq ws0 (x_rgc (x := 0) (k := 0) (by decide)) c57).1
        refine x_lv C [1, 2, 3, 4, 5, 6, 7, 8, 9, 10, 0] rfl ?_
        exact b_X11_shifted_125 r C n rec hrec x2 x3 x4 x5 x6 x7 x8 x9 x10 s0 M g54 wx7 wx8 wx9 (x_rgw g58 (lo' := 0) (hi' := 1) (by decide) (by decide)) hI (hk) h
      · rw [if_neg c57] at h
        have g59 : xrg 1 1 s0 := (x_c_ne ws0 (by decide) c57)
        refine x_run C e_X11_shifted_38 e_X11_shifted_38_k (pc' := 122) (lv' := [(11, .int s0), (0, .ref 14), (2, .int x2), (3, .int x3), (4, .int x4), (5, .int x5), (6, .int x6), (7, .int x7), (8, .int x8), (9, .int x9), (10, .int x10)]) (st' := [.int 1]) (σ' := (M, L)) rfl ⟨trivial, trivial⟩ ?_
        refine x_goto C (show decode cX11_shifted 122 = .ok (.goto 36, 3) from by decide +kernel) (tgt := 158) (by decide) ?_
        refine x_lv C [1, 2, 3, 4, 5, 6, 7, 8, 9, 10, 0] rfl ?_
        exact b_X11_shifted_158 r C n rec hrec x2 x3 x4 x5 x6 x7 x8 x9 x10 s0 1 M wx7 wx8 wx9 (x_rgw g59 (lo' := 0) (hi' := 1) (by decide) (by decide)) (x_rgw (x_rgc (x := 1) (k := 1) (by decide)) (lo' := 0) (hi' := 1) (by decide) (by decide)) hI (hk) h
set_option maxRecDepth 20000 in
set_option maxHeartbeats 4000000 in
theorem b_X11_shifted_90 {l : Launch} {L : Nat → Nat → Int64} {V : XJ} (r : Int32 × St) (C : C_X11_shifted l r L V) (n : Nat) (rec : Int32 → Int32 → Int32 → Int32 → Int32 → Int32 → Int32 → Int32 → Int32 → St → Int32 × St) (hrec : ∀ (x2 : Int32) (x3 : Int32) (x4 : Int32) (x5 : Int32) (x6 : Int32) (x7 : Int32) (x8 : Int32) (x9 : Int32) (x10 : Int32) (M : St), xrg (-2147483648) 32768 x7 → xrg 0 1 x8 → xrg 0 1 x9 → Inv INVM M → ((x5).toInt - x10.toInt).toNat < n → rec x2 x3 x4 x5 x6 x7 x8 x9 x10 M = r → V 0 0 61 [(0, .ref 14), (2, .int x2), (3, .int x3), (4, .int x4), (5, .int x5), (6, .int x6), (7, .int x7), (8, .int x8), (9, .int x9), (10, .int x10)] [] LAY (M, L)) (x2 : Int32) (x3 : Int32) (x4 : Int32) (x5 : Int32) (x6 : Int32) (x7 : Int32) (x9 : Int32) (x10 : Int32) (s0 : Int32) (M : St) (wx7 : xrg (-2147483648) 32768 x7) (wx9 : xrg 0 1 x9) (ws0 : xrg 0 1 s0) (hI : Inv INVM M) (hk : ((x5).toInt - (x10 + 1).toInt).toNat < n) (h : f_X11_shifted_90 rec x2 x3 x4 x5 x6 x7 x9 x10 s0 M = r) : V 0 0 90 [(0, .ref 14), (2, .int x2), (3, .int x3), (4, .int x4), (5, .int x5), (6, .int x6), (7, .int x7), (9, .int x9), (10, .int x10)] [.int s0] LAY (M, L) := by
  unfold f_X11_shifted_90 at h
  refine x_run C e_X11_shifted_27 e_X11_shifted_27_k (pc' := 97) (lv' := [(8, .int s0), (0, .ref 14), (2, .int x2), (3, .int x3), (4, .int x4), (5, .int x5), (6, .int x6), (7, .int x7), (9, .int x9), (10, .int x10)]) (st' := [.int (x6 &&& x7)]) (σ' := (M, L)) rfl ⟨trivial, trivial, trivial, trivial, trivial⟩ ?_
  refine x_if_eq C (show decode cX11_shifted 97 = .ok (.ifCond .eq 7, 3) from by decide +kernel) (tgt := 104) (by decide) (fun c41 => ?_) (fun c41 => ?_)
  · rw [if_pos c41] at h
    have g42 : xrg 0 0 (x6 &&& x7) := (x_c_eq (x_rgt (x6 &&& x7)) (x_rgc (x := 0) (k := 0) (by decide)) c41).1
    refine x_run C e_X11_shifted_28 e_X11_shifted_28_k (pc' := 105) (lv' := [(8, .int s0), (0, .ref 14), (2, .int x2), (3, .int x3), (4, .int x4), (5, .int x5), (6, .int x6), (7, .int x7), (9, .int x9), (10, .int x10)]) (st' := [.int 0]) (σ' := (M, L)) rfl ⟨trivial, trivial⟩ ?_
    refine x_lv C [1, 2, 3, 4, 5, 6, 7, 0, 8, 9] rfl ?_
    exact b_X11_shifted_105 r C n rec hrec x2 x3 x4 x5 x6 x7 s0 x9 x10 0 M wx7 ws0 wx9 (x_rgw (x_rgc (x := 0) (k := 0) (by decide)) (lo' := 0) (hi' := 1) (by decide) (by decide)) hI (hk) h
  · rw [if_neg c41] at h
    refine x_run C e_X11_shifted_29 e_X11_shifted_29_k (pc' := 101) (lv' := [(8, .int s0), (0, .ref 14), (2, .int x2), (3, .int x3), (4, .int x4), (5, .int x5), (6, .int x6), (7, .int x7), (9, .int x9), (10, .int x10)]) (st' := [.int 1]) (σ' := (M, L)) rfl ⟨trivial, trivial⟩ ?_
    refine x_goto C (show decode cX11_shifted 101 = .ok (.goto 4, 3) from by decide +kernel) (tgt := 105) (by decide) ?_
    refine x_lv C [1, 2, 3, 4, 5, 6, 7, 0, 8, 9] rfl ?_
    exact b_X11_shifted_105 r C n rec hrec x2 x3 x4 x5 x6 x7 s0 x9 x10 1 M wx7 ws0 wx9 (x_rgw (x_rgc (x := 1) (k := 1) (by decide)) (lo' := 0) (hi' := 1) (by decide) (by decide)) hI (hk) h
set_option maxRecDepth 20000 in
set_option maxHeartbeats 4000000 in
theorem b_X11_shifted_81 {l : Launch} {L : Nat → Nat → Int64} {V : XJ} (r : Int32 × St) (C : C_X11_shifted l r L V) (n : Nat) (rec : Int32 → Int32 → Int32 → Int32 → Int32 → Int32 → Int32 → Int32 → Int32 → St → Int32 × St) (hrec : ∀ (x2 : Int32) (x3 : Int32) (x4 : Int32) (x5 : Int32) (x6 : Int32) (x7 : Int32) (x8 : Int32) (x9 : Int32) (x10 : Int32) (M : St), xrg (-2147483648) 32768 x7 → xrg 0 1 x8 → xrg 0 1 x9 → Inv INVM M → ((x5).toInt - x10.toInt).toNat < n → rec x2 x3 x4 x5 x6 x7 x8 x9 x10 M = r → V 0 0 61 [(0, .ref 14), (2, .int x2), (3, .int x3), (4, .int x4), (5, .int x5), (6, .int x6), (7, .int x7), (8, .int x8), (9, .int x9), (10, .int x10)] [] LAY (M, L)) (x2 : Int32) (x3 : Int32) (x4 : Int32) (x5 : Int32) (x6 : Int32) (x7 : Int32) (x9 : Int32) (x10 : Int32) (s0 : Int32) (s1 : Int32) (M : St) (wx7 : xrg (-2147483648) 32768 x7) (wx9 : xrg 0 1 x9) (ws0 : xrg (-2147483648) 32768 s0) (hI : Inv INVM M) (hk : ((x5).toInt - (x10 + 1).toInt).toNat < n) (h : f_X11_shifted_81 rec x2 x3 x4 x5 x6 x7 x9 x10 s0 s1 M = r) : V 0 0 81 [(0, .ref 14), (2, .int x2), (3, .int x3), (4, .int x4), (5, .int x5), (6, .int x6), (7, .int x7), (9, .int x9), (10, .int x10)] [.int s0, .int s1] LAY (M, L) := by
  unfold f_X11_shifted_81 at h
  refine x_run C e_X11_shifted_24 e_X11_shifted_24_k (pc' := 82) (lv' := [(0, .ref 14), (2, .int x2), (3, .int x3), (4, .int x4), (5, .int x5), (6, .int x6), (7, .int x7), (9, .int x9), (10, .int x10)]) (st' := [.int (s1 &&& s0)]) (σ' := (M, L)) rfl ⟨trivial, trivial⟩ ?_
  refine x_if_eq C (show decode cX11_shifted 82 = .ok (.ifCond .eq 7, 3) from by decide +kernel) (tgt := 89) (by decide) (fun c39 => ?_) (fun c39 => ?_)
  · rw [if_pos c39] at h
    have g40 : xrg 0 0 (s1 &&& s0) := (x_c_eq (x_rgt (s1 &&& s0)) (x_rgc (x := 0) (k := 0) (by decide)) c39).1
    refine x_run C e_X11_shifted_25 e_X11_shifted_25_k (pc' := 90) (lv' := [(0, .ref 14), (2, .int x2), (3, .int x3), (4, .int x4), (5, .int x5), (6, .int x6), (7, .int x7), (9, .int x9), (10, .int x10)]) (st' := [.int 0]) (σ' := (M, L)) rfl ⟨trivial, trivial⟩ ?_
    exact b_X11_shifted_90 r C n rec hrec x2 x3 x4 x5 x6 x7 x9 x10 0 M wx7 wx9 (x_rgw (x_rgc (x := 0) (k := 0) (by decide)) (lo' := 0) (hi' := 1) (by decide) (by decide)) hI (hk) h
  · rw [if_neg c39] at h
    refine x_run C e_X11_shifted_26 e_X11_shifted_26_k (pc' := 86) (lv' := [(0, .ref 14), (2, .int x2), (3, .int x3), (4, .int x4), (5, .int x5), (6, .int x6), (7, .int x7), (9, .int x9), (10, .int x10)]) (st' := [.int 1]) (σ' := (M, L)) rfl ⟨trivial, trivial⟩ ?_
    refine x_goto C (show decode cX11_shifted 86 = .ok (.goto 4, 3) from by decide +kernel) (tgt := 90) (by decide) ?_
    exact b_X11_shifted_90 r C n rec hrec x2 x3 x4 x5 x6 x7 x9 x10 1 M wx7 wx9 (x_rgw (x_rgc (x := 1) (k := 1) (by decide)) (lo' := 0) (hi' := 1) (by decide) (by decide)) hI (hk) h
set_option maxRecDepth 20000 in
set_option maxHeartbeats 4000000 in
theorem b_X11_shifted_61 {l : Launch} {L : Nat → Nat → Int64} {V : XJ} (r : Int32 × St) (C : C_X11_shifted l r L V) : ∀ (n : Nat) (x2 : Int32) (x3 : Int32) (x4 : Int32) (x5 : Int32) (x6 : Int32) (x7 : Int32) (x8 : Int32) (x9 : Int32) (x10 : Int32) (M : St), xrg (-2147483648) 32768 x7 → xrg 0 1 x8 → xrg 0 1 x9 → Inv INVM M → ((x5).toInt - x10.toInt).toNat < n → f_X11_shifted_61 n x2 x3 x4 x5 x6 x7 x8 x9 x10 M = r → V 0 0 61 [(0, .ref 14), (2, .int x2), (3, .int x3), (4, .int x4), (5, .int x5), (6, .int x6), (7, .int x7), (8, .int x8), (9, .int x9), (10, .int x10)] [] LAY (M, L) := by
  intro n
  induction n with
  | zero => intro x2 x3 x4 x5 x6 x7 x8 x9 x10 M  wx7 wx8 wx9 hI hm; exact absurd hm (Nat.not_lt_zero _)
  | succ n ih =>
    intro x2 x3 x4 x5 x6 x7 x8 x9 x10 M  wx7 wx8 wx9 hI hm h
    unfold f_X11_shifted_61 at h
    refine x_run C e_X11_shifted_12 e_X11_shifted_12_k (pc' := 65) (lv' := [(0, .ref 14), (2, .int x2), (3, .int x3), (4, .int x4), (5, .int x5), (6, .int x6), (7, .int x7), (8, .int x8), (9, .int x9), (10, .int x10)]) (st' := [.int x5, .int x10]) (σ' := (M, L)) rfl ⟨trivial, trivial, trivial⟩ ?_
    refine x_icmp_ge C (show decode cX11_shifted 65 = .ok (.if_icmp .ge 195, 3) from by decide +kernel) (tgt := 260) (by decide) (fun c15 => ?_) (fun c15 => ?_)
    · rw [if_pos c15] at h
      have g16 : xrg (-2147483648) 2147483647 x5 := (x_c_le (x_rgt x5) (x_rgt x10) c15).1
      have g17 : xrg (-2147483648) 2147483647 x10 := (x_c_le (x_rgt x5) (x_rgt x10) c15).2
      refine x_run C e_X11_shifted_13 e_X11_shifted_13_k (pc' := 264) (lv' := [(0, .ref 14), (2, .int x2), (3, .int x3), (4, .int x4), (5, .int x5), (6, .int x6), (7, .int x7), (8, .int x8), (9, .int x9), (10, .int x10)]) (st' := [.int x6, .int x2, .ref 14]) (σ' := (M, L)) rfl ⟨trivial, trivial, trivial, trivial⟩ ?_
      refine x_callV C (k := 14) (ci := 8) (rest := []) (avs := [.int x2, .int x6]) (k_X11_test l x2 x6 M L hI) yoX11_test ml_X11_196 rfl rfl rfl rfl ⟨Nat.zero_le _, Nat.zero_le _⟩ (show decode cX11_shifted 264 = .ok (.invokevirtual 196, 3) from by decide +kernel) rfl (fun v σ' hPo => ?_)
      obtain ⟨⟨rfl, rfl⟩, hI20⟩ := hPo
      generalize hq18 : f_X11_test x2 x6 M = q18 at h hI20 ⊢
      have h := xb_eq h
      show V 0 0 267 [(0, .ref 14), (2, .int x2), (3, .int x3), (4, .int x4), (5, .int x5), (6, .int x6), (7, .int x7), (8, .int x8), (9, .int x9), (10, .int x10)] [] LAY (q18, L)
      refine x_run C e_X11_shifted_14 e_X11_shifted_14_k (pc' := 271) (lv' := [(0, .ref 14), (2, .int x2), (3, .int x3), (4, .int x4), (5, .int x5), (6, .int x6), (7, .int x7), (8, .int x8), (9, .int x9), (10, .int x10)]) (st' := [.int x8, .int 1, .ref 14]) (σ' := (q18, L)) rfl ⟨trivial, trivial, trivial, trivial⟩ ?_
      refine x_callV C (k := 14) (ci := 8) (rest := []) (avs := [.int 1, .int x8]) (k_X11_flag l 1 x8 q18 L hI20) yoX11_flag ml_X11_135 rfl rfl rfl rfl ⟨Nat.zero_le _, Nat.zero_le _⟩ (show decode cX11_shifted 271 = .ok (.invokevirtual 135, 3) from by decide +kernel) rfl (fun v σ' hPo => ?_)
      obtain ⟨⟨rfl, rfl⟩, hI23⟩ := hPo
      generalize hq21 : f_X11_flag 1 x8 q18 = q21 at h hI23 ⊢
      have h := xb_eq h
      show V 0 0 274 [(0, .ref 14), (2, .int x2), (3, .int x3), (4, .int x4), (5, .int x5), (6, .int x6), (7, .int x7), (8, .int x8), (9, .int x9), (10, .int x10)] [] LAY (q21, L)
      refine x_run C e_X11_shifted_15 e_X11_shifted_15_k (pc' := 277) (lv' := [(0, .ref 14), (2, .int x2), (3, .int x3), (4, .int x4), (5, .int x5), (6, .int x6), (7, .int x7), (8, .int x8), (9, .int x9), (10, .int x10)]) (st' := [.int x3, .int 2, .ref 14]) (σ' := (q21, L)) rfl ⟨trivial, trivial, trivial, trivial⟩ ?_
      refine x_if_ne C (show decode cX11_shifted 277 = .ok (.ifCond .ne 17, 3) from by decide +kernel) (tgt := 294) (by decide) (fun c24 => ?_) (fun c24 => ?_)
      · rw [if_neg c24] at h
        refine x_lv C [5] rfl ?_
        exact b_X11_shifted_294 r C x6 2 q21 (x_rgc (x := 2) (k := 2) (by decide)) hI23 h
      · rw [if_pos c24] at h
        have g25 : xrg 0 0 x3 := (x_c_eq (x_rgt x3) (x_rgc (x := 0) (k := 0) (by decide)) c24).1
        refine x_run C e_X11_shifted_16 e_X11_shifted_16_k (pc' := 282) (lv' := [(0, .ref 14), (2, .int x2), (3, .int x3), (4, .int x4), (5, .int x5), (6, .int x6), (7, .int x7), (8, .int x8), (9, .int x9), (10, .int x10)]) (st' := [.int x4, .int 2, .ref 14]) (σ' := (q21, L)) rfl ⟨trivial, trivial⟩ ?_
        refine x_if_eq C (show decode cX11_shifted 282 = .ok (.ifCond .eq 12, 3) from by decide +kernel) (tgt := 294) (by decide) (fun c26 => ?_) (fun c26 => ?_)
        · rw [if_pos c26] at h
          have g27 : xrg 0 0 x4 := (x_c_eq (x_rgt x4) (x_rgc (x := 0) (k := 0) (by decide)) c26).1
          refine x_lv C [5] rfl ?_
          exact b_X11_shifted_294 r C x6 2 q21 (x_rgc (x := 2) (k := 2) (by decide)) hI23 h
        · rw [if_neg c26] at h
          refine x_run C e_X11_shifted_17 e_X11_shifted_17_k (pc' := 287) (lv' := [(0, .ref 14), (2, .int x2), (3, .int x3), (4, .int x4), (5, .int x5), (6, .int x6), (7, .int x7), (8, .int x8), (9, .int x9), (10, .int x10)]) (st' := [.int x9, .int 2, .ref 14]) (σ' := (q21, L)) rfl ⟨trivial, trivial⟩ ?_
          refine x_if_eq C (show decode cX11_shifted 287 = .ok (.ifCond .eq 7, 3) from by decide +kernel) (tgt := 294) (by decide) (fun c28 => ?_) (fun c28 => ?_)
          · rw [if_pos c28] at h
            have g29 : xrg 0 0 x9 := (x_c_eq wx9 (x_rgc (x := 0) (k := 0) (by decide)) c28).1
            refine x_lv C [5] rfl ?_
            exact b_X11_shifted_294 r C x6 2 q21 (x_rgc (x := 2) (k := 2) (by decide)) hI23 h
          · rw [if_neg c28] at h
            have g30 : xrg 1 1 x9 := (x_c_ne wx9 (by decide) c28)
            refine x_run C e_X11_shifted_18 e_X11_shifted_18_k (pc' := 291) (lv' := [(0, .ref 14), (2, .int x2), (3, .int x3), (4, .int x4), (5, .int x5), (6, .int x6), (7, .int x7), (8, .int x8), (9, .int x9), (10, .int x10)]) (st' := [.int 1, .int 2, .ref 14]) (σ' := (q21, L)) rfl ⟨trivial, trivial⟩ ?_
            refine x_goto C (show decode cX11_shifted 291 = .ok (.goto 4, 3) from by decide +kernel) (tgt := 295) (by decide) ?_
            refine x_lv C [5] rfl ?_
            exact b_X11_shifted_295 r C x6 1 2 q21 (x_rgw (x_rgc (x := 1) (k := 1) (by decide)) (lo' := 0) (hi' := 1) (by decide) (by decide)) (x_rgc (x := 2) (k := 2) (by decide)) hI23 h
    · rw [if_neg c15] at h
      have g31 : xrg (-2147483647) 2147483647 x5 := (x_c_nle (x_rgt x5) (x_rgt x10) c15).1
      have g32 : xrg (-2147483648) 2147483646 x10 := (x_c_nle (x_rgt x5) (x_rgt x10) c15).2
      have hk33 := x_meas (x_nle c15) hm
      refine x_run C e_X11_shifted_19 e_X11_shifted_19_k (pc' := 72) (lv' := [(0, .ref 14), (2, .int x2), (3, .int x3), (4, .int x4), (5, .int x5), (6, .int x6), (7, .int x7), (8, .int x8), (9, .int x9), (10, .int x10)]) (st' := [.int x4, .int x6]) (σ' := (M, L)) rfl ⟨trivial, trivial, trivial⟩ ?_
      refine x_if_eq C (show decode cX11_shifted 72 = .ok (.ifCond .eq 8, 3) from by decide +kernel) (tgt := 80) (by decide) (fun c34 => ?_) (fun c34 => ?_)
      · rw [if_pos c34] at h
        have g35 : xrg 0 0 x4 := (x_c_eq (x_rgt x4) (x_rgc (x := 0) (k := 0) (by decide)) c34).1
        refine x_run C e_X11_shifted_20 e_X11_shifted_20_k (pc' := 81) (lv' := [(0, .ref 14), (2, .int x2), (3, .int x3), (4, .int x4), (5, .int x5), (6, .int x6), (7, .int x7), (8, .int x8), (9, .int x9), (10, .int x10)]) (st' := [.int 1, .int x6]) (σ' := (M, L)) rfl ⟨trivial, trivial⟩ ?_
        refine x_lv C [0, 1, 2, 3, 4, 5, 6, 8, 9] rfl ?_
        exact b_X11_shifted_81 r C n (f_X11_shifted_61 n) ih x2 x3 x4 x5 x6 x7 x9 x10 1 x6 M wx7 wx9 (x_rgw (x_rgc (x := 1) (k := 1) (by decide)) (lo' := (-2147483648)) (hi' := 32768) (by decide) (by decide)) hI (hk33) h
      · rw [if_neg c34] at h
        refine x_run C e_X11_shifted_21 e_X11_shifted_21_k (pc' := 77) (lv' := [(0, .ref 14), (2, .int x2), (3, .int x3), (4, .int x4), (5, .int x5), (6, .int x6), (7, .int x7), (8, .int x8), (9, .int x9), (10, .int x10)]) (st' := [.int x7, .int x6]) (σ' := (M, L)) rfl ⟨trivial, trivial⟩ ?_
        refine x_goto C (show decode cX11_shifted 77 = .ok (.goto 4, 3) from by decide +kernel) (tgt := 81) (by decide) ?_
        refine x_lv C [0, 1, 2, 3, 4, 5, 6, 8, 9] rfl ?_
        exact b_X11_shifted_81 r C n (f_X11_shifted_61 n) ih x2 x3 x4 x5 x6 x7 x9 x10 x7 x6 M wx7 wx9 wx7 hI (hk33) h
set_option maxRecDepth 20000 in
set_option maxHeartbeats 4000000 in
theorem b_X11_shifted_53 {l : Launch} {L : Nat → Nat → Int64} {V : XJ} (r : Int32 × St) (C : C_X11_shifted l r L V) (x2 : Int32) (x3 : Int32) (x4 : Int32) (x5 : Int32) (x6 : Int32) (x7 : Int32) (s0 : Int32) (M : St) (wx7 : xrg (-2147483648) 32768 x7) (ws0 : xrg 0 1 s0) (hI : Inv INVM M) (h : f_X11_shifted_53 x2 x3 x4 x5 x6 x7 s0 M = r) : V 0 0 53 [(0, .ref 14), (2, .int x2), (3, .int x3), (4, .int x4), (5, .int x5), (6, .int x6), (7, .int x7)] [.int s0] LAY (M, L) := by
  unfold f_X11_shifted_53 at h
  refine x_run C e_X11_shifted_11 e_X11_shifted_11_k (pc' := 61) (lv' := [(10, .int 0), (9, .int 0), (8, .int s0), (0, .ref 14), (2, .int x2), (3, .int x3), (4, .int x4), (5, .int x5), (6, .int x6), (7, .int x7)]) (st' := []) (σ' := (M, L)) rfl ⟨trivial, trivial, trivial, trivial, trivial, trivial⟩ ?_
  refine x_lv C [3, 4, 5, 6, 7, 8, 9, 2, 1, 0] rfl ?_
  exact b_X11_shifted_61 r C (((x5).toInt - (0 : Int32).toInt).toNat + 1) x2 x3 x4 x5 x6 x7 s0 0 0 M wx7 ws0 (x_rgw (x_rgc (x := 0) (k := 0) (by decide)) (lo' := 0) (hi' := 1) (by decide) (by decide)) hI (Nat.lt_succ_self _) h
set_option maxRecDepth 20000 in
set_option maxHeartbeats 4000000 in
theorem b_X11_shifted_52 {l : Launch} {L : Nat → Nat → Int64} {V : XJ} (r : Int32 × St) (C : C_X11_shifted l r L V) (x2 : Int32) (x3 : Int32) (x4 : Int32) (x5 : Int32) (x6 : Int32) (x7 : Int32) (M : St) (wx7 : xrg (-2147483648) 32768 x7) (hI : Inv INVM M) (h : f_X11_shifted_52 x2 x3 x4 x5 x6 x7 M = r) : V 0 0 52 [(0, .ref 14), (2, .int x2), (3, .int x3), (4, .int x4), (5, .int x5), (6, .int x6), (7, .int x7)] [] LAY (M, L) := by
  unfold f_X11_shifted_52 at h
  refine x_run C e_X11_shifted_10 e_X11_shifted_10_k (pc' := 53) (lv' := [(0, .ref 14), (2, .int x2), (3, .int x3), (4, .int x4), (5, .int x5), (6, .int x6), (7, .int x7)]) (st' := [.int 0]) (σ' := (M, L)) rfl ⟨trivial, trivial⟩ ?_
  exact b_X11_shifted_53 r C x2 x3 x4 x5 x6 x7 0 M wx7 (x_rgw (x_rgc (x := 0) (k := 0) (by decide)) (lo' := 0) (hi' := 1) (by decide) (by decide)) hI h
set_option maxRecDepth 20000 in
set_option maxHeartbeats 4000000 in
theorem b_X11_shifted_27 {l : Launch} {L : Nat → Nat → Int64} {V : XJ} (r : Int32 × St) (C : C_X11_shifted l r L V) (x2 : Int32) (x3 : Int32) (x4 : Int32) (x5 : Int32) (x6 : Int32) (s0 : Int32) (M : St) (ws0 : xrg (-2147483648) 32768 s0) (hI : Inv INVM M) (h : f_X11_shifted_27 x2 x3 x4 x5 x6 s0 M = r) : V 0 0 27 [(0, .ref 14), (2, .int x2), (3, .int x3), (4, .int x4), (5, .int x5), (6, .int x6)] [.int s0] LAY (M, L) := by
  unfold f_X11_shifted_27 at h
  refine x_run C e_X11_shifted_6 e_X11_shifted_6_k (pc' := 31) (lv' := [(7, .int s0), (0, .ref 14), (2, .int x2), (3, .int x3), (4, .int x4), (5, .int x5), (6, .int x6)]) (st' := [.int x5]) (σ' := (M, L)) rfl ⟨trivial, trivial, trivial⟩ ?_
  refine x_if_ne C (show decode cX11_shifted 31 = .ok (.ifCond .ne 21, 3) from by decide +kernel) (tgt := 52) (by decide) (fun c5 => ?_) (fun c5 => ?_)
  · rw [if_neg c5] at h
    refine x_lv C [1, 2, 3, 4, 5, 6, 0] rfl ?_
    exact b_X11_shifted_52 r C x2 x3 x4 x5 x6 s0 M ws0 hI h
  · rw [if_pos c5] at h
    have g6 : xrg 0 0 x5 := (x_c_eq (x_rgt x5) (x_rgc (x := 0) (k := 0) (by decide)) c5).1
    refine x_run C e_X11_shifted_7 e_X11_shifted_7_k (pc' := 36) (lv' := [(7, .int s0), (0, .ref 14), (2, .int x2), (3, .int x3), (4, .int x4), (5, .int x5), (6, .int x6)]) (st' := [.int 2, .int x3]) (σ' := (M, L)) rfl ⟨trivial, trivial, trivial⟩ ?_
    refine x_icmp_ne C (show decode cX11_shifted 36 = .ok (.if_icmp .ne 16, 3) from by decide +kernel) (tgt := 52) (by decide) (fun c7 => ?_) (fun c7 => ?_)
    · rw [if_neg c7] at h
      refine x_lv C [1, 2, 3, 4, 5, 6, 0] rfl ?_
      exact b_X11_shifted_52 r C x2 x3 x4 x5 x6 s0 M ws0 hI h
    · rw [if_pos c7] at h
      have g8 : xrg 2 2 x3 := (x_c_eq (x_rgt x3) (x_rgc (x := 2) (k := 2) (by decide)) c7).1
      refine x_run C e_X11_shifted_8 e_X11_shifted_8_k (pc' := 42) (lv' := [(7, .int s0), (0, .ref 14), (2, .int x2), (3, .int x3), (4, .int x4), (5, .int x5), (6, .int x6)]) (st' := [.int 16, .ref 14]) (σ' := (M, L)) rfl ⟨trivial, trivial, trivial⟩ ?_
      refine x_callV C (k := 14) (ci := 8) (rest := []) (avs := [.int 16]) (k_X11_has l 16 M L hI) yoX11_has ml_X11_55 rfl rfl rfl rfl ⟨Nat.zero_le _, Nat.zero_le _⟩ (show decode cX11_shifted 42 = .ok (.invokevirtual 55, 3) from by decide +kernel) rfl (fun v σ' hPo => ?_)
      obtain ⟨⟨rfl, rfl⟩, g10, hI11⟩ := hPo
      show V 0 0 45 [(7, .int s0), (0, .ref 14), (2, .int x2), (3, .int x3), (4, .int x4), (5, .int x5), (6, .int x6)] [.int (f_X11_has 16 M)] LAY (M, L)
      refine x_if_eq C (show decode cX11_shifted 45 = .ok (.ifCond .eq 7, 3) from by decide +kernel) (tgt := 52) (by decide) (fun c12 => ?_) (fun c12 => ?_)
      · rw [if_pos c12] at h
        have g13 : xrg 0 0 (f_X11_has 16 M) := (x_c_eq g10 (x_rgc (x := 0) (k := 0) (by decide)) c12).1
        refine x_lv C [1, 2, 3, 4, 5, 6, 0] rfl ?_
        exact b_X11_shifted_52 r C x2 x3 x4 x5 x6 s0 M ws0 hI h
      · rw [if_neg c12] at h
        have g14 : xrg 1 1 (f_X11_has 16 M) := (x_c_ne g10 (by decide) c12)
        refine x_run C e_X11_shifted_9 e_X11_shifted_9_k (pc' := 49) (lv' := [(7, .int s0), (0, .ref 14), (2, .int x2), (3, .int x3), (4, .int x4), (5, .int x5), (6, .int x6)]) (st' := [.int 1]) (σ' := (M, L)) rfl ⟨trivial, trivial⟩ ?_
        refine x_goto C (show decode cX11_shifted 49 = .ok (.goto 4, 3) from by decide +kernel) (tgt := 53) (by decide) ?_
        refine x_lv C [1, 2, 3, 4, 5, 6, 0] rfl ?_
        exact b_X11_shifted_53 r C x2 x3 x4 x5 x6 s0 1 M ws0 (x_rgw (x_rgc (x := 1) (k := 1) (by decide)) (lo' := 0) (hi' := 1) (by decide) (by decide)) hI h
set_option maxRecDepth 20000 in
set_option maxHeartbeats 4000000 in
theorem k_X11_shifted (l : Launch) (a1 : Int32) (a2 : Int32) (a3 : Int32) (a4 : Int32) (a5 : Int32) (M : St) (L : Nat → Nat → Int64) (hI : Inv INVM M) : XM l yX11_shifted cX11_shifted 13 (some .int) R_X11_shifted LAY [.ref 14, .int a1, .int a2, .int a3, .int a4, .int a5] (M, L) (P_X11_shifted (f_X11_shifted a1 a2 a3 a4 a5 M) L) := by
  refine XM.of (by decide) (Nat.le_of_ble_eq_true rfl) LAY_in cl_ok fl_X11_ok kc_X11_ok (fun V C => ?_)
  obtain ⟨r, h⟩ : ∃ r, f_X11_shifted a1 a2 a3 a4 a5 M = r := ⟨_, rfl⟩
  rw [h] at C
  change C_X11_shifted l r L V at C
  unfold f_X11_shifted at h
  show V 0 0 0 [(0, .ref 14), (1, .int a1), (2, .int a2), (3, .int a3), (4, .int a4), (5, .int a5)] [] LAY (M, L)
  refine x_run C e_X11_shifted_1 e_X11_shifted_1_k (pc' := 4) (lv' := [(6, .int a1), (0, .ref 14), (1, .int a1), (2, .int a2), (3, .int a3), (4, .int a4), (5, .int a5)]) (st' := [.int a2]) (σ' := (M, L)) rfl ⟨trivial, trivial, trivial, trivial⟩ ?_
  refine x_if_ne C (show decode cX11_shifted 4 = .ok (.ifCond .ne 9, 3) from by decide +kernel) (tgt := 13) (by decide) (fun c1 => ?_) (fun c1 => ?_)
  · rw [if_neg c1] at h
    refine x_run C e_X11_shifted_2 e_X11_shifted_2_k (pc' := 15) (lv' := [(6, .int a1), (0, .ref 14), (1, .int a1), (2, .int a2), (3, .int a3), (4, .int a4), (5, .int a5)]) (st' := [.int 1, .int a2]) (σ' := (M, L)) rfl ⟨trivial, trivial, trivial⟩ ?_
    refine x_icmp_ne C (show decode cX11_shifted 15 = .ok (.if_icmp .ne 9, 3) from by decide +kernel) (tgt := 24) (by decide) (fun c2 => ?_) (fun c2 => ?_)
    · rw [if_neg c2] at h
      refine x_run C e_X11_shifted_3 e_X11_shifted_3_k (pc' := 27) (lv' := [(6, .int a1), (0, .ref 14), (1, .int a1), (2, .int a2), (3, .int a3), (4, .int a4), (5, .int a5)]) (st' := [.int (-2147483648)]) (σ' := (M, L)) rfl ⟨trivial, trivial⟩ ?_
      refine x_lv C [1, 3, 4, 5, 6, 0] rfl ?_
      exact b_X11_shifted_27 r C a2 a3 a4 a5 a1 (-2147483648) M (x_rgw (x_rgc (x := (-2147483648)) (k := (-2147483648)) (by decide)) (lo' := (-2147483648)) (hi' := 32768) (by decide) (by decide)) hI h
    · rw [if_pos c2] at h
      have g3 : xrg 1 1 a2 := (x_c_eq (x_rgt a2) (x_rgc (x := 1) (k := 1) (by decide)) c2).1
      refine x_run C e_X11_shifted_4 e_X11_shifted_4_k (pc' := 21) (lv' := [(6, .int a1), (0, .ref 14), (1, .int a1), (2, .int a2), (3, .int a3), (4, .int a4), (5, .int a5)]) (st' := [.int 32768]) (σ' := (M, L)) rfl ⟨trivial, trivial⟩ ?_
      refine x_goto C (show decode cX11_shifted 21 = .ok (.goto 6, 3) from by decide +kernel) (tgt := 27) (by decide) ?_
      refine x_lv C [1, 3, 4, 5, 6, 0] rfl ?_
      exact b_X11_shifted_27 r C a2 a3 a4 a5 a1 32768 M (x_rgw (x_rgc (x := 32768) (k := 32768) (by decide)) (lo' := (-2147483648)) (hi' := 32768) (by decide) (by decide)) hI h
  · rw [if_pos c1] at h
    have g4 : xrg 0 0 a2 := (x_c_eq (x_rgt a2) (x_rgc (x := 0) (k := 0) (by decide)) c1).1
    refine x_run C e_X11_shifted_5 e_X11_shifted_5_k (pc' := 10) (lv' := [(6, .int a1), (0, .ref 14), (1, .int a1), (2, .int a2), (3, .int a3), (4, .int a4), (5, .int a5)]) (st' := [.int 128]) (σ' := (M, L)) rfl ⟨trivial, trivial⟩ ?_
    refine x_goto C (show decode cX11_shifted 10 = .ok (.goto 17, 3) from by decide +kernel) (tgt := 27) (by decide) ?_
    refine x_lv C [1, 3, 4, 5, 6, 0] rfl ?_
    exact b_X11_shifted_27 r C a2 a3 a4 a5 a1 128 M (x_rgw (x_rgc (x := 128) (k := 128) (by decide)) (lo' := (-2147483648)) (hi' := 32768) (by decide) (by decide)) hI h
-- X11_shifts
def e_X11_shifts_1 : List xI := [(0, .iload_n 2, 1, .null), (1, .iconst 3, 1, .int 3)]
theorem e_X11_shifts_1_k : e_X11_shifts_1.all (fun q => xokB cX11_shifts q && xokL q) = true := by decide +kernel
def e_X11_shifts_2 : List xI := [(26, .iload_n 1, 1, .null), (27, .iconst 5, 1, .int 5), (28, .ishr, 1, .null), (29, .iconst 1, 1, .int 1)]
theorem e_X11_shifts_2_k : e_X11_shifts_2.all (fun q => xokB cX11_shifts q && xokL q) = true := by decide +kernel
def e_X11_shifts_3 : List xI := [(45, .iload_n 3, 1, .null)]
theorem e_X11_shifts_3_k : e_X11_shifts_3.all (fun q => xokB cX11_shifts q && xokL q) = true := by decide +kernel
def e_X11_shifts_4 : List xI := [(54, .iload_n 3, 1, .null)]
theorem e_X11_shifts_4_k : e_X11_shifts_4.all (fun q => xokB cX11_shifts q && xokL q) = true := by decide +kernel
def e_X11_shifts_5 : List xI := [(49, .bipush 8, 2, .int 8)]
theorem e_X11_shifts_5_k : e_X11_shifts_5.all (fun q => xokB cX11_shifts q && xokL q) = true := by decide +kernel
def e_X11_shifts_6 : List xI := [(33, .aload_n 0, 1, .null), (34, .getfield 7, 3, .null), (37, .iload_n 3, 1, .null), (38, .iaload, 1, .null), (39, .bipush 63, 2, .int 63), (41, .iand, 1, .null)]
theorem e_X11_shifts_6_k : e_X11_shifts_6.all (fun q => xokB cX11_shifts q && xokL q) = true := by decide +kernel
def e_X11_shifts_7 : List xI := [(5, .aload_n 0, 1, .null), (6, .iconst 1, 1, .int 1), (7, .aload_n 0, 1, .null), (8, .aload_n 0, 1, .null), (9, .iload_n 1, 1, .null), (10, .iconst 1, 1, .int 1)]
theorem e_X11_shifts_7_k : e_X11_shifts_7.all (fun q => xokB cX11_shifts q && xokL q) = true := by decide +kernel
def e_X11_shifts_8 : List xI := [(14, .iconst 1, 1, .int 1), (15, .iload_n 3, 1, .null), (16, .iload 4, 2, .null), (18, .iconst 1, 1, .int 1)]
theorem e_X11_shifts_8_k : e_X11_shifts_8.all (fun q => xokB cX11_shifts q && xokL q) = true := by decide +kernel
def e_X11_shifts_9 : List xI := [(55, .istore 5, 2, .null), (57, .aload_n 0, 1, .null), (58, .iload_n 1, 1, .null), (59, .bipush 7, 2, .int 7), (61, .iand, 1, .null), (62, .iload_n 2, 1, .null), (63, .aload_n 0, 1, .null), (64, .aload_n 0, 1, .null), (65, .getfield 7, 3, .null), (68, .iload_n 1, 1, .null), (69, .bipush 7, 2, .int 7), (71, .iand, 1, .null), (72, .iaload, 1, .null), (73, .iload_n 2, 1, .null)]
theorem e_X11_shifts_9_k : e_X11_shifts_9.all (fun q => xokB cX11_shifts q && xokL q) = true := by decide +kernel
def e_X11_shifts_10 : List xI := [(77, .iand, 1, .null), (78, .iload_n 2, 1, .null), (79, .iload_n 1, 1, .null), (80, .iconst 3, 1, .int 3), (81, .ishr, 1, .null), (82, .iconst 3, 1, .int 3), (83, .iand, 1, .null), (84, .iload 4, 2, .null), (86, .iload 5, 2, .null)]
theorem e_X11_shifts_10_k : e_X11_shifts_10.all (fun q => xokB cX11_shifts q && xokL q) = true := by decide +kernel
abbrev P_X11_shifts (r : St) (L : Nat → Nat → Int64) : Option Value → xG → Prop := fun v σ' => PoV r L v σ' ∧ Inv INVM r
abbrev R_X11_shifts : Room := { frames := 8, cells := 0, slots := 0, locals := 188 }
abbrev C_X11_shifts (l : Launch) (r : St) (L : Nat → Nat → Int64) (V : XJ) : Prop := XC l yX11_shifts.cls yX11_shifts.name cX11_shifts 6 R_X11_shifts 0 0 fl_X11 kc_X11 LAY.length (xfin none LAY (P_X11_shifts r L)) V
def f_X11_shifts_55 (x1 : Int32) (x2 : Int32) (x4 : Int32) (s0 : Int32) (M : St) : St := (xb (f_X11_shifted ((M 15 (x1 &&& 7).toNatClampNeg) &&& (f_X11_mask x2)) x2 ((x1 >>> ((3 : Int32) &&& 31)) &&& 3) x4 s0 M) fun q20 => (xb (f_X11_keepIn (x1 &&& 7) x2 q20.1 q20.2) fun q23 => q23))
def f_X11_shifts (a1 : Int32) (a2 : Int32) (a3 : Int32) (a4 : Int32) (M : St) : St := (if a2 = 3 then (xb (f_X11_loadAt a1 1 M) fun q8 => (xb (f_X11_shifted q8.1 1 a3 a4 1 q8.2) fun q11 => (xb (f_X11_store 1 q11.1 q11.2) fun q14 => q14))) else (if (a1 >>> ((5 : Int32) &&& 31)) = 1 then f_X11_shifts_55 a1 a2 a4 ((M 15 a3.toNatClampNeg) &&& 63) M else (if a3 = 0 then f_X11_shifts_55 a1 a2 a4 8 M else f_X11_shifts_55 a1 a2 a4 a3 M)))
set_option maxRecDepth 20000 in
set_option maxHeartbeats 4000000 in
theorem b_X11_shifts_55 {l : Launch} {L : Nat → Nat → Int64} {V : XJ} (r : St) (C : C_X11_shifts l r L V) (x1 : Int32) (x2 : Int32) (x4 : Int32) (s0 : Int32) (M : St) (wx1 : xrg 0 63 x1) (ws0 : xrg 0 63 s0) (hI : Inv INVM M) (h : f_X11_shifts_55 x1 x2 x4 s0 M = r) : V 0 0 55 [(0, .ref 14), (1, .int x1), (2, .int x2), (4, .int x4)] [.int s0] LAY (M, L) := by
  unfold f_X11_shifts_55 at h
  refine x_run C e_X11_shifts_9 e_X11_shifts_9_k (pc' := 74) (lv' := [(5, .int s0), (0, .ref 14), (1, .int x1), (2, .int x2), (4, .int x4)]) (st' := [.int x2, .int (M 15 (x1 &&& 7).toNatClampNeg), .ref 14, .int x2, .int (x1 &&& 7), .ref 14]) (σ' := (M, L)) rfl ⟨trivial, trivial, trivial, trivial, trivial, trivial, trivial, trivial, trivial, trivial, trivial, trivial, (x_rgv (x_rg_and (x := x1) (m := 7) (k := 7) (by decide) (by decide)) (by decide) (by decide)), trivial, trivial⟩ ?_
  refine x_callS C (rest := [.int (M 15 (x1 &&& 7).toNatClampNeg), .ref 14, .int x2, .int (x1 &&& 7), .ref 14]) (avs := [.int x2]) (k_X11_mask l x2 M L) yoX11_mask ml_X11_122 rfl ⟨Nat.zero_le _, Nat.zero_le _⟩ (show decode cX11_shifts 74 = .ok (.invokestatic 122, 3) from by decide +kernel) rfl (fun v σ' hPo => ?_)
  obtain ⟨⟨rfl, rfl⟩, g18, -⟩ := hPo
  show V 0 0 77 [(5, .int s0), (0, .ref 14), (1, .int x1), (2, .int x2), (4, .int x4)] [.int (f_X11_mask x2), .int (M 15 (x1 &&& 7).toNatClampNeg), .ref 14, .int x2, .int (x1 &&& 7), .ref 14] LAY (M, L)
  refine x_run C e_X11_shifts_10 e_X11_shifts_10_k (pc' := 88) (lv' := [(5, .int s0), (0, .ref 14), (1, .int x1), (2, .int x2), (4, .int x4)]) (st' := [.int s0, .int x4, .int ((x1 >>> ((3 : Int32) &&& 31)) &&& 3), .int x2, .int ((M 15 (x1 &&& 7).toNatClampNeg) &&& (f_X11_mask x2)), .ref 14, .int x2, .int (x1 &&& 7), .ref 14]) (σ' := (M, L)) rfl ⟨trivial, trivial, trivial, trivial, trivial, trivial, trivial, trivial, trivial, trivial⟩ ?_
  refine x_callV C (k := 14) (ci := 8) (rest := [.int x2, .int (x1 &&& 7), .ref 14]) (avs := [.int ((M 15 (x1 &&& 7).toNatClampNeg) &&& (f_X11_mask x2)), .int x2, .int ((x1 >>> ((3 : Int32) &&& 31)) &&& 3), .int x4, .int s0]) (k_X11_shifted l ((M 15 (x1 &&& 7).toNatClampNeg) &&& (f_X11_mask x2)) x2 ((x1 >>> ((3 : Int32) &&& 31)) &&& 3) x4 s0 M L hI) yoX11_shifted ml_X11_266 rfl rfl rfl rfl ⟨Nat.zero_le _, Nat.zero_le _⟩ (show decode cX11_shifts 88 = .ok (.invokevirtual 266, 3) from by decide +kernel) rfl (fun v σ' hPo => ?_)
  obtain ⟨⟨rfl, rfl⟩, g21, hI22⟩ := hPo
  generalize hq20 : f_X11_shifted ((M 15 (x1 &&& 7).toNatClampNeg) &&& (f_X11_mask x2)) x2 ((x1 >>> ((3 : Int32) &&& 31)) &&& 3) x4 s0 M = q20 at h g21 hI22 ⊢
  obtain ⟨r20, M20⟩ := q20
  have h := xb_eq h
  try dsimp only at h g21 hI22
  show V 0 0 91 [(5, .int s0), (0, .ref 14), (1, .int x1), (2, .int x2), (4, .int x4)] [.int r20, .int x2, .int (x1 &&& 7), .ref 14] LAY (M20, L)
  refine x_callV C (k := 14) (ci := 8) (rest := []) (avs := [.int (x1 &&& 7), .int x2, .int r20]) (k_X11_keepIn l (x1 &&& 7) x2 r20 M20 L (x_rgw (x_rg_and (x := x1) (m := 7) (k := 7) (by decide) (by decide)) (lo' := 0) (hi' := 15) (by decide) (by decide)) hI22) yoX11_keepIn ml_X11_225 rfl rfl rfl rfl ⟨Nat.zero_le _, Nat.zero_le _⟩ (show decode cX11_shifts 91 = .ok (.invokevirtual 225, 3) from by decide +kernel) rfl (fun v σ' hPo => ?_)
  obtain ⟨⟨rfl, rfl⟩, hI25⟩ := hPo
  generalize hq23 : f_X11_keepIn (x1 &&& 7) x2 r20 M20 = q23 at h hI25 ⊢
  have h := xb_eq h
  show V 0 0 94 [(5, .int s0), (0, .ref 14), (1, .int x1), (2, .int x2), (4, .int x4)] [] LAY (q23, L)
  subst h
  exact x_vret C (show decode cX11_shifts 94 = .ok (.return_, 1) from by decide +kernel) (x_finV ⟨⟨rfl, rfl⟩, hI25⟩) (Nat.le_refl 0) (Nat.le_refl 0)
set_option maxRecDepth 20000 in
set_option maxHeartbeats 4000000 in
theorem k_X11_shifts (l : Launch) (a1 : Int32) (a2 : Int32) (a3 : Int32) (a4 : Int32) (M : St) (L : Nat → Nat → Int64) (hp1 : xrg 0 63 a1) (hp3 : xrg 0 7 a3) (hI : Inv INVM M) : XM l yX11_shifts cX11_shifts 6 none R_X11_shifts LAY [.ref 14, .int a1, .int a2, .int a3, .int a4] (M, L) (P_X11_shifts (f_X11_shifts a1 a2 a3 a4 M) L) := by
  refine XM.of (by decide) (Nat.le_of_ble_eq_true rfl) LAY_in cl_ok fl_X11_ok kc_X11_ok (fun V C => ?_)
  obtain ⟨r, h⟩ : ∃ r, f_X11_shifts a1 a2 a3 a4 M = r := ⟨_, rfl⟩
  rw [h] at C
  change C_X11_shifts l r L V at C
  unfold f_X11_shifts at h
  show V 0 0 0 [(0, .ref 14), (1, .int a1), (2, .int a2), (3, .int a3), (4, .int a4)] [] LAY (M, L)
  refine x_run C e_X11_shifts_1 e_X11_shifts_1_k (pc' := 2) (lv' := [(0, .ref 14), (1, .int a1), (2, .int a2), (3, .int a3), (4, .int a4)]) (st' := [.int 3, .int a2]) (σ' := (M, L)) rfl ⟨trivial, trivial, trivial⟩ ?_
  refine x_icmp_ne C (show decode cX11_shifts 2 = .ok (.if_icmp .ne 24, 3) from by decide +kernel) (tgt := 26) (by decide) (fun c1 => ?_) (fun c1 => ?_)
  · rw [if_neg c1] at h
    refine x_run C e_X11_shifts_2 e_X11_shifts_2_k (pc' := 30) (lv' := [(0, .ref 14), (1, .int a1), (2, .int a2), (3, .int a3), (4, .int a4)]) (st' := [.int 1, .int (a1 >>> ((5 : Int32) &&& 31))]) (σ' := (M, L)) rfl ⟨trivial, trivial, trivial, trivial, trivial⟩ ?_
    refine x_icmp_ne C (show decode cX11_shifts 30 = .ok (.if_icmp .ne 15, 3) from by decide +kernel) (tgt := 45) (by decide) (fun c2 => ?_) (fun c2 => ?_)
    · rw [if_neg c2] at h
      refine x_run C e_X11_shifts_3 e_X11_shifts_3_k (pc' := 46) (lv' := [(0, .ref 14), (1, .int a1), (2, .int a2), (3, .int a3), (4, .int a4)]) (st' := [.int a3]) (σ' := (M, L)) rfl ⟨trivial, trivial⟩ ?_
      refine x_if_ne C (show decode cX11_shifts 46 = .ok (.ifCond .ne 8, 3) from by decide +kernel) (tgt := 54) (by decide) (fun c3 => ?_) (fun c3 => ?_)
      · rw [if_neg c3] at h
        have g4 : xrg 1 7 a3 := (x_c_ne hp3 (by decide) c3)
        refine x_run C e_X11_shifts_4 e_X11_shifts_4_k (pc' := 55) (lv' := [(0, .ref 14), (1, .int a1), (2, .int a2), (3, .int a3), (4, .int a4)]) (st' := [.int a3]) (σ' := (M, L)) rfl ⟨trivial, trivial⟩ ?_
        refine x_lv C [0, 1, 2, 4] rfl ?_
        exact b_X11_shifts_55 r C a1 a2 a4 a3 M hp1 (x_rgw g4 (lo' := 0) (hi' := 63) (by decide) (by decide)) hI h
      · rw [if_pos c3] at h
        have g5 : xrg 0 0 a3 := (x_c_eq hp3 (x_rgc (x := 0) (k := 0) (by decide)) c3).1
        refine x_run C e_X11_shifts_5 e_X11_shifts_5_k (pc' := 51) (lv' := [(0, .ref 14), (1, .int a1), (2, .int a2), (3, .int a3), (4, .int a4)]) (st' := [.int 8]) (σ' := (M, L)) rfl ⟨trivial, trivial⟩ ?_
        refine x_goto C (show decode cX11_shifts 51 = .ok (.goto 4, 3) from by decide +kernel) (tgt := 55) (by decide) ?_
        refine x_lv C [0, 1, 2, 4] rfl ?_
        exact b_X11_shifts_55 r C a1 a2 a4 8 M hp1 (x_rgw (x_rgc (x := 8) (k := 8) (by decide)) (lo' := 0) (hi' := 63) (by decide) (by decide)) hI h
    · rw [if_pos c2] at h
      have g6 : xrg 1 1 (a1 >>> ((5 : Int32) &&& 31)) := (x_c_eq (x_rgt (a1 >>> ((5 : Int32) &&& 31))) (x_rgc (x := 1) (k := 1) (by decide)) c2).1
      refine x_run C e_X11_shifts_6 e_X11_shifts_6_k (pc' := 42) (lv' := [(0, .ref 14), (1, .int a1), (2, .int a2), (3, .int a3), (4, .int a4)]) (st' := [.int ((M 15 a3.toNatClampNeg) &&& 63)]) (σ' := (M, L)) rfl ⟨trivial, trivial, trivial, (x_rgv hp3 (by decide) (by decide)), trivial, trivial, trivial⟩ ?_
      refine x_goto C (show decode cX11_shifts 42 = .ok (.goto 13, 3) from by decide +kernel) (tgt := 55) (by decide) ?_
      refine x_lv C [0, 1, 2, 4] rfl ?_
      exact b_X11_shifts_55 r C a1 a2 a4 ((M 15 a3.toNatClampNeg) &&& 63) M hp1 (x_rg_and (x := (M 15 a3.toNatClampNeg)) (m := 63) (k := 63) (by decide) (by decide)) hI h
  · rw [if_pos c1] at h
    have g7 : xrg 3 3 a2 := (x_c_eq (x_rgt a2) (x_rgc (x := 3) (k := 3) (by decide)) c1).1
    refine x_run C e_X11_shifts_7 e_X11_shifts_7_k (pc' := 11) (lv' := [(0, .ref 14), (1, .int a1), (2, .int a2), (3, .int a3), (4, .int a4)]) (st' := [.int 1, .int a1, .ref 14, .ref 14, .int 1, .ref 14]) (σ' := (M, L)) rfl ⟨trivial, trivial, trivial, trivial, trivial, trivial, trivial⟩ ?_
    refine x_callV C (k := 14) (ci := 8) (rest := [.ref 14, .int 1, .ref 14]) (avs := [.int a1, .int 1]) (k_X11_loadAt l a1 1 M L hI) yoX11_loadAt ml_X11_190 rfl rfl rfl rfl ⟨Nat.zero_le _, Nat.zero_le _⟩ (show decode cX11_shifts 11 = .ok (.invokevirtual 190, 3) from by decide +kernel) rfl (fun v σ' hPo => ?_)
    obtain ⟨⟨rfl, rfl⟩, g9, hI10⟩ := hPo
    generalize hq8 : f_X11_loadAt a1 1 M = q8 at h g9 hI10 ⊢
    obtain ⟨r8, M8⟩ := q8
    have h := xb_eq h
    try dsimp only at h g9 hI10
    show V 0 0 14 [(0, .ref 14), (1, .int a1), (2, .int a2), (3, .int a3), (4, .int a4)] [.int r8, .ref 14, .int 1, .ref 14] LAY (M8, L)
    refine x_run C e_X11_shifts_8 e_X11_shifts_8_k (pc' := 19) (lv' := [(0, .ref 14), (1, .int a1), (2, .int a2), (3, .int a3), (4, .int a4)]) (st' := [.int 1, .int a4, .int a3, .int 1, .int r8, .ref 14, .int 1, .ref 14]) (σ' := (M8, L)) rfl ⟨trivial, trivial, trivial, trivial, trivial⟩ ?_
    refine x_callV C (k := 14) (ci := 8) (rest := [.int 1, .ref 14]) (avs := [.int r8, .int 1, .int a3, .int a4, .int 1]) (k_X11_shifted l r8 1 a3 a4 1 M8 L hI10) yoX11_shifted ml_X11_266 rfl rfl rfl rfl ⟨Nat.zero_le _, Nat.zero_le _⟩ (show decode cX11_shifts 19 = .ok (.invokevirtual 266, 3) from by decide +kernel) rfl (fun v σ' hPo => ?_)
    obtain ⟨⟨rfl, rfl⟩, g12, hI13⟩ := hPo
    generalize hq11 : f_X11_shifted r8 1 a3 a4 1 M8 = q11 at h g12 hI13 ⊢
    obtain ⟨r11, M11⟩ := q11
    have h := xb_eq h
    try dsimp only at h g12 hI13
    show V 0 0 22 [(0, .ref 14), (1, .int a1), (2, .int a2), (3, .int a3), (4, .int a4)] [.int r11, .int 1, .ref 14] LAY (M11, L)
    refine x_callV C (k := 14) (ci := 8) (rest := []) (avs := [.int 1, .int r11]) (k_X11_store l 1 r11 M11 L hI13) yoX11_store ml_X11_193 rfl rfl rfl rfl ⟨Nat.zero_le _, Nat.zero_le _⟩ (show decode cX11_shifts 22 = .ok (.invokevirtual 193, 3) from by decide +kernel) rfl (fun v σ' hPo => ?_)
    obtain ⟨⟨rfl, rfl⟩, hI16⟩ := hPo
    generalize hq14 : f_X11_store 1 r11 M11 = q14 at h hI16 ⊢
    have h := xb_eq h
    show V 0 0 25 [(0, .ref 14), (1, .int a1), (2, .int a2), (3, .int a3), (4, .int a4)] [] LAY (q14, L)
    subst h
    exact x_vret C (show decode cX11_shifts 25 = .ok (.return_, 1) from by decide +kernel) (x_finV ⟨⟨rfl, rfl⟩, hI16⟩) (Nat.le_refl 0) (Nat.le_refl 0)
-- X11_fourteen
def e_X11_fourteen_1 : List xI := [(0, .iload 5, 2, .null)]
theorem e_X11_fourteen_1_k : e_X11_fourteen_1.all (fun q => xokB cX11_fourteen q && xokL q) = true := by decide +kernel
def e_X11_fourteen_2 : List xI := [(27, .iload_n 3, 1, .null)]
theorem e_X11_fourteen_2_k : e_X11_fourteen_2.all (fun q => xokB cX11_fourteen q && xokL q) = true := by decide +kernel
def e_X11_fourteen_3 : List xI := [(52, .aload_n 0, 1, .null), (53, .iload_n 2, 1, .null), (54, .iconst 1, 1, .int 1)]
theorem e_X11_fourteen_3_k : e_X11_fourteen_3.all (fun q => xokB cX11_fourteen q && xokL q) = true := by decide +kernel
def e_X11_fourteen_4 : List xI := [(58, .i2s, 1, .null), (59, .istore 6, 2, .null), (61, .aload_n 0, 1, .null), (62, .getfield 7, 3, .null), (65, .iload 4, 2, .null), (67, .iaload, 1, .null), (68, .i2s, 1, .null), (69, .istore 7, 2, .null), (71, .iload 7, 2, .null)]
theorem e_X11_fourteen_4_k : e_X11_fourteen_4.all (fun q => xokB cX11_fourteen q && xokL q) = true := by decide +kernel
def e_X11_fourteen_5 : List xI := [(76, .iload 7, 2, .null), (78, .iload 6, 2, .null)]
theorem e_X11_fourteen_5_k : e_X11_fourteen_5.all (fun q => xokB cX11_fourteen q && xokL q) = true := by decide +kernel
def e_X11_fourteen_6 : List xI := [(31, .aload_n 0, 1, .null), (32, .iload_n 2, 1, .null), (33, .iconst 2, 1, .int 2)]
theorem e_X11_fourteen_6_k : e_X11_fourteen_6.all (fun q => xokB cX11_fourteen q && xokL q) = true := by decide +kernel
def e_X11_fourteen_7 : List xI := [(37, .aload_n 0, 1, .null), (38, .getfield 7, 3, .null), (41, .bipush 8, 2, .int 8), (43, .iload 4, 2, .null), (45, .iadd, 1, .null), (46, .aload_n 0, 1, .null), (47, .getfield 110, 3, .null), (50, .iastore, 1, .null)]
theorem e_X11_fourteen_7_k : e_X11_fourteen_7.all (fun q => xokB cX11_fourteen q && xokL q) = true := by decide +kernel
def e_X11_fourteen_8 : List xI := [(5, .aload_n 0, 1, .null), (6, .getfield 7, 3, .null), (9, .iload 4, 2, .null), (11, .iload_n 1, 1, .null), (12, .i2b, 1, .null), (13, .iastore, 1, .null), (14, .aload_n 0, 1, .null), (15, .iconst 2, 1, .int 2), (16, .aload_n 0, 1, .null), (17, .getfield 7, 3, .null), (20, .iload 4, 2, .null), (22, .iaload, 1, .null)]
theorem e_X11_fourteen_8_k : e_X11_fourteen_8.all (fun q => xokB cX11_fourteen q && xokL q) = true := by decide +kernel
def e_X11_fourteen_9 : List xI := [(84, .aload_n 0, 1, .null), (85, .bipush 8, 2, .int 8), (87, .iload 7, 2, .null)]
theorem e_X11_fourteen_9_k : e_X11_fourteen_9.all (fun q => xokB cX11_fourteen q && xokL q) = true := by decide +kernel
def e_X11_fourteen_10 : List xI := [(96, .iconst 0, 1, .int 0)]
theorem e_X11_fourteen_10_k : e_X11_fourteen_10.all (fun q => xokB cX11_fourteen q && xokL q) = true := by decide +kernel
def e_X11_fourteen_11 : List xI := [(92, .iconst 1, 1, .int 1)]
theorem e_X11_fourteen_11_k : e_X11_fourteen_11.all (fun q => xokB cX11_fourteen q && xokL q) = true := by decide +kernel
def e_X11_fourteen_12 : List xI := [(100, .aload_n 0, 1, .null), (101, .bipush 6, 2, .int 6), (103, .putfield 228, 3, .null)]
theorem e_X11_fourteen_12_k : e_X11_fourteen_12.all (fun q => xokB cX11_fourteen q && xokL q) = true := by decide +kernel
abbrev P_X11_fourteen (r : St) (L : Nat → Nat → Int64) : Option Value → xG → Prop := fun v σ' => PoV r L v σ' ∧ Inv INVM r
abbrev R_X11_fourteen : Room := { frames := 8, cells := 0, slots := 0, locals := 188 }
abbrev C_X11_fourteen (l : Launch) (r : St) (L : Nat → Nat → Int64) (V : XJ) : Prop := XC l yX11_fourteen.cls yX11_fourteen.name cX11_fourteen 8 R_X11_fourteen 0 0 fl_X11 kc_X11 LAY.length (xfin none LAY (P_X11_fourteen r L)) V
def f_X11_fourteen_97 (s0 : Int32) (s1 : Int32) (M : St) : St := (xb (f_X11_flag s1 s0 M) fun q25 => (xup q25 14 23 6))
def f_X11_fourteen_84 (x7 : Int32) (M : St) : St := (if 0 ≤ x7 then f_X11_fourteen_97 0 8 M else f_X11_fourteen_97 1 8 M)
def f_X11_fourteen (a1 : Int32) (a2 : Int32) (a3 : Int32) (a4 : Int32) (a5 : Int32) (M : St) : St := (if a5 = 0 then (xb (f_X11_test 2 ((xup M 15 a4.toNatClampNeg a1.toInt8.toInt32) 15 a4.toNatClampNeg) (xup M 15 a4.toNatClampNeg a1.toInt8.toInt32)) fun q19 => q19) else (if a3 = 0 then (xb (f_X11_find a2 2 M) fun q13 => (xup q13 15 (8 + a4).toNatClampNeg (q13 14 26))) else (xb (f_X11_loadAt a2 1 M) fun q3 => (if (q3.2 15 a4.toNatClampNeg).toInt16.toInt32 < 0 then f_X11_fourteen_84 (q3.2 15 a4.toNatClampNeg).toInt16.toInt32 q3.2 else (if q3.1.toInt16.toInt32 < (q3.2 15 a4.toNatClampNeg).toInt16.toInt32 then f_X11_fourteen_84 (q3.2 15 a4.toNatClampNeg).toInt16.toInt32 q3.2 else q3.2)))))
set_option maxRecDepth 20000 in
set_option maxHeartbeats 4000000 in
theorem b_X11_fourteen_97 {l : Launch} {L : Nat → Nat → Int64} {V : XJ} (r : St) (C : C_X11_fourteen l r L V) (s0 : Int32) (s1 : Int32) (M : St) (ws0 : xrg 0 1 s0) (ws1 : xrg 8 8 s1) (hI : Inv INVM M) (h : f_X11_fourteen_97 s0 s1 M = r) : V 0 0 97 [(0, .ref 14)] [.int s0, .int s1, .ref 14] LAY (M, L) := by
  unfold f_X11_fourteen_97 at h
  refine x_callV C (k := 14) (ci := 8) (rest := []) (avs := [.int s1, .int s0]) (k_X11_flag l s1 s0 M L hI) yoX11_flag ml_X11_135 rfl rfl rfl rfl ⟨Nat.zero_le _, Nat.zero_le _⟩ (show decode cX11_fourteen 97 = .ok (.invokevirtual 135, 3) from by decide +kernel) rfl (fun v σ' hPo => ?_)
  obtain ⟨⟨rfl, rfl⟩, hI27⟩ := hPo
  generalize hq25 : f_X11_flag s1 s0 M = q25 at h hI27 ⊢
  have h := xb_eq h
  show V 0 0 100 [(0, .ref 14)] [] LAY (q25, L)
  refine x_run C e_X11_fourteen_12 e_X11_fourteen_12_k (pc' := 106) (lv' := [(0, .ref 14)]) (st' := []) (σ' := ((xup q25 14 23 6), L)) rfl ⟨trivial, trivial, trivial, trivial⟩ ?_
  have hI28 : Inv INVM (xup q25 14 23 6) := (hI27.set 14 23 (x_rgc (x := 6) (k := 6) (by decide)) (by decide))
  subst h
  exact x_vret C (show decode cX11_fourteen 106 = .ok (.return_, 1) from by decide +kernel) (x_finV ⟨⟨rfl, rfl⟩, hI28⟩) (Nat.le_refl 0) (Nat.le_refl 0)
set_option maxRecDepth 20000 in
set_option maxHeartbeats 4000000 in
theorem b_X11_fourteen_84 {l : Launch} {L : Nat → Nat → Int64} {V : XJ} (r : St) (C : C_X11_fourteen l r L V) (x7 : Int32) (M : St) (hI : Inv INVM M) (h : f_X11_fourteen_84 x7 M = r) : V 0 0 84 [(0, .ref 14), (7, .int x7)] [] LAY (M, L) := by
  unfold f_X11_fourteen_84 at h
  refine x_run C e_X11_fourteen_9 e_X11_fourteen_9_k (pc' := 89) (lv' := [(0, .ref 14), (7, .int x7)]) (st' := [.int x7, .int 8, .ref 14]) (σ' := (M, L)) rfl ⟨trivial, trivial, trivial, trivial⟩ ?_
  refine x_if_ge C (show decode cX11_fourteen 89 = .ok (.ifCond .ge 7, 3) from by decide +kernel) (tgt := 96) (by decide) (fun c22 => ?_) (fun c22 => ?_)
  · rw [if_pos c22] at h
    have g23 : xrg 0 2147483647 x7 := (x_c_le (x_rgc (x := 0) (k := 0) (by decide)) (x_rgt x7) c22).2
    refine x_run C e_X11_fourteen_10 e_X11_fourteen_10_k (pc' := 97) (lv' := [(0, .ref 14), (7, .int x7)]) (st' := [.int 0, .int 8, .ref 14]) (σ' := (M, L)) rfl ⟨trivial, trivial⟩ ?_
    refine x_lv C [0] rfl ?_
    exact b_X11_fourteen_97 r C 0 8 M (x_rgw (x_rgc (x := 0) (k := 0) (by decide)) (lo' := 0) (hi' := 1) (by decide) (by decide)) (x_rgc (x := 8) (k := 8) (by decide)) hI h
  · rw [if_neg c22] at h
    have g24 : xrg (-2147483648) (-1) x7 := (x_c_nle (x_rgc (x := 0) (k := 0) (by decide)) (x_rgt x7) c22).2
    refine x_run C e_X11_fourteen_11 e_X11_fourteen_11_k (pc' := 93) (lv' := [(0, .ref 14), (7, .int x7)]) (st' := [.int 1, .int 8, .ref 14]) (σ' := (M, L)) rfl ⟨trivial, trivial⟩ ?_
    refine x_goto C (show decode cX11_fourteen 93 = .ok (.goto 4, 3) from by decide +kernel) (tgt := 97) (by decide) ?_
    refine x_lv C [0] rfl ?_
    exact b_X11_fourteen_97 r C 1 8 M (x_rgw (x_rgc (x := 1) (k := 1) (by decide)) (lo' := 0) (hi' := 1) (by decide) (by decide)) (x_rgc (x := 8) (k := 8) (by decide)) hI h
set_option maxRecDepth 20000 in
set_option maxHeartbeats 4000000 in
theorem k_X11_fourteen (l : Launch) (a1 : Int32) (a2 : Int32) (a3 : Int32) (a4 : Int32) (a5 : Int32) (M : St) (L : Nat → Nat → Int64) (hp2 : xrg 0 63 a2) (hp4 : xrg 0 7 a4) (hI : Inv INVM M) : XM l yX11_fourteen cX11_fourteen 8 none R_X11_fourteen LAY [.ref 14, .int a1, .int a2, .int a3, .int a4, .int a5] (M, L) (P_X11_fourteen (f_X11_fourteen a1 a2 a3 a4 a5 M) L) := by
  refine XM.of (by decide) (Nat.le_of_ble_eq_true rfl) LAY_in cl_ok fl_X11_ok kc_X11_ok (fun V C => ?_)
  obtain ⟨r, h⟩ : ∃ r, f_X11_fourteen a1 a2 a3 a4 a5 M = r := ⟨_, rfl⟩
  rw [h] at C
  change C_X11_fourteen l r L V at C
  unfold f_X11_fourteen at h
  show V 0 0 0 [(0, .ref 14), (1, .int a1), (2, .int a2), (3, .int a3), (4, .int a4), (5, .int a5)] [] LAY (M, L)
  refine x_run C e_X11_fourteen_1 e_X11_fourteen_1_k (pc' := 2) (lv' := [(0, .ref 14), (1, .int a1), (2, .int a2), (3, .int a3), (4, .int a4), (5, .int a5)]) (st' := [.int a5]) (σ' := (M, L)) rfl ⟨trivial, trivial⟩ ?_
  refine x_if_ne C (show decode cX11_fourteen 2 = .ok (.ifCond .ne 25, 3) from by decide +kernel) (tgt := 27) (by decide) (fun c1 => ?_) (fun c1 => ?_)
  · rw [if_neg c1] at h
    refine x_run C e_X11_fourteen_2 e_X11_fourteen_2_k (pc' := 28) (lv' := [(0, .ref 14), (1, .int a1), (2, .int a2), (3, .int a3), (4, .int a4), (5, .int a5)]) (st' := [.int a3]) (σ' := (M, L)) rfl ⟨trivial, trivial⟩ ?_
    refine x_if_ne C (show decode cX11_fourteen 28 = .ok (.ifCond .ne 24, 3) from by decide +kernel) (tgt := 52) (by decide) (fun c2 => ?_) (fun c2 => ?_)
    · rw [if_neg c2] at h
      refine x_run C e_X11_fourteen_3 e_X11_fourteen_3_k (pc' := 55) (lv' := [(0, .ref 14), (1, .int a1), (2, .int a2), (3, .int a3), (4, .int a4), (5, .int a5)]) (st' := [.int 1, .int a2, .ref 14]) (σ' := (M, L)) rfl ⟨trivial, trivial, trivial, trivial⟩ ?_
      refine x_callV C (k := 14) (ci := 8) (rest := []) (avs := [.int a2, .int 1]) (k_X11_loadAt l a2 1 M L hI) yoX11_loadAt ml_X11_190 rfl rfl rfl rfl ⟨Nat.zero_le _, Nat.zero_le _⟩ (show decode cX11_fourteen 55 = .ok (.invokevirtual 190, 3) from by decide +kernel) rfl (fun v σ' hPo => ?_)
      obtain ⟨⟨rfl, rfl⟩, g4, hI5⟩ := hPo
      generalize hq3 : f_X11_loadAt a2 1 M = q3 at h g4 hI5 ⊢
      obtain ⟨r3, M3⟩ := q3
      have h := xb_eq h
      try dsimp only at h g4 hI5
      show V 0 0 58 [(0, .ref 14), (1, .int a1), (2, .int a2), (3, .int a3), (4, .int a4), (5, .int a5)] [.int r3] LAY (M3, L)
      refine x_run C e_X11_fourteen_4 e_X11_fourteen_4_k (pc' := 73) (lv' := [(7, .int (M3 15 a4.toNatClampNeg).toInt16.toInt32), (6, .int r3.toInt16.toInt32), (0, .ref 14), (1, .int a1), (2, .int a2), (3, .int a3), (4, .int a4), (5, .int a5)]) (st' := [.int (M3 15 a4.toNatClampNeg).toInt16.toInt32]) (σ' := (M3, L)) rfl ⟨trivial, trivial, trivial, trivial, trivial, (x_rgv hp4 (by decide) (by decide)), trivial, trivial, trivial, trivial⟩ ?_
      refine x_if_lt C (show decode cX11_fourteen 73 = .ok (.ifCond .lt 11, 3) from by decide +kernel) (tgt := 84) (by decide) (fun c6 => ?_) (fun c6 => ?_)
      · rw [if_pos c6] at h
        have g7 : xrg (-2147483648) (-1) (M3 15 a4.toNatClampNeg).toInt16.toInt32 := (x_c_lt (x_rgt (M3 15 a4.toNatClampNeg).toInt16.toInt32) (x_rgc (x := 0) (k := 0) (by decide)) c6).1
        refine x_lv C [2, 0] rfl ?_
        exact b_X11_fourteen_84 r C (M3 15 a4.toNatClampNeg).toInt16.toInt32 M3 hI5 h
      · rw [if_neg c6] at h
        have g8 : xrg 0 2147483647 (M3 15 a4.toNatClampNeg).toInt16.toInt32 := (x_c_nlt (x_rgt (M3 15 a4.toNatClampNeg).toInt16.toInt32) (x_rgc (x := 0) (k := 0) (by decide)) c6).1
        refine x_run C e_X11_fourteen_5 e_X11_fourteen_5_k (pc' := 80) (lv' := [(7, .int (M3 15 a4.toNatClampNeg).toInt16.toInt32), (6, .int r3.toInt16.toInt32), (0, .ref 14), (1, .int a1), (2, .int a2), (3, .int a3), (4, .int a4), (5, .int a5)]) (st' := [.int r3.toInt16.toInt32, .int (M3 15 a4.toNatClampNeg).toInt16.toInt32]) (σ' := (M3, L)) rfl ⟨trivial, trivial, trivial⟩ ?_
        refine x_icmp_gt C (show decode cX11_fourteen 80 = .ok (.if_icmp .gt 4, 3) from by decide +kernel) (tgt := 84) (by decide) (fun c9 => ?_) (fun c9 => ?_)
        · rw [if_pos c9] at h
          have g10 : xrg (-2147483648) 2147483646 r3.toInt16.toInt32 := (x_c_lt (x_rgt r3.toInt16.toInt32) g8 c9).1
          refine x_lv C [2, 0] rfl ?_
          exact b_X11_fourteen_84 r C (M3 15 a4.toNatClampNeg).toInt16.toInt32 M3 hI5 h
        · rw [if_neg c9] at h
          have g11 : xrg 0 2147483647 r3.toInt16.toInt32 := (x_c_nlt (x_rgt r3.toInt16.toInt32) g8 c9).1
          subst h
          exact x_vret C (show decode cX11_fourteen 83 = .ok (.return_, 1) from by decide +kernel) (x_finV ⟨⟨rfl, rfl⟩, hI5⟩) (Nat.le_refl 0) (Nat.le_refl 0)
    · rw [if_pos c2] at h
      have g12 : xrg 0 0 a3 := (x_c_eq (x_rgt a3) (x_rgc (x := 0) (k := 0) (by decide)) c2).1
      refine x_run C e_X11_fourteen_6 e_X11_fourteen_6_k (pc' := 34) (lv' := [(0, .ref 14), (1, .int a1), (2, .int a2), (3, .int a3), (4, .int a4), (5, .int a5)]) (st' := [.int 2, .int a2, .ref 14]) (σ' := (M, L)) rfl ⟨trivial, trivial, trivial, trivial⟩ ?_
      refine x_callV C (k := 14) (ci := 8) (rest := []) (avs := [.int a2, .int 2]) (k_X11_find l a2 2 M L hI) yoX11_find ml_X11_125 rfl rfl rfl rfl ⟨Nat.zero_le _, Nat.zero_le _⟩ (show decode cX11_fourteen 34 = .ok (.invokevirtual 125, 3) from by decide +kernel) rfl (fun v σ' hPo => ?_)
      obtain ⟨⟨rfl, rfl⟩, hI15⟩ := hPo
      generalize hq13 : f_X11_find a2 2 M = q13 at h hI15 ⊢
      have h := xb_eq h
      show V 0 0 37 [(0, .ref 14), (1, .int a1), (2, .int a2), (3, .int a3), (4, .int a4), (5, .int a5)] [] LAY (q13, L)
      refine x_run C e_X11_fourteen_7 e_X11_fourteen_7_k (pc' := 51) (lv' := [(0, .ref 14), (1, .int a1), (2, .int a2), (3, .int a3), (4, .int a4), (5, .int a5)]) (st' := []) (σ' := ((xup q13 15 (8 + a4).toNatClampNeg (q13 14 26)), L)) rfl ⟨trivial, trivial, trivial, trivial, trivial, trivial, trivial, (x_rgv (x_rg_add (x_rgc (x := 8) (k := 8) (by decide)) hp4 (by decide) (by decide)) (by decide) (by decide)), trivial⟩ ?_
      have hI16 : Inv INVM (xup q13 15 (8 + a4).toNatClampNeg (q13 14 26)) := (hI15.arr 15 ((8 + a4).toNatClampNeg) (q13 14 26) (by decide))
      subst h
      exact x_vret C (show decode cX11_fourteen 51 = .ok (.return_, 1) from by decide +kernel) (x_finV ⟨⟨rfl, rfl⟩, hI16⟩) (Nat.le_refl 0) (Nat.le_refl 0)
  · rw [if_pos c1] at h
    have g17 : xrg 0 0 a5 := (x_c_eq (x_rgt a5) (x_rgc (x := 0) (k := 0) (by decide)) c1).1
    refine x_run C e_X11_fourteen_8 e_X11_fourteen_8_k (pc' := 23) (lv' := [(0, .ref 14), (1, .int a1), (2, .int a2), (3, .int a3), (4, .int a4), (5, .int a5)]) (st' := [.int ((xup M 15 a4.toNatClampNeg a1.toInt8.toInt32) 15 a4.toNatClampNeg), .int 2, .ref 14]) (σ' := ((xup M 15 a4.toNatClampNeg a1.toInt8.toInt32), L)) rfl ⟨trivial, trivial, trivial, trivial, trivial, (x_rgv hp4 (by decide) (by decide)), trivial, trivial, trivial, trivial, trivial, (x_rgv hp4 (by decide) (by decide)), trivial⟩ ?_
    have hI18 : Inv INVM (xup M 15 a4.toNatClampNeg a1.toInt8.toInt32) := (hI.arr 15 (a4.toNatClampNeg) a1.toInt8.toInt32 (by decide))
    refine x_callV C (k := 14) (ci := 8) (rest := []) (avs := [.int 2, .int ((xup M 15 a4.toNatClampNeg a1.toInt8.toInt32) 15 a4.toNatClampNeg)]) (k_X11_test l 2 ((xup M 15 a4.toNatClampNeg a1.toInt8.toInt32) 15 a4.toNatClampNeg) (xup M 15 a4.toNatClampNeg a1.toInt8.toInt32) L hI18) yoX11_test ml_X11_196 rfl rfl rfl rfl ⟨Nat.zero_le _, Nat.zero_le _⟩ (show decode cX11_fourteen 23 = .ok (.invokevirtual 196, 3) from by decide +kernel) rfl (fun v σ' hPo => ?_)
    obtain ⟨⟨rfl, rfl⟩, hI21⟩ := hPo
    generalize hq19 : f_X11_test 2 ((xup M 15 a4.toNatClampNeg a1.toInt8.toInt32) 15 a4.toNatClampNeg) (xup M 15 a4.toNatClampNeg a1.toInt8.toInt32) = q19 at h hI21 ⊢
    have h := xb_eq h
    show V 0 0 26 [(0, .ref 14), (1, .int a1), (2, .int a2), (3, .int a3), (4, .int a4), (5, .int a5)] [] LAY (q19, L)
    subst h
    exact x_vret C (show decode cX11_fourteen 26 = .ok (.return_, 1) from by decide +kernel) (x_finV ⟨⟨rfl, rfl⟩, hI21⟩) (Nat.le_refl 0) (Nat.le_refl 0)
-- X11_perform
def e_X11_perform_1 : List xI := [(0, .iload_n 1, 1, .null), (1, .bipush 63, 2, .int 63), (3, .iand, 1, .null), (4, .istore_n 2, 1, .null), (5, .iload_n 1, 1, .null), (6, .bipush 6, 2, .int 6), (8, .ishr, 1, .null), (9, .iconst 3, 1, .int 3), (10, .iand, 1, .null), (11, .istore_n 3, 1, .null), (12, .iload_n 1, 1, .null), (13, .bipush 9, 2, .int 9), (15, .ishr, 1, .null), (16, .bipush 7, 2, .int 7), (18, .iand, 1, .null), (19, .istore 4, 2, .null), (21, .iload_n 1, 1, .null), (22, .sipush 256, 3, .int 256), (25, .iand, 1, .null)]
theorem e_X11_perform_1_k : e_X11_perform_1.all (fun q => xokB cX11_perform q && xokL q) = true := by decide +kernel
def e_X11_perform_2 : List xI := [(33, .iconst 0, 1, .int 0)]
theorem e_X11_perform_2_k : e_X11_perform_2.all (fun q => xokB cX11_perform q && xokL q) = true := by decide +kernel
def e_X11_perform_3 : List xI := [(29, .iconst 1, 1, .int 1)]
theorem e_X11_perform_3_k : e_X11_perform_3.all (fun q => xokB cX11_perform q && xokL q) = true := by decide +kernel
def e_X11_perform_4 : List xI := [(34, .istore 5, 2, .null), (36, .iload_n 1, 1, .null), (37, .bipush 12, 2, .int 12), (39, .ishr, 1, .null)]
theorem e_X11_perform_4_k : e_X11_perform_4.all (fun q => xokB cX11_perform q && xokL q) = true := by decide +kernel
def e_X11_perform_5 : List xI := [(131, .aload_n 0, 1, .null), (132, .iload_n 1, 1, .null), (133, .bipush 6, 2, .int 6), (135, .ishr, 1, .null), (136, .bipush 63, 2, .int 63), (138, .iand, 1, .null), (139, .iload_n 2, 1, .null)]
theorem e_X11_perform_5_k : e_X11_perform_5.all (fun q => xokB cX11_perform q && xokL q) = true := by decide +kernel
def e_X11_perform_6 : List xI := [(172, .aload_n 0, 1, .null), (173, .iload_n 2, 1, .null), (174, .iload_n 3, 1, .null), (175, .iload 4, 2, .null), (177, .iload 5, 2, .null)]
theorem e_X11_perform_6_k : e_X11_perform_6.all (fun q => xokB cX11_perform q && xokL q) = true := by decide +kernel
def e_X11_perform_7 : List xI := [(212, .aload_n 0, 1, .null), (213, .iload_n 2, 1, .null), (214, .iload_n 3, 1, .null), (215, .iload 4, 2, .null), (217, .iload 5, 2, .null)]
theorem e_X11_perform_7_k : e_X11_perform_7.all (fun q => xokB cX11_perform q && xokL q) = true := by decide +kernel
def e_X11_perform_8 : List xI := [(225, .aload_n 0, 1, .null), (226, .iload_n 1, 1, .null)]
theorem e_X11_perform_8_k : e_X11_perform_8.all (fun q => xokB cX11_perform q && xokL q) = true := by decide +kernel
def e_X11_perform_9 : List xI := [(233, .aload_n 0, 1, .null), (234, .iload_n 2, 1, .null), (235, .iload_n 3, 1, .null), (236, .iload 4, 2, .null), (238, .iload 5, 2, .null)]
theorem e_X11_perform_9_k : e_X11_perform_9.all (fun q => xokB cX11_perform q && xokL q) = true := by decide +kernel
def e_X11_perform_10 : List xI := [(246, .aload_n 0, 1, .null), (247, .iload_n 2, 1, .null), (248, .iload_n 3, 1, .null), (249, .iload 4, 2, .null), (251, .iload 5, 2, .null)]
theorem e_X11_perform_10_k : e_X11_perform_10.all (fun q => xokB cX11_perform q && xokL q) = true := by decide +kernel
def e_X11_perform_11 : List xI := [(112, .aload_n 0, 1, .null), (113, .iload_n 1, 1, .null), (114, .bipush 12, 2, .int 12), (116, .ishr, 1, .null), (117, .iload_n 2, 1, .null), (118, .iload_n 1, 1, .null), (119, .bipush 6, 2, .int 6), (121, .ishr, 1, .null), (122, .bipush 63, 2, .int 63), (124, .iand, 1, .null)]
theorem e_X11_perform_11_k : e_X11_perform_11.all (fun q => xokB cX11_perform q && xokL q) = true := by decide +kernel
def e_X11_perform_12 : List xI := [(146, .aload_n 0, 1, .null), (147, .iload_n 2, 1, .null), (148, .iload_n 3, 1, .null), (149, .iload 4, 2, .null), (151, .iload 5, 2, .null), (153, .iload_n 1, 1, .null), (154, .bipush 12, 2, .int 12), (156, .ishr, 1, .null), (157, .iconst 5, 1, .int 5)]
theorem e_X11_perform_12_k : e_X11_perform_12.all (fun q => xokB cX11_perform q && xokL q) = true := by decide +kernel
def e_X11_perform_13 : List xI := [(165, .iconst 0, 1, .int 0)]
theorem e_X11_perform_13_k : e_X11_perform_13.all (fun q => xokB cX11_perform q && xokL q) = true := by decide +kernel
def e_X11_perform_14 : List xI := [(161, .iconst 1, 1, .int 1)]
theorem e_X11_perform_14_k : e_X11_perform_14.all (fun q => xokB cX11_perform q && xokL q) = true := by decide +kernel
def e_X11_perform_15 : List xI := [(185, .aload_n 0, 1, .null), (186, .iload_n 2, 1, .null), (187, .iload_n 3, 1, .null), (188, .iload 4, 2, .null), (190, .iload 5, 2, .null), (192, .iload_n 1, 1, .null), (193, .bipush 12, 2, .int 12), (195, .ishr, 1, .null), (196, .bipush 7, 2, .int 7)]
theorem e_X11_perform_15_k : e_X11_perform_15.all (fun q => xokB cX11_perform q && xokL q) = true := by decide +kernel
def e_X11_perform_16 : List xI := [(205, .iconst 0, 1, .int 0)]
theorem e_X11_perform_16_k : e_X11_perform_16.all (fun q => xokB cX11_perform q && xokL q) = true := by decide +kernel
def e_X11_perform_17 : List xI := [(201, .iconst 1, 1, .int 1)]
theorem e_X11_perform_17_k : e_X11_perform_17.all (fun q => xokB cX11_perform q && xokL q) = true := by decide +kernel
def e_X11_perform_18 : List xI := [(259, .aload_n 0, 1, .null), (260, .iload_n 1, 1, .null), (261, .iload_n 2, 1, .null), (262, .iload_n 3, 1, .null), (263, .iload 4, 2, .null), (265, .iload 5, 2, .null)]
theorem e_X11_perform_18_k : e_X11_perform_18.all (fun q => xokB cX11_perform q && xokL q) = true := by decide +kernel
abbrev P_X11_perform (r : St) (L : Nat → Nat → Int64) : Option Value → xG → Prop := fun v σ' => PoV r L v σ' ∧ Inv INVM r
abbrev R_X11_perform : Room := { frames := 10, cells := 0, slots := 0, locals := 242 }
abbrev C_X11_perform (l : Launch) (r : St) (L : Nat → Nat → Int64) (V : XJ) : Prop := XC l yX11_perform.cls yX11_perform.name cX11_perform 6 R_X11_perform 0 0 fl_X11 kc_X11 LAY.length (xfin none LAY (P_X11_perform r L)) V
def f_X11_perform_112 (x1 : Int32) (x2 : Int32) (M : St) : St := (xb (f_X11_move (x1 >>> ((12 : Int32) &&& 31)) x2 ((x1 >>> ((6 : Int32) &&& 31)) &&& 63) M) fun q36 => q36)
def f_X11_perform_166 (s0 : Int32) (s1 : Int32) (s2 : Int32) (s3 : Int32) (s4 : Int32) (M : St) : St := (xb (f_X11_addOrTake s4 s3 s2 s1 s0 M) fun q46 => q46)
def f_X11_perform_146 (x1 : Int32) (x2 : Int32) (x3 : Int32) (x4 : Int32) (x5 : Int32) (M : St) : St := (if (x1 >>> ((12 : Int32) &&& 31)) = 5 then f_X11_perform_166 1 x5 x4 x3 x2 M else f_X11_perform_166 0 x5 x4 x3 x2 M)
def f_X11_perform_206 (s0 : Int32) (s1 : Int32) (s2 : Int32) (s3 : Int32) (s4 : Int32) (M : St) : St := (xb (f_X11_logic s4 s3 s2 s1 s0 M) fun q49 => q49)
def f_X11_perform_185 (x1 : Int32) (x2 : Int32) (x3 : Int32) (x4 : Int32) (x5 : Int32) (M : St) : St := (if (x1 >>> ((12 : Int32) &&& 31)) = 7 then f_X11_perform_206 1 x5 x4 x3 x2 M else f_X11_perform_206 0 x5 x4 x3 x2 M)
def f_X11_perform_259 (x1 : Int32) (x2 : Int32) (x3 : Int32) (x4 : Int32) (x5 : Int32) (M : St) : St := (xb (f_X11_fourteen x1 x2 x3 x4 x5 M) fun q43 => q43)
def f_X11_perform_34 (x1 : Int32) (x2 : Int32) (x3 : Int32) (x4 : Int32) (s0 : Int32) (M : St) : St := (if (x1 >>> ((12 : Int32) &&& 31)) = 0 then f_X11_perform_112 x1 x2 M else (if (x1 >>> ((12 : Int32) &&& 31)) = 1 then f_X11_perform_112 x1 x2 M else (if (x1 >>> ((12 : Int32) &&& 31)) = 2 then f_X11_perform_112 x1 x2 M else (if (x1 >>> ((12 : Int32) &&& 31)) = 3 then (xb (f_X11_three ((x1 >>> ((6 : Int32) &&& 31)) &&& 63) x2 M) fun q8 => q8) else (if (x1 >>> ((12 : Int32) &&& 31)) = 4 then f_X11_perform_146 x1 x2 x3 x4 s0 M else (if (x1 >>> ((12 : Int32) &&& 31)) = 5 then f_X11_perform_146 x1 x2 x3 x4 s0 M else (if (x1 >>> ((12 : Int32) &&& 31)) = 6 then (xb (f_X11_compare x2 x3 x4 s0 M) fun q14 => q14) else (if (x1 >>> ((12 : Int32) &&& 31)) = 7 then f_X11_perform_185 x1 x2 x3 x4 s0 M else (if (x1 >>> ((12 : Int32) &&& 31)) = 8 then f_X11_perform_185 x1 x2 x3 x4 s0 M else (if (x1 >>> ((12 : Int32) &&& 31)) = 9 then (xb (f_X11_quick x2 x3 x4 s0 M) fun q20 => q20) else (if (x1 >>> ((12 : Int32) &&& 31)) = 10 then f_X11_perform_259 x1 x2 x3 x4 s0 M else (if (x1 >>> ((12 : Int32) &&& 31)) = 11 then (xb (f_X11_branch x1 M) fun q25 => q25) else (if (x1 >>> ((12 : Int32) &&& 31)) = 12 then (xb (f_X11_twelve x2 x3 x4 s0 M) fun q29 => q29) else (if (x1 >>> ((12 : Int32) &&& 31)) = 13 then (xb (f_X11_shifts x2 x3 x4 s0 M) fun q33 => q33) else f_X11_perform_259 x1 x2 x3 x4 s0 M))))))))))))))
def f_X11_perform (a1 : Int32) (M : St) : St := (if (a1 &&& 256) = 0 then f_X11_perform_34 a1 (a1 &&& 63) ((a1 >>> ((6 : Int32) &&& 31)) &&& 3) ((a1 >>> ((9 : Int32) &&& 31)) &&& 7) 0 M else f_X11_perform_34 a1 (a1 &&& 63) ((a1 >>> ((6 : Int32) &&& 31)) &&& 3) ((a1 >>> ((9 : Int32) &&& 31)) &&& 7) 1 M)
set_option maxRecDepth 20000 in
set_option maxHeartbeats 4000000 in
theorem b_X11_perform_112 {l : Launch} {L : Nat → Nat → Int64} {V : XJ} (r : St) (C : C_X11_perform l r L V) (x1 : Int32) (x2 : Int32) (M : St) (wx2 : xrg 0 63 x2) (hI : Inv INVM M) (h : f_X11_perform_112 x1 x2 M = r) : V 0 0 112 [(0, .ref 14), (1, .int x1), (2, .int x2)] [] LAY (M, L) := by
  unfold f_X11_perform_112 at h
  refine x_run C e_X11_perform_11 e_X11_perform_11_k (pc' := 125) (lv' := [(0, .ref 14), (1, .int x1), (2, .int x2)]) (st' := [.int ((x1 >>> ((6 : Int32) &&& 31)) &&& 63), .int x2, .int (x1 >>> ((12 : Int32) &&& 31)), .ref 14]) (σ' := (M, L)) rfl ⟨trivial, trivial, trivial, trivial, trivial, trivial, trivial, trivial, trivial, trivial, trivial⟩ ?_
  refine x_callV C (k := 14) (ci := 8) (rest := []) (avs := [.int (x1 >>> ((12 : Int32) &&& 31)), .int x2, .int ((x1 >>> ((6 : Int32) &&& 31)) &&& 63)]) (k_X11_move l (x1 >>> ((12 : Int32) &&& 31)) x2 ((x1 >>> ((6 : Int32) &&& 31)) &&& 63) M L hI) yoX11_move ml_X11_156 rfl rfl rfl rfl ⟨Nat.zero_le _, Nat.zero_le _⟩ (show decode cX11_perform 125 = .ok (.invokevirtual 156, 3) from by decide +kernel) rfl (fun v σ' hPo => ?_)
  obtain ⟨⟨rfl, rfl⟩, hI38⟩ := hPo
  generalize hq36 : f_X11_move (x1 >>> ((12 : Int32) &&& 31)) x2 ((x1 >>> ((6 : Int32) &&& 31)) &&& 63) M = q36 at h hI38 ⊢
  have h := xb_eq h
  show V 0 0 128 [(0, .ref 14), (1, .int x1), (2, .int x2)] [] LAY (q36, L)
  refine x_goto C (show decode cX11_perform 128 = .ok (.goto 142, 3) from by decide +kernel) (tgt := 270) (by decide) ?_
  subst h
  exact x_vret C (show decode cX11_perform 270 = .ok (.return_, 1) from by decide +kernel) (x_finV ⟨⟨rfl, rfl⟩, hI38⟩) (Nat.le_refl 0) (Nat.le_refl 0)
set_option maxRecDepth 20000 in
set_option maxHeartbeats 4000000 in
theorem b_X11_perform_166 {l : Launch} {L : Nat → Nat → Int64} {V : XJ} (r : St) (C : C_X11_perform l r L V) (s0 : Int32) (s1 : Int32) (s2 : Int32) (s3 : Int32) (s4 : Int32) (M : St) (ws0 : xrg 0 1 s0) (ws1 : xrg 0 1 s1) (ws2 : xrg 0 7 s2) (ws3 : xrg 0 3 s3) (ws4 : xrg 0 63 s4) (hI : Inv INVM M) (h : f_X11_perform_166 s0 s1 s2 s3 s4 M = r) : V 0 0 166 [] [.int s0, .int s1, .int s2, .int s3, .int s4, .ref 14] LAY (M, L) := by
  unfold f_X11_perform_166 at h
  refine x_callV C (k := 14) (ci := 8) (rest := []) (avs := [.int s4, .int s3, .int s2, .int s1, .int s0]) (k_X11_addOrTake l s4 s3 s2 s1 s0 M L ws4 ws2 hI) yoX11_addOrTake ml_X11_162 rfl rfl rfl rfl ⟨Nat.zero_le _, Nat.zero_le _⟩ (show decode cX11_perform 166 = .ok (.invokevirtual 162, 3) from by decide +kernel) rfl (fun v σ' hPo => ?_)
  obtain ⟨⟨rfl, rfl⟩, hI48⟩ := hPo
  generalize hq46 : f_X11_addOrTake s4 s3 s2 s1 s0 M = q46 at h hI48 ⊢
  have h := xb_eq h
  show V 0 0 169 [] [] LAY (q46, L)
  refine x_goto C (show decode cX11_perform 169 = .ok (.goto 101, 3) from by decide +kernel) (tgt := 270) (by decide) ?_
  subst h
  exact x_vret C (show decode cX11_perform 270 = .ok (.return_, 1) from by decide +kernel) (x_finV ⟨⟨rfl, rfl⟩, hI48⟩) (Nat.le_refl 0) (Nat.le_refl 0)
set_option maxRecDepth 20000 in
set_option maxHeartbeats 4000000 in
theorem b_X11_perform_146 {l : Launch} {L : Nat → Nat → Int64} {V : XJ} (r : St) (C : C_X11_perform l r L V) (x1 : Int32) (x2 : Int32) (x3 : Int32) (x4 : Int32) (x5 : Int32) (M : St) (wx2 : xrg 0 63 x2) (wx3 : xrg 0 3 x3) (wx4 : xrg 0 7 x4) (wx5 : xrg 0 1 x5) (hI : Inv INVM M) (h : f_X11_perform_146 x1 x2 x3 x4 x5 M = r) : V 0 0 146 [(0, .ref 14), (1, .int x1), (2, .int x2), (3, .int x3), (4, .int x4), (5, .int x5)] [] LAY (M, L) := by
  unfold f_X11_perform_146 at h
  refine x_run C e_X11_perform_12 e_X11_perform_12_k (pc' := 158) (lv' := [(0, .ref 14), (1, .int x1), (2, .int x2), (3, .int x3), (4, .int x4), (5, .int x5)]) (st' := [.int 5, .int (x1 >>> ((12 : Int32) &&& 31)), .int x5, .int x4, .int x3, .int x2, .ref 14]) (σ' := (M, L)) rfl ⟨trivial, trivial, trivial, trivial, trivial, trivial, trivial, trivial, trivial, trivial⟩ ?_
  refine x_icmp_ne C (show decode cX11_perform 158 = .ok (.if_icmp .ne 7, 3) from by decide +kernel) (tgt := 165) (by decide) (fun c39 => ?_) (fun c39 => ?_)
  · rw [if_neg c39] at h
    refine x_run C e_X11_perform_13 e_X11_perform_13_k (pc' := 166) (lv' := [(0, .ref 14), (1, .int x1), (2, .int x2), (3, .int x3), (4, .int x4), (5, .int x5)]) (st' := [.int 0, .int x5, .int x4, .int x3, .int x2, .ref 14]) (σ' := (M, L)) rfl ⟨trivial, trivial⟩ ?_
    refine x_lv C [] rfl ?_
    exact b_X11_perform_166 r C 0 x5 x4 x3 x2 M (x_rgw (x_rgc (x := 0) (k := 0) (by decide)) (lo' := 0) (hi' := 1) (by decide) (by decide)) wx5 wx4 wx3 wx2 hI h
  · rw [if_pos c39] at h
    have g40 : xrg 5 5 (x1 >>> ((12 : Int32) &&& 31)) := (x_c_eq (x_rgt (x1 >>> ((12 : Int32) &&& 31))) (x_rgc (x := 5) (k := 5) (by decide)) c39).1
    refine x_run C e_X11_perform_14 e_X11_perform_14_k (pc' := 162) (lv' := [(0, .ref 14), (1, .int x1), (2, .int x2), (3, .int x3), (4, .int x4), (5, .int x5)]) (st' := [.int 1, .int x5, .int x4, .int x3, .int x2, .ref 14]) (σ' := (M, L)) rfl ⟨trivial, trivial⟩ ?_
    refine x_goto C (show decode cX11_perform 162 = .ok (.goto 4, 3) from by decide +kernel) (tgt := 166) (by decide) ?_
    refine x_lv C [] rfl ?_
    exact b_X11_perform_166 r C 1 x5 x4 x3 x2 M (x_rgw (x_rgc (x := 1) (k := 1) (by decide)) (lo' := 0) (hi' := 1) (by decide) (by decide)) wx5 wx4 wx3 wx2 hI h
set_option maxRecDepth 20000 in
set_option maxHeartbeats 4000000 in
theorem b_X11_perform_206 {l : Launch} {L : Nat → Nat → Int64} {V : XJ} (r : St) (C : C_X11_perform l r L V) (s0 : Int32) (s1 : Int32) (s2 : Int32) (s3 : Int32) (s4 : Int32) (M : St) (ws0 : xrg 0 1 s0) (ws1 : xrg 0 1 s1) (ws2 : xrg 0 7 s2) (ws3 : xrg 0 3 s3) (ws4 : xrg 0 63 s4) (hI : Inv INVM M) (h : f_X11_perform_206 s0 s1 s2 s3 s4 M = r) : V 0 0 206 [] [.int s0, .int s1, .int s2, .int s3, .int s4, .ref 14] LAY (M, L) := by
  unfold f_X11_perform_206 at h
  refine x_callV C (k := 14) (ci := 8) (rest := []) (avs := [.int s4, .int s3, .int s2, .int s1, .int s0]) (k_X11_logic l s4 s3 s2 s1 s0 M L ws4 ws2 hI) yoX11_logic ml_X11_170 rfl rfl rfl rfl ⟨Nat.zero_le _, Nat.zero_le _⟩ (show decode cX11_perform 206 = .ok (.invokevirtual 170, 3) from by decide +kernel) rfl (fun v σ' hPo => ?_)
  obtain ⟨⟨rfl, rfl⟩, hI51⟩ := hPo
  generalize hq49 : f_X11_logic s4 s3 s2 s1 s0 M = q49 at h hI51 ⊢
  have h := xb_eq h
  show V 0 0 209 [] [] LAY (q49, L)
  refine x_goto C (show decode cX11_perform 209 = .ok (.goto 61, 3) from by decide +kernel) (tgt := 270) (by decide) ?_
  subst h
  exact x_vret C (show decode cX11_perform 270 = .ok (.return_, 1) from by decide +kernel) (x_finV ⟨⟨rfl, rfl⟩, hI51⟩) (Nat.le_refl 0) (Nat.le_refl 0)
set_option maxRecDepth 20000 in
set_option maxHeartbeats 4000000 in
theorem b_X11_perform_185 {l : Launch} {L : Nat → Nat → Int64} {V : XJ} (r : St) (C : C_X11_perform l r L V) (x1 : Int32) (x2 : Int32) (x3 : Int32) (x4 : Int32) (x5 : Int32) (M : St) (wx2 : xrg 0 63 x2) (wx3 : xrg 0 3 x3) (wx4 : xrg 0 7 x4) (wx5 : xrg 0 1 x5) (hI : Inv INVM M) (h : f_X11_perform_185 x1 x2 x3 x4 x5 M = r) : V 0 0 185 [(0, .ref 14), (1, .int x1), (2, .int x2), (3, .int x3), (4, .int x4), (5, .int x5)] [] LAY (M, L) := by
  unfold f_X11_perform_185 at h
  refine x_run C e_X11_perform_15 e_X11_perform_15_k (pc' := 198) (lv' := [(0, .ref 14), (1, .int x1), (2, .int x2), (3, .int x3), (4, .int x4), (5, .int x5)]) (st' := [.int 7, .int (x1 >>> ((12 : Int32) &&& 31)), .int x5, .int x4, .int x3, .int x2, .ref 14]) (σ' := (M, L)) rfl ⟨trivial, trivial, trivial, trivial, trivial, trivial, trivial, trivial, trivial, trivial⟩ ?_
  refine x_icmp_ne C (show decode cX11_perform 198 = .ok (.if_icmp .ne 7, 3) from by decide +kernel) (tgt := 205) (by decide) (fun c41 => ?_) (fun c41 => ?_)
  · rw [if_neg c41] at h
    refine x_run C e_X11_perform_16 e_X11_perform_16_k (pc' := 206) (lv' := [(0, .ref 14), (1, .int x1), (2, .int x2), (3, .int x3), (4, .int x4), (5, .int x5)]) (st' := [.int 0, .int x5, .int x4, .int x3, .int x2, .ref 14]) (σ' := (M, L)) rfl ⟨trivial, trivial⟩ ?_
    refine x_lv C [] rfl ?_
    exact b_X11_perform_206 r C 0 x5 x4 x3 x2 M (x_rgw (x_rgc (x := 0) (k := 0) (by decide)) (lo' := 0) (hi' := 1) (by decide) (by decide)) wx5 wx4 wx3 wx2 hI h
  · rw [if_pos c41] at h
    have g42 : xrg 7 7 (x1 >>> ((12 : Int32) &&& 31)) := (x_c_eq (x_rgt (x1 >>> ((12 : Int32) &&& 31))) (x_rgc (x := 7) (k := 7) (by decide)) c41).1
    refine x_run C e_X11_perform_17 e_X11_perform_17_k (pc' := 202) (lv' := [(0, .ref 14), (1, .int x1), (2, .int x2), (3, .int x3), (4, .int x4), (5, .int x5)]) (st' := [.int 1, .int x5, .int x4, .int x3, .int x2, .ref 14]) (σ' := (M, L)) rfl ⟨trivial, trivial⟩ ?_
    refine x_goto C (show decode cX11_perform 202 = .ok (.goto 4, 3) from by decide +kernel) (tgt := 206) (by decide) ?_
    refine x_lv C [] rfl ?_
    exact b_X11_perform_206 r C 1 x5 x4 x3 x2 M (x_rgw (x_rgc (x := 1) (k := 1) (by decide)) (lo' := 0) (hi' := 1) (by decide) (by decide)) wx5 wx4 wx3 wx2 hI h
set_option maxRecDepth 20000 in
set_option maxHeartbeats 4000000 in
theorem b_X11_perform_259 {l : Launch} {L : Nat → Nat → Int64} {V : XJ} (r : St) (C : C_X11_perform l r L V) (x1 : Int32) (x2 : Int32) (x3 : Int32) (x4 : Int32) (x5 : Int32) (M : St) (wx2 : xrg 0 63 x2) (wx3 : xrg 0 3 x3) (wx4 : xrg 0 7 x4) (wx5 : xrg 0 1 x5) (hI : Inv INVM M) (h : f_X11_perform_259 x1 x2 x3 x4 x5 M = r) : V 0 0 259 [(0, .ref 14), (1, .int x1), (2, .int x2), (3, .int x3), (4, .int x4), (5, .int x5)] [] LAY (M, L) := by
  unfold f_X11_perform_259 at h
  refine x_run C e_X11_perform_18 e_X11_perform_18_k (pc' := 267) (lv' := [(0, .ref 14), (1, .int x1), (2, .int x2), (3, .int x3), (4, .int x4), (5, .int x5)]) (st' := [.int x5, .int x4, .int x3, .int x2, .int x1, .ref 14]) (σ' := (M, L)) rfl ⟨trivial, trivial, trivial, trivial, trivial, trivial, trivial⟩ ?_
  refine x_callV C (k := 14) (ci := 8) (rest := []) (avs := [.int x1, .int x2, .int x3, .int x4, .int x5]) (k_X11_fourteen l x1 x2 x3 x4 x5 M L wx2 wx4 hI) yoX11_fourteen ml_X11_186 rfl rfl rfl rfl ⟨Nat.zero_le _, Nat.zero_le _⟩ (show decode cX11_perform 267 = .ok (.invokevirtual 186, 3) from by decide +kernel) rfl (fun v σ' hPo => ?_)
  obtain ⟨⟨rfl, rfl⟩, hI45⟩ := hPo
  generalize hq43 : f_X11_fourteen x1 x2 x3 x4 x5 M = q43 at h hI45 ⊢
  have h := xb_eq h
  show V 0 0 270 [(0, .ref 14), (1, .int x1), (2, .int x2), (3, .int x3), (4, .int x4), (5, .int x5)] [] LAY (q43, L)
  subst h
  exact x_vret C (show decode cX11_perform 270 = .ok (.return_, 1) from by decide +kernel) (x_finV ⟨⟨rfl, rfl⟩, hI45⟩) (Nat.le_refl 0) (Nat.le_refl 0)
set_option maxRecDepth 20000 in
set_option maxHeartbeats 4000000 in
theorem b_X11_perform_34 {l : Launch} {L : Nat → Nat → Int64} {V : XJ} (r : St) (C : C_X11_perform l r L V) (x1 : Int32) (x2 : Int32) (x3 : Int32) (x4 : Int32) (s0 : Int32) (M : St) (wx2 : xrg 0 63 x2) (wx3 : xrg 0 3 x3) (wx4 : xrg 0 7 x4) (ws0 : xrg 0 1 s0) (hI : Inv INVM M) (h : f_X11_perform_34 x1 x2 x3 x4 s0 M = r) : V 0 0 34 [(0, .ref 14), (1, .int x1), (2, .int x2), (3, .int x3), (4, .int x4)] [.int s0] LAY (M, L) := by
  unfold f_X11_perform_34 at h
  refine x_run C e_X11_perform_4 e_X11_perform_4_k (pc' := 40) (lv' := [(5, .int s0), (0, .ref 14), (1, .int x1), (2, .int x2), (3, .int x3), (4, .int x4)]) (st' := [.int (x1 >>> ((12 : Int32) &&& 31))]) (σ' := (M, L)) rfl ⟨trivial, trivial, trivial, trivial, trivial⟩ ?_
  by_cases c4 : (x1 >>> ((12 : Int32) &&& 31)) = 0
  · rw [if_pos c4] at h
    refine x_tin C (show decode cX11_perform 40 = .ok (.tableswitch 219 0 13 #[72, 72, 72, 91, 106, 106, 132, 145, 145, 172, 219, 185, 193, 206], 72) from by decide +kernel) 0 c4 (off := 72) (tgt := 112) (by decide) ?_
    refine x_lv C [1, 2, 3] rfl ?_
    exact b_X11_perform_112 r C x1 x2 M wx2 hI h
  rw [if_neg c4] at h
  by_cases c5 : (x1 >>> ((12 : Int32) &&& 31)) = 1
  · rw [if_pos c5] at h
    refine x_tin C (show decode cX11_perform 40 = .ok (.tableswitch 219 0 13 #[72, 72, 72, 91, 106, 106, 132, 145, 145, 172, 219, 185, 193, 206], 72) from by decide +kernel) 1 c5 (off := 72) (tgt := 112) (by decide) ?_
    refine x_lv C [1, 2, 3] rfl ?_
    exact b_X11_perform_112 r C x1 x2 M wx2 hI h
  rw [if_neg c5] at h
  by_cases c6 : (x1 >>> ((12 : Int32) &&& 31)) = 2
  · rw [if_pos c6] at h
    refine x_tin C (show decode cX11_perform 40 = .ok (.tableswitch 219 0 13 #[72, 72, 72, 91, 106, 106, 132, 145, 145, 172, 219, 185, 193, 206], 72) from by decide +kernel) 2 c6 (off := 72) (tgt := 112) (by decide) ?_
    refine x_lv C [1, 2, 3] rfl ?_
    exact b_X11_perform_112 r C x1 x2 M wx2 hI h
  rw [if_neg c6] at h
  by_cases c7 : (x1 >>> ((12 : Int32) &&& 31)) = 3
  · rw [if_pos c7] at h
    refine x_tin C (show decode cX11_perform 40 = .ok (.tableswitch 219 0 13 #[72, 72, 72, 91, 106, 106, 132, 145, 145, 172, 219, 185, 193, 206], 72) from by decide +kernel) 3 c7 (off := 91) (tgt := 131) (by decide) ?_
    refine x_run C e_X11_perform_5 e_X11_perform_5_k (pc' := 140) (lv' := [(5, .int s0), (0, .ref 14), (1, .int x1), (2, .int x2), (3, .int x3), (4, .int x4)]) (st' := [.int x2, .int ((x1 >>> ((6 : Int32) &&& 31)) &&& 63), .ref 14]) (σ' := (M, L)) rfl ⟨trivial, trivial, trivial, trivial, trivial, trivial, trivial, trivial⟩ ?_
    refine x_callV C (k := 14) (ci := 8) (rest := []) (avs := [.int ((x1 >>> ((6 : Int32) &&& 31)) &&& 63), .int x2]) (k_X11_three l ((x1 >>> ((6 : Int32) &&& 31)) &&& 63) x2 M L wx2 hI) yoX11_three ml_X11_159 rfl rfl rfl rfl ⟨Nat.zero_le _, Nat.zero_le _⟩ (show decode cX11_perform 140 = .ok (.invokevirtual 159, 3) from by decide +kernel) rfl (fun v σ' hPo => ?_)
    obtain ⟨⟨rfl, rfl⟩, hI10⟩ := hPo
    generalize hq8 : f_X11_three ((x1 >>> ((6 : Int32) &&& 31)) &&& 63) x2 M = q8 at h hI10 ⊢
    have h := xb_eq h
    show V 0 0 143 [(5, .int s0), (0, .ref 14), (1, .int x1), (2, .int x2), (3, .int x3), (4, .int x4)] [] LAY (q8, L)
    refine x_goto C (show decode cX11_perform 143 = .ok (.goto 127, 3) from by decide +kernel) (tgt := 270) (by decide) ?_
    subst h
    exact x_vret C (show decode cX11_perform 270 = .ok (.return_, 1) from by decide +kernel) (x_finV ⟨⟨rfl, rfl⟩, hI10⟩) (Nat.le_refl 0) (Nat.le_refl 0)
  rw [if_neg c7] at h
  by_cases c11 : (x1 >>> ((12 : Int32) &&& 31)) = 4
  · rw [if_pos c11] at h
    refine x_tin C (show decode cX11_perform 40 = .ok (.tableswitch 219 0 13 #[72, 72, 72, 91, 106, 106, 132, 145, 145, 172, 219, 185, 193, 206], 72) from by decide +kernel) 4 c11 (off := 106) (tgt := 146) (by decide) ?_
    refine x_lv C [1, 2, 3, 4, 5, 0] rfl ?_
    exact b_X11_perform_146 r C x1 x2 x3 x4 s0 M wx2 wx3 wx4 ws0 hI h
  rw [if_neg c11] at h
  by_cases c12 : (x1 >>> ((12 : Int32) &&& 31)) = 5
  · rw [if_pos c12] at h
    refine x_tin C (show decode cX11_perform 40 = .ok (.tableswitch 219 0 13 #[72, 72, 72, 91, 106, 106, 132, 145, 145, 172, 219, 185, 193, 206], 72) from by decide +kernel) 5 c12 (off := 106) (tgt := 146) (by decide) ?_
    refine x_lv C [1, 2, 3, 4, 5, 0] rfl ?_
    exact b_X11_perform_146 r C x1 x2 x3 x4 s0 M wx2 wx3 wx4 ws0 hI h
  rw [if_neg c12] at h
  by_cases c13 : (x1 >>> ((12 : Int32) &&& 31)) = 6
  · rw [if_pos c13] at h
    refine x_tin C (show decode cX11_perform 40 = .ok (.tableswitch 219 0 13 #[72, 72, 72, 91, 106, 106, 132, 145, 145, 172, 219, 185, 193, 206], 72) from by decide +kernel) 6 c13 (off := 132) (tgt := 172) (by decide) ?_
    refine x_run C e_X11_perform_6 e_X11_perform_6_k (pc' := 179) (lv' := [(5, .int s0), (0, .ref 14), (1, .int x1), (2, .int x2), (3, .int x3), (4, .int x4)]) (st' := [.int s0, .int x4, .int x3, .int x2, .ref 14]) (σ' := (M, L)) rfl ⟨trivial, trivial, trivial, trivial, trivial, trivial⟩ ?_
    refine x_callV C (k := 14) (ci := 8) (rest := []) (avs := [.int x2, .int x3, .int x4, .int s0]) (k_X11_compare l x2 x3 x4 s0 M L wx2 wx4 hI) yoX11_compare ml_X11_166 rfl rfl rfl rfl ⟨Nat.zero_le _, Nat.zero_le _⟩ (show decode cX11_perform 179 = .ok (.invokevirtual 166, 3) from by decide +kernel) rfl (fun v σ' hPo => ?_)
    obtain ⟨⟨rfl, rfl⟩, hI16⟩ := hPo
    generalize hq14 : f_X11_compare x2 x3 x4 s0 M = q14 at h hI16 ⊢
    have h := xb_eq h
    show V 0 0 182 [(5, .int s0), (0, .ref 14), (1, .int x1), (2, .int x2), (3, .int x3), (4, .int x4)] [] LAY (q14, L)
    refine x_goto C (show decode cX11_perform 182 = .ok (.goto 88, 3) from by decide +kernel) (tgt := 270) (by decide) ?_
    subst h
    exact x_vret C (show decode cX11_perform 270 = .ok (.return_, 1) from by decide +kernel) (x_finV ⟨⟨rfl, rfl⟩, hI16⟩) (Nat.le_refl 0) (Nat.le_refl 0)
  rw [if_neg c13] at h
  by_cases c17 : (x1 >>> ((12 : Int32) &&& 31)) = 7
  · rw [if_pos c17] at h
    refine x_tin C (show decode cX11_perform 40 = .ok (.tableswitch 219 0 13 #[72, 72, 72, 91, 106, 106, 132, 145, 145, 172, 219, 185, 193, 206], 72) from by decide +kernel) 7 c17 (off := 145) (tgt := 185) (by decide) ?_
    refine x_lv C [1, 2, 3, 4, 5, 0] rfl ?_
    exact b_X11_perform_185 r C x1 x2 x3 x4 s0 M wx2 wx3 wx4 ws0 hI h
  rw [if_neg c17] at h
  by_cases c18 : (x1 >>> ((12 : Int32) &&& 31)) = 8
  · rw [if_pos c18] at h
    refine x_tin C (show decode cX11_perform 40 = .ok (.tableswitch 219 0 13 #[72, 72, 72, 91, 106, 106, 132, 145, 145, 172, 219, 185, 193, 206], 72) from by decide +kernel) 8 c18 (off := 145) (tgt := 185) (by decide) ?_
    refine x_lv C [1, 2, 3, 4, 5, 0] rfl ?_
    exact b_X11_perform_185 r C x1 x2 x3 x4 s0 M wx2 wx3 wx4 ws0 hI h
  rw [if_neg c18] at h
  by_cases c19 : (x1 >>> ((12 : Int32) &&& 31)) = 9
  · rw [if_pos c19] at h
    refine x_tin C (show decode cX11_perform 40 = .ok (.tableswitch 219 0 13 #[72, 72, 72, 91, 106, 106, 132, 145, 145, 172, 219, 185, 193, 206], 72) from by decide +kernel) 9 c19 (off := 172) (tgt := 212) (by decide) ?_
    refine x_run C e_X11_perform_7 e_X11_perform_7_k (pc' := 219) (lv' := [(5, .int s0), (0, .ref 14), (1, .int x1), (2, .int x2), (3, .int x3), (4, .int x4)]) (st' := [.int s0, .int x4, .int x3, .int x2, .ref 14]) (σ' := (M, L)) rfl ⟨trivial, trivial, trivial, trivial, trivial, trivial⟩ ?_
    refine x_callV C (k := 14) (ci := 8) (rest := []) (avs := [.int x2, .int x3, .int x4, .int s0]) (k_X11_quick l x2 x3 x4 s0 M L wx2 wx4 hI) yoX11_quick ml_X11_173 rfl rfl rfl rfl ⟨Nat.zero_le _, Nat.zero_le _⟩ (show decode cX11_perform 219 = .ok (.invokevirtual 173, 3) from by decide +kernel) rfl (fun v σ' hPo => ?_)
    obtain ⟨⟨rfl, rfl⟩, hI22⟩ := hPo
    generalize hq20 : f_X11_quick x2 x3 x4 s0 M = q20 at h hI22 ⊢
    have h := xb_eq h
    show V 0 0 222 [(5, .int s0), (0, .ref 14), (1, .int x1), (2, .int x2), (3, .int x3), (4, .int x4)] [] LAY (q20, L)
    refine x_goto C (show decode cX11_perform 222 = .ok (.goto 48, 3) from by decide +kernel) (tgt := 270) (by decide) ?_
    subst h
    exact x_vret C (show decode cX11_perform 270 = .ok (.return_, 1) from by decide +kernel) (x_finV ⟨⟨rfl, rfl⟩, hI22⟩) (Nat.le_refl 0) (Nat.le_refl 0)
  rw [if_neg c19] at h
  by_cases c23 : (x1 >>> ((12 : Int32) &&& 31)) = 10
  · rw [if_pos c23] at h
    refine x_tin C (show decode cX11_perform 40 = .ok (.tableswitch 219 0 13 #[72, 72, 72, 91, 106, 106, 132, 145, 145, 172, 219, 185, 193, 206], 72) from by decide +kernel) 10 c23 (off := 219) (tgt := 259) (by decide) ?_
    refine x_lv C [1, 2, 3, 4, 5, 0] rfl ?_
    exact b_X11_perform_259 r C x1 x2 x3 x4 s0 M wx2 wx3 wx4 ws0 hI h
  rw [if_neg c23] at h
  by_cases c24 : (x1 >>> ((12 : Int32) &&& 31)) = 11
  · rw [if_pos c24] at h
    refine x_tin C (show decode cX11_perform 40 = .ok (.tableswitch 219 0 13 #[72, 72, 72, 91, 106, 106, 132, 145, 145, 172, 219, 185, 193, 206], 72) from by decide +kernel) 11 c24 (off := 185) (tgt := 225) (by decide) ?_
    refine x_run C e_X11_perform_8 e_X11_perform_8_k (pc' := 227) (lv' := [(5, .int s0), (0, .ref 14), (1, .int x1), (2, .int x2), (3, .int x3), (4, .int x4)]) (st' := [.int x1, .ref 14]) (σ' := (M, L)) rfl ⟨trivial, trivial, trivial⟩ ?_
    refine x_callV C (k := 14) (ci := 8) (rest := []) (avs := [.int x1]) (k_X11_branch l x1 M L hI) yoX11_branch ml_X11_176 rfl rfl rfl rfl ⟨Nat.zero_le _, Nat.zero_le _⟩ (show decode cX11_perform 227 = .ok (.invokevirtual 176, 3) from by decide +kernel) rfl (fun v σ' hPo => ?_)
    obtain ⟨⟨rfl, rfl⟩, hI27⟩ := hPo
    generalize hq25 : f_X11_branch x1 M = q25 at h hI27 ⊢
    have h := xb_eq h
    show V 0 0 230 [(5, .int s0), (0, .ref 14), (1, .int x1), (2, .int x2), (3, .int x3), (4, .int x4)] [] LAY (q25, L)
    refine x_goto C (show decode cX11_perform 230 = .ok (.goto 40, 3) from by decide +kernel) (tgt := 270) (by decide) ?_
    subst h
    exact x_vret C (show decode cX11_perform 270 = .ok (.return_, 1) from by decide +kernel) (x_finV ⟨⟨rfl, rfl⟩, hI27⟩) (Nat.le_refl 0) (Nat.le_refl 0)
  rw [if_neg c24] at h
  by_cases c28 : (x1 >>> ((12 : Int32) &&& 31)) = 12
  · rw [if_pos c28] at h
    refine x_tin C (show decode cX11_perform 40 = .ok (.tableswitch 219 0 13 #[72, 72, 72, 91, 106, 106, 132, 145, 145, 172, 219, 185, 193, 206], 72) from by decide +kernel) 12 c28 (off := 193) (tgt := 233) (by decide) ?_
    refine x_run C e_X11_perform_9 e_X11_perform_9_k (pc' := 240) (lv' := [(5, .int s0), (0, .ref 14), (1, .int x1), (2, .int x2), (3, .int x3), (4, .int x4)]) (st' := [.int s0, .int x4, .int x3, .int x2, .ref 14]) (σ' := (M, L)) rfl ⟨trivial, trivial, trivial, trivial, trivial, trivial⟩ ?_
    refine x_callV C (k := 14) (ci := 8) (rest := []) (avs := [.int x2, .int x3, .int x4, .int s0]) (k_X11_twelve l x2 x3 x4 s0 M L wx2 wx4 hI) yoX11_twelve ml_X11_180 rfl rfl rfl rfl ⟨Nat.zero_le _, Nat.zero_le _⟩ (show decode cX11_perform 240 = .ok (.invokevirtual 180, 3) from by decide +kernel) rfl (fun v σ' hPo => ?_)
    obtain ⟨⟨rfl, rfl⟩, hI31⟩ := hPo
    generalize hq29 : f_X11_twelve x2 x3 x4 s0 M = q29 at h hI31 ⊢
    have h := xb_eq h
    show V 0 0 243 [(5, .int s0), (0, .ref 14), (1, .int x1), (2, .int x2), (3, .int x3), (4, .int x4)] [] LAY (q29, L)
    refine x_goto C (show decode cX11_perform 243 = .ok (.goto 27, 3) from by decide +kernel) (tgt := 270) (by decide) ?_
    subst h
    exact x_vret C (show decode cX11_perform 270 = .ok (.return_, 1) from by decide +kernel) (x_finV ⟨⟨rfl, rfl⟩, hI31⟩) (Nat.le_refl 0) (Nat.le_refl 0)
  rw [if_neg c28] at h
  by_cases c32 : (x1 >>> ((12 : Int32) &&& 31)) = 13
  · rw [if_pos c32] at h
    refine x_tin C (show decode cX11_perform 40 = .ok (.tableswitch 219 0 13 #[72, 72, 72, 91, 106, 106, 132, 145, 145, 172, 219, 185, 193, 206], 72) from by decide +kernel) 13 c32 (off := 206) (tgt := 246) (by decide) ?_
    refine x_run C e_X11_perform_10 e_X11_perform_10_k (pc' := 253) (lv' := [(5, .int s0), (0, .ref 14), (1, .int x1), (2, .int x2), (3, .int x3), (4, .int x4)]) (st' := [.int s0, .int x4, .int x3, .int x2, .ref 14]) (σ' := (M, L)) rfl ⟨trivial, trivial, trivial, trivial, trivial, trivial⟩ ?_
    refine x_callV C (k := 14) (ci := 8) (rest := []) (avs := [.int x2, .int x3, .int x4, .int s0]) (k_X11_shifts l x2 x3 x4 s0 M L wx2 wx4 hI) yoX11_shifts ml_X11_183 rfl rfl rfl rfl ⟨Nat.zero_le _, Nat.zero_le _⟩ (show decode cX11_perform 253 = .ok (.invokevirtual 183, 3) from by decide +kernel) rfl (fun v σ' hPo => ?_)
    obtain ⟨⟨rfl, rfl⟩, hI35⟩ := hPo
    generalize hq33 : f_X11_shifts x2 x3 x4 s0 M = q33 at h hI35 ⊢
    have h := xb_eq h
    show V 0 0 256 [(5, .int s0), (0, .ref 14), (1, .int x1), (2, .int x2), (3, .int x3), (4, .int x4)] [] LAY (q33, L)
    refine x_goto C (show decode cX11_perform 256 = .ok (.goto 14, 3) from by decide +kernel) (tgt := 270) (by decide) ?_
    subst h
    exact x_vret C (show decode cX11_perform 270 = .ok (.return_, 1) from by decide +kernel) (x_finV ⟨⟨rfl, rfl⟩, hI35⟩) (Nat.le_refl 0) (Nat.le_refl 0)
  rw [if_neg c32] at h
  have hz : (x1 >>> ((12 : Int32) &&& 31)).toInt < 0 ∨ 13 < (x1 >>> ((12 : Int32) &&& 31)).toInt := by
    have zc4 := lv_neT (a := 0) c4 (by decide)
    have zc5 := lv_neT (a := 1) c5 (by decide)
    have zc6 := lv_neT (a := 2) c6 (by decide)
    have zc7 := lv_neT (a := 3) c7 (by decide)
    have zc11 := lv_neT (a := 4) c11 (by decide)
    have zc12 := lv_neT (a := 5) c12 (by decide)
    have zc13 := lv_neT (a := 6) c13 (by decide)
    have zc17 := lv_neT (a := 7) c17 (by decide)
    have zc18 := lv_neT (a := 8) c18 (by decide)
    have zc19 := lv_neT (a := 9) c19 (by decide)
    have zc23 := lv_neT (a := 10) c23 (by decide)
    have zc24 := lv_neT (a := 11) c24 (by decide)
    have zc28 := lv_neT (a := 12) c28 (by decide)
    have zc32 := lv_neT (a := 13) c32 (by decide)
    omega
  refine x_tout C (show decode cX11_perform 40 = .ok (.tableswitch 219 0 13 #[72, 72, 72, 91, 106, 106, 132, 145, 145, 172, 219, 185, 193, 206], 72) from by decide +kernel) hz (tgt := 259) (by decide) ?_
  refine x_lv C [1, 2, 3, 4, 5, 0] rfl ?_
  exact b_X11_perform_259 r C x1 x2 x3 x4 s0 M wx2 wx3 wx4 ws0 hI h
set_option maxRecDepth 20000 in
set_option maxHeartbeats 4000000 in
theorem k_X11_perform (l : Launch) (a1 : Int32) (M : St) (L : Nat → Nat → Int64) (hI : Inv INVM M) : XM l yX11_perform cX11_perform 6 none R_X11_perform LAY [.ref 14, .int a1] (M, L) (P_X11_perform (f_X11_perform a1 M) L) := by
  refine XM.of (by decide) (Nat.le_of_ble_eq_true rfl) LAY_in cl_ok fl_X11_ok kc_X11_ok (fun V C => ?_)
  obtain ⟨r, h⟩ : ∃ r, f_X11_perform a1 M = r := ⟨_, rfl⟩
  rw [h] at C
  change C_X11_perform l r L V at C
  unfold f_X11_perform at h
  show V 0 0 0 [(0, .ref 14), (1, .int a1)] [] LAY (M, L)
  refine x_run C e_X11_perform_1 e_X11_perform_1_k (pc' := 26) (lv' := [(4, .int ((a1 >>> ((9 : Int32) &&& 31)) &&& 7)), (3, .int ((a1 >>> ((6 : Int32) &&& 31)) &&& 3)), (2, .int (a1 &&& 63)), (0, .ref 14), (1, .int a1)]) (st' := [.int (a1 &&& 256)]) (σ' := (M, L)) rfl ⟨trivial, trivial, trivial, trivial, trivial, trivial, trivial, trivial, trivial, trivial, trivial, trivial, trivial, trivial, trivial, trivial, trivial, trivial, trivial, trivial⟩ ?_
  refine x_if_eq C (show decode cX11_perform 26 = .ok (.ifCond .eq 7, 3) from by decide +kernel) (tgt := 33) (by decide) (fun c1 => ?_) (fun c1 => ?_)
  · rw [if_pos c1] at h
    have g2 : xrg 0 0 (a1 &&& 256) := (x_c_eq (x_rg_and (x := a1) (m := 256) (k := 256) (by decide) (by decide)) (x_rgc (x := 0) (k := 0) (by decide)) c1).1
    refine x_run C e_X11_perform_2 e_X11_perform_2_k (pc' := 34) (lv' := [(4, .int ((a1 >>> ((9 : Int32) &&& 31)) &&& 7)), (3, .int ((a1 >>> ((6 : Int32) &&& 31)) &&& 3)), (2, .int (a1 &&& 63)), (0, .ref 14), (1, .int a1)]) (st' := [.int 0]) (σ' := (M, L)) rfl ⟨trivial, trivial⟩ ?_
    refine x_lv C [3, 4, 2, 1, 0] rfl ?_
    exact b_X11_perform_34 r C a1 (a1 &&& 63) ((a1 >>> ((6 : Int32) &&& 31)) &&& 3) ((a1 >>> ((9 : Int32) &&& 31)) &&& 7) 0 M (x_rg_and (x := a1) (m := 63) (k := 63) (by decide) (by decide)) (x_rg_and (x := (a1 >>> ((6 : Int32) &&& 31))) (m := 3) (k := 3) (by decide) (by decide)) (x_rg_and (x := (a1 >>> ((9 : Int32) &&& 31))) (m := 7) (k := 7) (by decide) (by decide)) (x_rgw (x_rgc (x := 0) (k := 0) (by decide)) (lo' := 0) (hi' := 1) (by decide) (by decide)) hI h
  · rw [if_neg c1] at h
    have g3 : xrg 1 256 (a1 &&& 256) := (x_c_ne (x_rg_and (x := a1) (m := 256) (k := 256) (by decide) (by decide)) (by decide) c1)
    refine x_run C e_X11_perform_3 e_X11_perform_3_k (pc' := 30) (lv' := [(4, .int ((a1 >>> ((9 : Int32) &&& 31)) &&& 7)), (3, .int ((a1 >>> ((6 : Int32) &&& 31)) &&& 3)), (2, .int (a1 &&& 63)), (0, .ref 14), (1, .int a1)]) (st' := [.int 1]) (σ' := (M, L)) rfl ⟨trivial, trivial⟩ ?_
    refine x_goto C (show decode cX11_perform 30 = .ok (.goto 4, 3) from by decide +kernel) (tgt := 34) (by decide) ?_
    refine x_lv C [3, 4, 2, 1, 0] rfl ?_
    exact b_X11_perform_34 r C a1 (a1 &&& 63) ((a1 >>> ((6 : Int32) &&& 31)) &&& 3) ((a1 >>> ((9 : Int32) &&& 31)) &&& 7) 1 M (x_rg_and (x := a1) (m := 63) (k := 63) (by decide) (by decide)) (x_rg_and (x := (a1 >>> ((6 : Int32) &&& 31))) (m := 3) (k := 3) (by decide) (by decide)) (x_rg_and (x := (a1 >>> ((9 : Int32) &&& 31))) (m := 7) (k := 7) (by decide) (by decide)) (x_rgw (x_rgc (x := 1) (k := 1) (by decide)) (lo' := 0) (hi' := 1) (by decide) (by decide)) hI h
-- X11_instruct
def e_X11_instruct_1 : List xI := [(0, .aload_n 0, 1, .null), (1, .aload_n 0, 1, .null), (2, .getfield 17, 3, .null)]
theorem e_X11_instruct_1_k : e_X11_instruct_1.all (fun q => xokB cX11_instruct q && xokL q) = true := by decide +kernel
def e_X11_instruct_2 : List xI := [(8, .aload_n 0, 1, .null), (9, .ldc_w 269, 3, .null)]
theorem e_X11_instruct_2_k : e_X11_instruct_2.all (fun q => xokB cX11_instruct q && xokL q) = true := by decide +kernel
def e_X11_instruct_3 : List xI := [(15, .istore_n 1, 1, .null), (16, .aload_n 0, 1, .null), (17, .getfield 7, 3, .null), (20, .bipush 17, 2, .int 17), (22, .iaload, 1, .null), (23, .istore_n 2, 1, .null), (24, .aload_n 0, 1, .null), (25, .iconst 0, 1, .int 0), (26, .putfield 276, 3, .null), (29, .aload_n 0, 1, .null), (30, .iconst 0, 1, .int 0), (31, .putfield 47, 3, .null), (34, .aload_n 0, 1, .null), (35, .iconst 0, 1, .int 0), (36, .putfield 228, 3, .null), (39, .aload_n 0, 1, .null), (40, .iconst 0, 1, .int 0), (41, .putfield 237, 3, .null), (44, .aload_n 0, 1, .null)]
theorem e_X11_instruct_3_k : e_X11_instruct_3.all (fun q => xokB cX11_instruct q && xokL q) = true := by decide +kernel
def e_X11_instruct_4 : List xI := [(48, .istore_n 3, 1, .null), (49, .aload_n 0, 1, .null), (50, .aload_n 0, 1, .null), (51, .getfield 47, 3, .null)]
theorem e_X11_instruct_4_k : e_X11_instruct_4.all (fun q => xokB cX11_instruct q && xokL q) = true := by decide +kernel
def e_X11_instruct_5 : List xI := [(61, .iconst 0, 1, .int 0)]
theorem e_X11_instruct_5_k : e_X11_instruct_5.all (fun q => xokB cX11_instruct q && xokL q) = true := by decide +kernel
def e_X11_instruct_6 : List xI := [(57, .iload_n 3, 1, .null)]
theorem e_X11_instruct_6_k : e_X11_instruct_6.all (fun q => xokB cX11_instruct q && xokL q) = true := by decide +kernel
def e_X11_instruct_7 : List xI := [(62, .putfield 276, 3, .null), (65, .iload_n 3, 1, .null), (66, .bipush 12, 2, .int 12), (68, .ishr, 1, .null), (69, .bipush 10, 2, .int 10)]
theorem e_X11_instruct_7_k : e_X11_instruct_7.all (fun q => xokB cX11_instruct q && xokL q) = true := by decide +kernel
def e_X11_instruct_8 : List xI := [(79, .iload_n 3, 1, .null), (80, .bipush 12, 2, .int 12), (82, .ishr, 1, .null), (83, .bipush 15, 2, .int 15)]
theorem e_X11_instruct_8_k : e_X11_instruct_8.all (fun q => xokB cX11_instruct q && xokL q) = true := by decide +kernel
def e_X11_instruct_9 : List xI := [(93, .iload_n 3, 1, .null)]
theorem e_X11_instruct_9_k : e_X11_instruct_9.all (fun q => xokB cX11_instruct q && xokL q) = true := by decide +kernel
def e_X11_instruct_10 : List xI := [(104, .iload_n 3, 1, .null)]
theorem e_X11_instruct_10_k : e_X11_instruct_10.all (fun q => xokB cX11_instruct q && xokL q) = true := by decide +kernel
def e_X11_instruct_11 : List xI := [(111, .aload_n 0, 1, .null), (112, .sipush 8192, 3, .int 8192)]
theorem e_X11_instruct_11_k : e_X11_instruct_11.all (fun q => xokB cX11_instruct q && xokL q) = true := by decide +kernel
def e_X11_instruct_12 : List xI := [(121, .bipush 8, 2, .int 8)]
theorem e_X11_instruct_12_k : e_X11_instruct_12.all (fun q => xokB cX11_instruct q && xokL q) = true := by decide +kernel
def e_X11_instruct_13 : List xI := [(100, .iconst 4, 1, .int 4)]
theorem e_X11_instruct_13_k : e_X11_instruct_13.all (fun q => xokB cX11_instruct q && xokL q) = true := by decide +kernel
def e_X11_instruct_14 : List xI := [(88, .bipush 11, 2, .int 11)]
theorem e_X11_instruct_14_k : e_X11_instruct_14.all (fun q => xokB cX11_instruct q && xokL q) = true := by decide +kernel
def e_X11_instruct_15 : List xI := [(74, .bipush 10, 2, .int 10)]
theorem e_X11_instruct_15_k : e_X11_instruct_15.all (fun q => xokB cX11_instruct q && xokL q) = true := by decide +kernel
def e_X11_instruct_16 : List xI := [(126, .iconst 0, 1, .int 0)]
theorem e_X11_instruct_16_k : e_X11_instruct_16.all (fun q => xokB cX11_instruct q && xokL q) = true := by decide +kernel
def e_X11_instruct_17 : List xI := [(127, .istore 4, 2, .null), (129, .aload_n 0, 1, .null), (130, .getfield 47, 3, .null)]
theorem e_X11_instruct_17_k : e_X11_instruct_17.all (fun q => xokB cX11_instruct q && xokL q) = true := by decide +kernel
def e_X11_instruct_18 : List xI := [(136, .iload 4, 2, .null)]
theorem e_X11_instruct_18_k : e_X11_instruct_18.all (fun q => xokB cX11_instruct q && xokL q) = true := by decide +kernel
def e_X11_instruct_19 : List xI := [(141, .aload_n 0, 1, .null), (142, .iload_n 3, 1, .null)]
theorem e_X11_instruct_19_k : e_X11_instruct_19.all (fun q => xokB cX11_instruct q && xokL q) = true := by decide +kernel
def e_X11_instruct_20 : List xI := [(146, .aload_n 0, 1, .null), (147, .getfield 47, 3, .null)]
theorem e_X11_instruct_20_k : e_X11_instruct_20.all (fun q => xokB cX11_instruct q && xokL q) = true := by decide +kernel
def e_X11_instruct_21 : List xI := [(160, .iload 4, 2, .null)]
theorem e_X11_instruct_21_k : e_X11_instruct_21.all (fun q => xokB cX11_instruct q && xokL q) = true := by decide +kernel
def e_X11_instruct_22 : List xI := [(153, .aload_n 0, 1, .null), (154, .getfield 47, 3, .null)]
theorem e_X11_instruct_22_k : e_X11_instruct_22.all (fun q => xokB cX11_instruct q && xokL q) = true := by decide +kernel
def e_X11_instruct_23 : List xI := [(162, .istore 4, 2, .null), (164, .iload 4, 2, .null)]
theorem e_X11_instruct_23_k : e_X11_instruct_23.all (fun q => xokB cX11_instruct q && xokL q) = true := by decide +kernel
def e_X11_instruct_24 : List xI := [(187, .aload_n 0, 1, .null), (188, .aload_n 0, 1, .null), (189, .getfield 237, 3, .null)]
theorem e_X11_instruct_24_k : e_X11_instruct_24.all (fun q => xokB cX11_instruct q && xokL q) = true := by decide +kernel
def e_X11_instruct_25 : List xI := [(195, .iload_n 1, 1, .null)]
theorem e_X11_instruct_25_k : e_X11_instruct_25.all (fun q => xokB cX11_instruct q && xokL q) = true := by decide +kernel
def e_X11_instruct_26 : List xI := [(199, .iconst 1, 1, .int 1)]
theorem e_X11_instruct_26_k : e_X11_instruct_26.all (fun q => xokB cX11_instruct q && xokL q) = true := by decide +kernel
def e_X11_instruct_27 : List xI := [(169, .aload_n 0, 1, .null), (170, .aload_n 0, 1, .null), (171, .getfield 17, 3, .null)]
theorem e_X11_instruct_27_k : e_X11_instruct_27.all (fun q => xokB cX11_instruct q && xokL q) = true := by decide +kernel
def e_X11_instruct_28 : List xI := [(177, .aload_n 0, 1, .null), (178, .iload 4, 2, .null), (180, .iload_n 2, 1, .null)]
theorem e_X11_instruct_28_k : e_X11_instruct_28.all (fun q => xokB cX11_instruct q && xokL q) = true := by decide +kernel
def e_X11_instruct_29 : List xI := [(184, .iload 4, 2, .null)]
theorem e_X11_instruct_29_k : e_X11_instruct_29.all (fun q => xokB cX11_instruct q && xokL q) = true := by decide +kernel
def e_X11_instruct_30 : List xI := [(203, .iconst 0, 1, .int 0)]
theorem e_X11_instruct_30_k : e_X11_instruct_30.all (fun q => xokB cX11_instruct q && xokL q) = true := by decide +kernel
def e_X11_instruct_31 : List xI := [(204, .putfield 297, 3, .null), (207, .aload_n 0, 1, .null), (208, .getfield 228, 3, .null)]
theorem e_X11_instruct_31_k : e_X11_instruct_31.all (fun q => xokB cX11_instruct q && xokL q) = true := by decide +kernel
def e_X11_instruct_32 : List xI := [(214, .aload_n 0, 1, .null), (215, .aload_n 0, 1, .null), (216, .getfield 228, 3, .null), (219, .aload_n 0, 1, .null), (220, .getfield 7, 3, .null), (223, .bipush 17, 2, .int 17), (225, .iaload, 1, .null)]
theorem e_X11_instruct_32_k : e_X11_instruct_32.all (fun q => xokB cX11_instruct q && xokL q) = true := by decide +kernel
def e_X11_instruct_33 : List xI := [(229, .iload_n 1, 1, .null)]
theorem e_X11_instruct_33_k : e_X11_instruct_33.all (fun q => xokB cX11_instruct q && xokL q) = true := by decide +kernel
def e_X11_instruct_34 : List xI := [(233, .aload_n 0, 1, .null), (234, .getfield 23, 3, .null)]
theorem e_X11_instruct_34_k : e_X11_instruct_34.all (fun q => xokB cX11_instruct q && xokL q) = true := by decide +kernel
def e_X11_instruct_35 : List xI := [(240, .aload_n 0, 1, .null), (241, .bipush 9, 2, .int 9), (243, .aload_n 0, 1, .null), (244, .getfield 7, 3, .null), (247, .bipush 17, 2, .int 17), (249, .iaload, 1, .null)]
theorem e_X11_instruct_35_k : e_X11_instruct_35.all (fun q => xokB cX11_instruct q && xokL q) = true := by decide +kernel
def e_X11_instruct_36 : List xI := [(253, .aload_n 0, 1, .null), (254, .getfield 228, 3, .null)]
theorem e_X11_instruct_36_k : e_X11_instruct_36.all (fun q => xokB cX11_instruct q && xokL q) = true := by decide +kernel
def e_X11_instruct_37 : List xI := [(267, .iload_n 1, 1, .null)]
theorem e_X11_instruct_37_k : e_X11_instruct_37.all (fun q => xokB cX11_instruct q && xokL q) = true := by decide +kernel
def e_X11_instruct_38 : List xI := [(276, .iconst 0, 1, .int 0)]
theorem e_X11_instruct_38_k : e_X11_instruct_38.all (fun q => xokB cX11_instruct q && xokL q) = true := by decide +kernel
def e_X11_instruct_39 : List xI := [(271, .bipush 9, 2, .int 9)]
theorem e_X11_instruct_39_k : e_X11_instruct_39.all (fun q => xokB cX11_instruct q && xokL q) = true := by decide +kernel
def e_X11_instruct_40 : List xI := [(260, .aload_n 0, 1, .null), (261, .getfield 228, 3, .null)]
theorem e_X11_instruct_40_k : e_X11_instruct_40.all (fun q => xokB cX11_instruct q && xokL q) = true := by decide +kernel
abbrev P_X11_instruct (r : Int32 × St) (L : Nat → Nat → Int64) : Option Value → xG → Prop := fun v σ' => PoI r.1 r.2 L v σ' ∧ xrg 0 47 r.1 ∧ Inv INVM r.2
abbrev R_X11_instruct : Room := { frames := 11, cells := 0, slots := 0, locals := 267 }
abbrev C_X11_instruct (l : Launch) (r : Int32 × St) (L : Nat → Nat → Int64) (V : XJ) : Prop := XC l yX11_instruct.cls yX11_instruct.name cX11_instruct 5 R_X11_instruct 0 0 fl_X11 kc_X11 LAY.length (xfin (some .int) LAY (P_X11_instruct r L)) V
def f_X11_instruct_253 (x1 : Int32) (M : St) : Int32 × St := (if (M 14 23) = 0 then (if x1 = 0 then (0, M) else (9, M)) else ((M 14 23), M))
def f_X11_instruct_229 (x1 : Int32) (M : St) : Int32 × St := (if x1 = 0 then f_X11_instruct_253 x1 M else (if (M 14 5) = 0 then (xb (f_X11_work 9 (M 15 17) M) fun q75 => f_X11_instruct_253 x1 q75) else f_X11_instruct_253 x1 M))
def f_X11_instruct_204 (x1 : Int32) (s0 : Int32) (M : St) : Int32 × St := (if (M 14 23) = 0 then f_X11_instruct_229 x1 (xup M 14 6 s0) else (xb (f_X11_work (M 14 23) (M 15 17) (xup M 14 6 s0)) fun q67 => f_X11_instruct_229 x1 q67))
def f_X11_instruct_203 (x1 : Int32) (M : St) : Int32 × St := f_X11_instruct_204 x1 0 M
def f_X11_instruct_162 (x1 : Int32) (x2 : Int32) (s0 : Int32) (M : St) : Int32 × St := (if s0 = 0 then (if (M 14 24) = 0 then f_X11_instruct_203 x1 M else (if x1 = 0 then f_X11_instruct_204 x1 1 M else f_X11_instruct_203 x1 M)) else (xb (f_X11_back__16  M) fun q57 => (xb (f_X11_work s0 x2 q57) fun q60 => (s0, q60))))
def f_X11_instruct_146 (x1 : Int32) (x2 : Int32) (x4 : Int32) (M : St) : Int32 × St := (if (M 14 20) = 0 then f_X11_instruct_162 x1 x2 x4 M else f_X11_instruct_162 x1 x2 (M 14 20) M)
def f_X11_instruct_127 (x1 : Int32) (x2 : Int32) (x3 : Int32) (s0 : Int32) (M : St) : Int32 × St := (if (M 14 20) = 0 then (if s0 = 0 then (xb (f_X11_perform x3 M) fun q43 => f_X11_instruct_146 x1 x2 s0 q43) else f_X11_instruct_146 x1 x2 s0 M) else f_X11_instruct_146 x1 x2 s0 M)
def f_X11_instruct_126 (x1 : Int32) (x2 : Int32) (x3 : Int32) (M : St) : Int32 × St := f_X11_instruct_127 x1 x2 x3 0 M
def f_X11_instruct_62 (x1 : Int32) (x2 : Int32) (x3 : Int32) (s0 : Int32) (M : St) : Int32 × St := (if (x3 >>> ((12 : Int32) &&& 31)) = 10 then f_X11_instruct_127 x1 x2 x3 10 (xup M 14 19 s0) else (if (x3 >>> ((12 : Int32) &&& 31)) = 15 then f_X11_instruct_127 x1 x2 x3 11 (xup M 14 19 s0) else (if (f_X11_isLegal x3) = 0 then f_X11_instruct_127 x1 x2 x3 4 (xup M 14 19 s0) else (if (f_X11_isPrivileged x3) = 0 then f_X11_instruct_126 x1 x2 x3 (xup M 14 19 s0) else (if (f_X11_has 8192 (xup M 14 19 s0)) = 0 then f_X11_instruct_127 x1 x2 x3 8 (xup M 14 19 s0) else f_X11_instruct_126 x1 x2 x3 (xup M 14 19 s0))))))
def f_X11_instruct (M : St) : Int32 × St := (xb (f_X11_keep__16  M) fun q1 => (xb (f_X11_fetch  (xup (xup (xup (xup q1 14 19 0) 14 20 0) 14 23 0) 14 24 0)) fun q8 => (if (q8.2 14 20) = 0 then f_X11_instruct_62 (f_X11_has 32768 q1) (q1 15 17) q8.1 q8.1 q8.2 else f_X11_instruct_62 (f_X11_has 32768 q1) (q1 15 17) q8.1 0 q8.2)))
set_option maxRecDepth 20000 in
set_option maxHeartbeats 4000000 in
theorem b_X11_instruct_253 {l : Launch} {L : Nat → Nat → Int64} {V : XJ} (r : Int32 × St) (C : C_X11_instruct l r L V) (x1 : Int32) (M : St) (wx1 : xrg 0 1 x1) (hI : Inv INVM M) (h : f_X11_instruct_253 x1 M = r) : V 0 0 253 [(0, .ref 14), (1, .int x1)] [] LAY (M, L) := by
  unfold f_X11_instruct_253 at h
  refine x_run C e_X11_instruct_36 e_X11_instruct_36_k (pc' := 257) (lv' := [(0, .ref 14), (1, .int x1)]) (st' := [.int (M 14 23)]) (σ' := (M, L)) rfl ⟨trivial, trivial, trivial⟩ ?_
  refine x_if_eq C (show decode cX11_instruct 257 = .ok (.ifCond .eq 10, 3) from by decide +kernel) (tgt := 267) (by decide) (fun c78 => ?_) (fun c78 => ?_)
  · rw [if_pos c78] at h
    have g79 : xrg 0 0 (M 14 23) := (x_c_eq (hI.at 6 rfl) (x_rgc (x := 0) (k := 0) (by decide)) c78).1
    refine x_run C e_X11_instruct_37 e_X11_instruct_37_k (pc' := 268) (lv' := [(0, .ref 14), (1, .int x1)]) (st' := [.int x1]) (σ' := (M, L)) rfl ⟨trivial, trivial⟩ ?_
    refine x_if_eq C (show decode cX11_instruct 268 = .ok (.ifCond .eq 8, 3) from by decide +kernel) (tgt := 276) (by decide) (fun c80 => ?_) (fun c80 => ?_)
    · rw [if_pos c80] at h
      have g81 : xrg 0 0 x1 := (x_c_eq wx1 (x_rgc (x := 0) (k := 0) (by decide)) c80).1
      refine x_run C e_X11_instruct_38 e_X11_instruct_38_k (pc' := 277) (lv' := [(0, .ref 14), (1, .int x1)]) (st' := [.int 0]) (σ' := (M, L)) rfl ⟨trivial, trivial⟩ ?_
      subst h
      exact x_iret C (show decode cX11_instruct 277 = .ok (.ireturn, 1) from by decide +kernel) (x_finI rfl ⟨⟨rfl, rfl⟩, (x_rgw (x_rgc (x := 0) (k := 0) (by decide)) (lo' := 0) (hi' := 47) (by decide) (by decide)), hI⟩) (Nat.le_refl 0) (Nat.le_refl 0)
    · rw [if_neg c80] at h
      have g82 : xrg 1 1 x1 := (x_c_ne wx1 (by decide) c80)
      refine x_run C e_X11_instruct_39 e_X11_instruct_39_k (pc' := 273) (lv' := [(0, .ref 14), (1, .int x1)]) (st' := [.int 9]) (σ' := (M, L)) rfl ⟨trivial, trivial⟩ ?_
      refine x_goto C (show decode cX11_instruct 273 = .ok (.goto 4, 3) from by decide +kernel) (tgt := 277) (by decide) ?_
      subst h
      exact x_iret C (show decode cX11_instruct 277 = .ok (.ireturn, 1) from by decide +kernel) (x_finI rfl ⟨⟨rfl, rfl⟩, (x_rgw (x_rgc (x := 9) (k := 9) (by decide)) (lo' := 0) (hi' := 47) (by decide) (by decide)), hI⟩) (Nat.le_refl 0) (Nat.le_refl 0)
  · rw [if_neg c78] at h
    have g83 : xrg 1 47 (M 14 23) := (x_c_ne (hI.at 6 rfl) (by decide) c78)
    refine x_run C e_X11_instruct_40 e_X11_instruct_40_k (pc' := 264) (lv' := [(0, .ref 14), (1, .int x1)]) (st' := [.int (M 14 23)]) (σ' := (M, L)) rfl ⟨trivial, trivial, trivial⟩ ?_
    refine x_goto C (show decode cX11_instruct 264 = .ok (.goto 13, 3) from by decide +kernel) (tgt := 277) (by decide) ?_
    subst h
    exact x_iret C (show decode cX11_instruct 277 = .ok (.ireturn, 1) from by decide +kernel) (x_finI rfl ⟨⟨rfl, rfl⟩, (x_rgw g83 (lo' := 0) (hi' := 47) (by decide) (by decide)), hI⟩) (Nat.le_refl 0) (Nat.le_refl 0)
set_option maxRecDepth 20000 in
set_option maxHeartbeats 4000000 in
theorem b_X11_instruct_229 {l : Launch} {L : Nat → Nat → Int64} {V : XJ} (r : Int32 × St) (C : C_X11_instruct l r L V) (x1 : Int32) (M : St) (wx1 : xrg 0 1 x1) (hI : Inv INVM M) (h : f_X11_instruct_229 x1 M = r) : V 0 0 229 [(0, .ref 14), (1, .int x1)] [] LAY (M, L) := by
  unfold f_X11_instruct_229 at h
  refine x_run C e_X11_instruct_33 e_X11_instruct_33_k (pc' := 230) (lv' := [(0, .ref 14), (1, .int x1)]) (st' := [.int x1]) (σ' := (M, L)) rfl ⟨trivial, trivial⟩ ?_
  refine x_if_eq C (show decode cX11_instruct 230 = .ok (.ifCond .eq 23, 3) from by decide +kernel) (tgt := 253) (by decide) (fun c70 => ?_) (fun c70 => ?_)
  · rw [if_pos c70] at h
    have g71 : xrg 0 0 x1 := (x_c_eq wx1 (x_rgc (x := 0) (k := 0) (by decide)) c70).1
    exact b_X11_instruct_253 r C x1 M (x_rgw g71 (lo' := 0) (hi' := 1) (by decide) (by decide)) hI h
  · rw [if_neg c70] at h
    have g72 : xrg 1 1 x1 := (x_c_ne wx1 (by decide) c70)
    refine x_run C e_X11_instruct_34 e_X11_instruct_34_k (pc' := 237) (lv' := [(0, .ref 14), (1, .int x1)]) (st' := [.int (M 14 5)]) (σ' := (M, L)) rfl ⟨trivial, trivial, trivial⟩ ?_
    refine x_if_ne C (show decode cX11_instruct 237 = .ok (.ifCond .ne 16, 3) from by decide +kernel) (tgt := 253) (by decide) (fun c73 => ?_) (fun c73 => ?_)
    · rw [if_neg c73] at h
      exact b_X11_instruct_253 r C x1 M (x_rgw g72 (lo' := 0) (hi' := 1) (by decide) (by decide)) hI h
    · rw [if_pos c73] at h
      have g74 : xrg 0 0 (M 14 5) := (x_c_eq (x_rgt (M 14 5)) (x_rgc (x := 0) (k := 0) (by decide)) c73).1
      refine x_run C e_X11_instruct_35 e_X11_instruct_35_k (pc' := 250) (lv' := [(0, .ref 14), (1, .int x1)]) (st' := [.int (M 15 17), .int 9, .ref 14]) (σ' := (M, L)) rfl ⟨trivial, trivial, trivial, trivial, trivial, (x_rgv (x_rgc (x := 17) (k := 17) (by decide)) (by decide) (by decide)), trivial⟩ ?_
      refine x_callV C (k := 14) (ci := 8) (rest := []) (avs := [.int 9, .int (M 15 17)]) (k_X11_work l 9 (M 15 17) M L (x_rgw (x_rgc (x := 9) (k := 9) (by decide)) (lo' := 0) (hi' := 47) (by decide) (by decide)) hI) yoX11_work ml_X11_294 rfl rfl rfl rfl ⟨Nat.zero_le _, Nat.zero_le _⟩ (show decode cX11_instruct 250 = .ok (.invokevirtual 294, 3) from by decide +kernel) rfl (fun v σ' hPo => ?_)
      obtain ⟨⟨rfl, rfl⟩, hI77⟩ := hPo
      generalize hq75 : f_X11_work 9 (M 15 17) M = q75 at h hI77 ⊢
      have h := xb_eq h
      show V 0 0 253 [(0, .ref 14), (1, .int x1)] [] LAY (q75, L)
      exact b_X11_instruct_253 r C x1 q75 (x_rgw g72 (lo' := 0) (hi' := 1) (by decide) (by decide)) hI77 h
set_option maxRecDepth 20000 in
set_option maxHeartbeats 4000000 in
theorem b_X11_instruct_204 {l : Launch} {L : Nat → Nat → Int64} {V : XJ} (r : Int32 × St) (C : C_X11_instruct l r L V) (x1 : Int32) (s0 : Int32) (M : St) (wx1 : xrg 0 1 x1) (ws0 : xrg 0 1 s0) (hI : Inv INVM M) (h : f_X11_instruct_204 x1 s0 M = r) : V 0 0 204 [(0, .ref 14), (1, .int x1)] [.int s0, .ref 14] LAY (M, L) := by
  unfold f_X11_instruct_204 at h
  refine x_run C e_X11_instruct_31 e_X11_instruct_31_k (pc' := 211) (lv' := [(0, .ref 14), (1, .int x1)]) (st' := [.int (M 14 23)]) (σ' := ((xup M 14 6 s0), L)) rfl ⟨(x_rgb ws0), trivial, trivial, trivial⟩ ?_
  have hI63 : Inv INVM (xup M 14 6 s0) := (hI.fld 14 6 s0 (by decide))
  refine x_if_eq C (show decode cX11_instruct 211 = .ok (.ifCond .eq 18, 3) from by decide +kernel) (tgt := 229) (by decide) (fun c64 => ?_) (fun c64 => ?_)
  · rw [if_pos c64] at h
    have g65 : xrg 0 0 (M 14 23) := (x_c_eq (hI.at 6 rfl) (x_rgc (x := 0) (k := 0) (by decide)) c64).1
    exact b_X11_instruct_229 r C x1 (xup M 14 6 s0) wx1 hI63 h
  · rw [if_neg c64] at h
    have g66 : xrg 1 47 (M 14 23) := (x_c_ne (hI.at 6 rfl) (by decide) c64)
    refine x_run C e_X11_instruct_32 e_X11_instruct_32_k (pc' := 226) (lv' := [(0, .ref 14), (1, .int x1)]) (st' := [.int (M 15 17), .int (M 14 23), .ref 14]) (σ' := ((xup M 14 6 s0), L)) rfl ⟨trivial, trivial, trivial, trivial, trivial, trivial, (x_rgv (x_rgc (x := 17) (k := 17) (by decide)) (by decide) (by decide)), trivial⟩ ?_
    refine x_callV C (k := 14) (ci := 8) (rest := []) (avs := [.int (M 14 23), .int (M 15 17)]) (k_X11_work l (M 14 23) (M 15 17) (xup M 14 6 s0) L (x_rgw g66 (lo' := 0) (hi' := 47) (by decide) (by decide)) hI63) yoX11_work ml_X11_294 rfl rfl rfl rfl ⟨Nat.zero_le _, Nat.zero_le _⟩ (show decode cX11_instruct 226 = .ok (.invokevirtual 294, 3) from by decide +kernel) rfl (fun v σ' hPo => ?_)
    obtain ⟨⟨rfl, rfl⟩, hI69⟩ := hPo
    generalize hq67 : f_X11_work (M 14 23) (M 15 17) (xup M 14 6 s0) = q67 at h hI69 ⊢
    have h := xb_eq h
    show V 0 0 229 [(0, .ref 14), (1, .int x1)] [] LAY (q67, L)
    exact b_X11_instruct_229 r C x1 q67 wx1 hI69 h
set_option maxRecDepth 20000 in
set_option maxHeartbeats 4000000 in
theorem b_X11_instruct_203 {l : Launch} {L : Nat → Nat → Int64} {V : XJ} (r : Int32 × St) (C : C_X11_instruct l r L V) (x1 : Int32) (M : St) (wx1 : xrg 0 1 x1) (hI : Inv INVM M) (h : f_X11_instruct_203 x1 M = r) : V 0 0 203 [(0, .ref 14), (1, .int x1)] [.ref 14] LAY (M, L) := by
  unfold f_X11_instruct_203 at h
  refine x_run C e_X11_instruct_30 e_X11_instruct_30_k (pc' := 204) (lv' := [(0, .ref 14), (1, .int x1)]) (st' := [.int 0, .ref 14]) (σ' := (M, L)) rfl ⟨trivial, trivial⟩ ?_
  exact b_X11_instruct_204 r C x1 0 M wx1 (x_rgw (x_rgc (x := 0) (k := 0) (by decide)) (lo' := 0) (hi' := 1) (by decide) (by decide)) hI h
set_option maxRecDepth 20000 in
set_option maxHeartbeats 4000000 in
theorem b_X11_instruct_162 {l : Launch} {L : Nat → Nat → Int64} {V : XJ} (r : Int32 × St) (C : C_X11_instruct l r L V) (x1 : Int32) (x2 : Int32) (s0 : Int32) (M : St) (wx1 : xrg 0 1 x1) (ws0 : xrg 0 11 s0) (hI : Inv INVM M) (h : f_X11_instruct_162 x1 x2 s0 M = r) : V 0 0 162 [(0, .ref 14), (1, .int x1), (2, .int x2)] [.int s0] LAY (M, L) := by
  unfold f_X11_instruct_162 at h
  refine x_run C e_X11_instruct_23 e_X11_instruct_23_k (pc' := 166) (lv' := [(4, .int s0), (0, .ref 14), (1, .int x1), (2, .int x2)]) (st' := [.int s0]) (σ' := (M, L)) rfl ⟨trivial, trivial, trivial⟩ ?_
  refine x_if_eq C (show decode cX11_instruct 166 = .ok (.ifCond .eq 21, 3) from by decide +kernel) (tgt := 187) (by decide) (fun c49 => ?_) (fun c49 => ?_)
  · rw [if_pos c49] at h
    have g50 : xrg 0 0 s0 := (x_c_eq ws0 (x_rgc (x := 0) (k := 0) (by decide)) c49).1
    refine x_run C e_X11_instruct_24 e_X11_instruct_24_k (pc' := 192) (lv' := [(4, .int s0), (0, .ref 14), (1, .int x1), (2, .int x2)]) (st' := [.int (M 14 24), .ref 14]) (σ' := (M, L)) rfl ⟨trivial, trivial, trivial, trivial⟩ ?_
    refine x_if_eq C (show decode cX11_instruct 192 = .ok (.ifCond .eq 11, 3) from by decide +kernel) (tgt := 203) (by decide) (fun c51 => ?_) (fun c51 => ?_)
    · rw [if_pos c51] at h
      have g52 : xrg 0 0 (M 14 24) := (x_c_eq (x_rgt (M 14 24)) (x_rgc (x := 0) (k := 0) (by decide)) c51).1
      refine x_lv C [1, 2] rfl ?_
      exact b_X11_instruct_203 r C x1 M wx1 hI h
    · rw [if_neg c51] at h
      refine x_run C e_X11_instruct_25 e_X11_instruct_25_k (pc' := 196) (lv' := [(4, .int s0), (0, .ref 14), (1, .int x1), (2, .int x2)]) (st' := [.int x1, .ref 14]) (σ' := (M, L)) rfl ⟨trivial, trivial⟩ ?_
      refine x_if_ne C (show decode cX11_instruct 196 = .ok (.ifCond .ne 7, 3) from by decide +kernel) (tgt := 203) (by decide) (fun c53 => ?_) (fun c53 => ?_)
      · rw [if_neg c53] at h
        have g54 : xrg 1 1 x1 := (x_c_ne wx1 (by decide) c53)
        refine x_lv C [1, 2] rfl ?_
        exact b_X11_instruct_203 r C x1 M (x_rgw g54 (lo' := 0) (hi' := 1) (by decide) (by decide)) hI h
      · rw [if_pos c53] at h
        have g55 : xrg 0 0 x1 := (x_c_eq wx1 (x_rgc (x := 0) (k := 0) (by decide)) c53).1
        refine x_run C e_X11_instruct_26 e_X11_instruct_26_k (pc' := 200) (lv' := [(4, .int s0), (0, .ref 14), (1, .int x1), (2, .int x2)]) (st' := [.int 1, .ref 14]) (σ' := (M, L)) rfl ⟨trivial, trivial⟩ ?_
        refine x_goto C (show decode cX11_instruct 200 = .ok (.goto 4, 3) from by decide +kernel) (tgt := 204) (by decide) ?_
        refine x_lv C [1, 2] rfl ?_
        exact b_X11_instruct_204 r C x1 1 M (x_rgw g55 (lo' := 0) (hi' := 1) (by decide) (by decide)) (x_rgw (x_rgc (x := 1) (k := 1) (by decide)) (lo' := 0) (hi' := 1) (by decide) (by decide)) hI h
  · rw [if_neg c49] at h
    have g56 : xrg 1 11 s0 := (x_c_ne ws0 (by decide) c49)
    refine x_run C e_X11_instruct_27 e_X11_instruct_27_k (pc' := 174) (lv' := [(4, .int s0), (0, .ref 14), (1, .int x1), (2, .int x2)]) (st' := [.ref 16, .ref 14]) (σ' := (M, L)) rfl ⟨trivial, trivial, trivial, trivial⟩ ?_
    refine x_callV C (k := 14) (ci := 8) (rest := []) (avs := [.ref 16]) (k_X11_back__16 l  M L hI) yoX11_back ml_X11_279 rfl rfl rfl rfl ⟨Nat.zero_le _, Nat.zero_le _⟩ (show decode cX11_instruct 174 = .ok (.invokevirtual 279, 3) from by decide +kernel) rfl (fun v σ' hPo => ?_)
    obtain ⟨⟨rfl, rfl⟩, hI59⟩ := hPo
    generalize hq57 : f_X11_back__16  M = q57 at h hI59 ⊢
    have h := xb_eq h
    show V 0 0 177 [(4, .int s0), (0, .ref 14), (1, .int x1), (2, .int x2)] [] LAY (q57, L)
    refine x_run C e_X11_instruct_28 e_X11_instruct_28_k (pc' := 181) (lv' := [(4, .int s0), (0, .ref 14), (1, .int x1), (2, .int x2)]) (st' := [.int x2, .int s0, .ref 14]) (σ' := (q57, L)) rfl ⟨trivial, trivial, trivial, trivial⟩ ?_
    refine x_callV C (k := 14) (ci := 8) (rest := []) (avs := [.int s0, .int x2]) (k_X11_work l s0 x2 q57 L (x_rgw g56 (lo' := 0) (hi' := 47) (by decide) (by decide)) hI59) yoX11_work ml_X11_294 rfl rfl rfl rfl ⟨Nat.zero_le _, Nat.zero_le _⟩ (show decode cX11_instruct 181 = .ok (.invokevirtual 294, 3) from by decide +kernel) rfl (fun v σ' hPo => ?_)
    obtain ⟨⟨rfl, rfl⟩, hI62⟩ := hPo
    generalize hq60 : f_X11_work s0 x2 q57 = q60 at h hI62 ⊢
    have h := xb_eq h
    show V 0 0 184 [(4, .int s0), (0, .ref 14), (1, .int x1), (2, .int x2)] [] LAY (q60, L)
    refine x_run C e_X11_instruct_29 e_X11_instruct_29_k (pc' := 186) (lv' := [(4, .int s0), (0, .ref 14), (1, .int x1), (2, .int x2)]) (st' := [.int s0]) (σ' := (q60, L)) rfl ⟨trivial, trivial⟩ ?_
    subst h
    exact x_iret C (show decode cX11_instruct 186 = .ok (.ireturn, 1) from by decide +kernel) (x_finI rfl ⟨⟨rfl, rfl⟩, (x_rgw g56 (lo' := 0) (hi' := 47) (by decide) (by decide)), hI62⟩) (Nat.le_refl 0) (Nat.le_refl 0)
set_option maxRecDepth 20000 in
set_option maxHeartbeats 4000000 in
theorem b_X11_instruct_146 {l : Launch} {L : Nat → Nat → Int64} {V : XJ} (r : Int32 × St) (C : C_X11_instruct l r L V) (x1 : Int32) (x2 : Int32) (x4 : Int32) (M : St) (wx1 : xrg 0 1 x1) (wx4 : xrg 0 11 x4) (hI : Inv INVM M) (h : f_X11_instruct_146 x1 x2 x4 M = r) : V 0 0 146 [(0, .ref 14), (1, .int x1), (2, .int x2), (4, .int x4)] [] LAY (M, L) := by
  unfold f_X11_instruct_146 at h
  refine x_run C e_X11_instruct_20 e_X11_instruct_20_k (pc' := 150) (lv' := [(0, .ref 14), (1, .int x1), (2, .int x2), (4, .int x4)]) (st' := [.int (M 14 20)]) (σ' := (M, L)) rfl ⟨trivial, trivial, trivial⟩ ?_
  refine x_if_eq C (show decode cX11_instruct 150 = .ok (.ifCond .eq 10, 3) from by decide +kernel) (tgt := 160) (by decide) (fun c46 => ?_) (fun c46 => ?_)
  · rw [if_pos c46] at h
    have g47 : xrg 0 0 (M 14 20) := (x_c_eq (hI.at 5 rfl) (x_rgc (x := 0) (k := 0) (by decide)) c46).1
    refine x_run C e_X11_instruct_21 e_X11_instruct_21_k (pc' := 162) (lv' := [(0, .ref 14), (1, .int x1), (2, .int x2), (4, .int x4)]) (st' := [.int x4]) (σ' := (M, L)) rfl ⟨trivial, trivial⟩ ?_
    refine x_lv C [0, 1, 2] rfl ?_
    exact b_X11_instruct_162 r C x1 x2 x4 M wx1 wx4 hI h
  · rw [if_neg c46] at h
    have g48 : xrg 1 3 (M 14 20) := (x_c_ne (hI.at 5 rfl) (by decide) c46)
    refine x_run C e_X11_instruct_22 e_X11_instruct_22_k (pc' := 157) (lv' := [(0, .ref 14), (1, .int x1), (2, .int x2), (4, .int x4)]) (st' := [.int (M 14 20)]) (σ' := (M, L)) rfl ⟨trivial, trivial, trivial⟩ ?_
    refine x_goto C (show decode cX11_instruct 157 = .ok (.goto 5, 3) from by decide +kernel) (tgt := 162) (by decide) ?_
    refine x_lv C [0, 1, 2] rfl ?_
    exact b_X11_instruct_162 r C x1 x2 (M 14 20) M wx1 (x_rgw g48 (lo' := 0) (hi' := 11) (by decide) (by decide)) hI h
set_option maxRecDepth 20000 in
set_option maxHeartbeats 4000000 in
theorem b_X11_instruct_127 {l : Launch} {L : Nat → Nat → Int64} {V : XJ} (r : Int32 × St) (C : C_X11_instruct l r L V) (x1 : Int32) (x2 : Int32) (x3 : Int32) (s0 : Int32) (M : St) (wx1 : xrg 0 1 x1) (ws0 : xrg 0 11 s0) (hI : Inv INVM M) (h : f_X11_instruct_127 x1 x2 x3 s0 M = r) : V 0 0 127 [(0, .ref 14), (1, .int x1), (2, .int x2), (3, .int x3)] [.int s0] LAY (M, L) := by
  unfold f_X11_instruct_127 at h
  refine x_run C e_X11_instruct_17 e_X11_instruct_17_k (pc' := 133) (lv' := [(4, .int s0), (0, .ref 14), (1, .int x1), (2, .int x2), (3, .int x3)]) (st' := [.int (M 14 20)]) (σ' := (M, L)) rfl ⟨trivial, trivial, trivial, trivial⟩ ?_
  refine x_if_ne C (show decode cX11_instruct 133 = .ok (.ifCond .ne 13, 3) from by decide +kernel) (tgt := 146) (by decide) (fun c37 => ?_) (fun c37 => ?_)
  · rw [if_neg c37] at h
    have g38 : xrg 1 3 (M 14 20) := (x_c_ne (hI.at 5 rfl) (by decide) c37)
    refine x_lv C [1, 2, 3, 0] rfl ?_
    exact b_X11_instruct_146 r C x1 x2 s0 M wx1 ws0 hI h
  · rw [if_pos c37] at h
    have g39 : xrg 0 0 (M 14 20) := (x_c_eq (hI.at 5 rfl) (x_rgc (x := 0) (k := 0) (by decide)) c37).1
    refine x_run C e_X11_instruct_18 e_X11_instruct_18_k (pc' := 138) (lv' := [(4, .int s0), (0, .ref 14), (1, .int x1), (2, .int x2), (3, .int x3)]) (st' := [.int s0]) (σ' := (M, L)) rfl ⟨trivial, trivial⟩ ?_
    refine x_if_ne C (show decode cX11_instruct 138 = .ok (.ifCond .ne 8, 3) from by decide +kernel) (tgt := 146) (by decide) (fun c40 => ?_) (fun c40 => ?_)
    · rw [if_neg c40] at h
      have g41 : xrg 1 11 s0 := (x_c_ne ws0 (by decide) c40)
      refine x_lv C [1, 2, 3, 0] rfl ?_
      exact b_X11_instruct_146 r C x1 x2 s0 M wx1 (x_rgw g41 (lo' := 0) (hi' := 11) (by decide) (by decide)) hI h
    · rw [if_pos c40] at h
      have g42 : xrg 0 0 s0 := (x_c_eq ws0 (x_rgc (x := 0) (k := 0) (by decide)) c40).1
      refine x_run C e_X11_instruct_19 e_X11_instruct_19_k (pc' := 143) (lv' := [(4, .int s0), (0, .ref 14), (1, .int x1), (2, .int x2), (3, .int x3)]) (st' := [.int x3, .ref 14]) (σ' := (M, L)) rfl ⟨trivial, trivial, trivial⟩ ?_
      refine x_callV C (k := 14) (ci := 8) (rest := []) (avs := [.int x3]) (k_X11_perform l x3 M L hI) yoX11_perform ml_X11_291 rfl rfl rfl rfl ⟨Nat.zero_le _, Nat.zero_le _⟩ (show decode cX11_instruct 143 = .ok (.invokevirtual 291, 3) from by decide +kernel) rfl (fun v σ' hPo => ?_)
      obtain ⟨⟨rfl, rfl⟩, hI45⟩ := hPo
      generalize hq43 : f_X11_perform x3 M = q43 at h hI45 ⊢
      have h := xb_eq h
      show V 0 0 146 [(4, .int s0), (0, .ref 14), (1, .int x1), (2, .int x2), (3, .int x3)] [] LAY (q43, L)
      refine x_lv C [1, 2, 3, 0] rfl ?_
      exact b_X11_instruct_146 r C x1 x2 s0 q43 wx1 (x_rgw g42 (lo' := 0) (hi' := 11) (by decide) (by decide)) hI45 h
set_option maxRecDepth 20000 in
set_option maxHeartbeats 4000000 in
theorem b_X11_instruct_126 {l : Launch} {L : Nat → Nat → Int64} {V : XJ} (r : Int32 × St) (C : C_X11_instruct l r L V) (x1 : Int32) (x2 : Int32) (x3 : Int32) (M : St) (wx1 : xrg 0 1 x1) (hI : Inv INVM M) (h : f_X11_instruct_126 x1 x2 x3 M = r) : V 0 0 126 [(0, .ref 14), (1, .int x1), (2, .int x2), (3, .int x3)] [] LAY (M, L) := by
  unfold f_X11_instruct_126 at h
  refine x_run C e_X11_instruct_16 e_X11_instruct_16_k (pc' := 127) (lv' := [(0, .ref 14), (1, .int x1), (2, .int x2), (3, .int x3)]) (st' := [.int 0]) (σ' := (M, L)) rfl ⟨trivial, trivial⟩ ?_
  exact b_X11_instruct_127 r C x1 x2 x3 0 M wx1 (x_rgw (x_rgc (x := 0) (k := 0) (by decide)) (lo' := 0) (hi' := 11) (by decide) (by decide)) hI h
set_option maxRecDepth 20000 in
set_option maxHeartbeats 4000000 in
theorem b_X11_instruct_62 {l : Launch} {L : Nat → Nat → Int64} {V : XJ} (r : Int32 × St) (C : C_X11_instruct l r L V) (x1 : Int32) (x2 : Int32) (x3 : Int32) (s0 : Int32) (M : St) (wx1 : xrg 0 1 x1) (hI : Inv INVM M) (h : f_X11_instruct_62 x1 x2 x3 s0 M = r) : V 0 0 62 [(0, .ref 14), (1, .int x1), (2, .int x2), (3, .int x3)] [.int s0, .ref 14] LAY (M, L) := by
  unfold f_X11_instruct_62 at h
  refine x_run C e_X11_instruct_7 e_X11_instruct_7_k (pc' := 71) (lv' := [(0, .ref 14), (1, .int x1), (2, .int x2), (3, .int x3)]) (st' := [.int 10, .int (x3 >>> ((12 : Int32) &&& 31))]) (σ' := ((xup M 14 19 s0), L)) rfl ⟨trivial, trivial, trivial, trivial, trivial, trivial⟩ ?_
  have hI14 : Inv INVM (xup M 14 19 s0) := (hI.fld 14 19 s0 (by decide))
  refine x_icmp_ne C (show decode cX11_instruct 71 = .ok (.if_icmp .ne 8, 3) from by decide +kernel) (tgt := 79) (by decide) (fun c15 => ?_) (fun c15 => ?_)
  · rw [if_neg c15] at h
    refine x_run C e_X11_instruct_8 e_X11_instruct_8_k (pc' := 85) (lv' := [(0, .ref 14), (1, .int x1), (2, .int x2), (3, .int x3)]) (st' := [.int 15, .int (x3 >>> ((12 : Int32) &&& 31))]) (σ' := ((xup M 14 19 s0), L)) rfl ⟨trivial, trivial, trivial, trivial, trivial⟩ ?_
    refine x_icmp_ne C (show decode cX11_instruct 85 = .ok (.if_icmp .ne 8, 3) from by decide +kernel) (tgt := 93) (by decide) (fun c16 => ?_) (fun c16 => ?_)
    · rw [if_neg c16] at h
      refine x_run C e_X11_instruct_9 e_X11_instruct_9_k (pc' := 94) (lv' := [(0, .ref 14), (1, .int x1), (2, .int x2), (3, .int x3)]) (st' := [.int x3]) (σ' := ((xup M 14 19 s0), L)) rfl ⟨trivial, trivial⟩ ?_
      refine x_callS C (rest := []) (avs := [.int x3]) (k_X11_isLegal l x3 (xup M 14 19 s0) L) yoX11_isLegal ml_X11_285 rfl ⟨Nat.zero_le _, Nat.zero_le _⟩ (show decode cX11_instruct 94 = .ok (.invokestatic 285, 3) from by decide +kernel) rfl (fun v σ' hPo => ?_)
      obtain ⟨⟨rfl, rfl⟩, g18, -⟩ := hPo
      show V 0 0 97 [(0, .ref 14), (1, .int x1), (2, .int x2), (3, .int x3)] [.int (f_X11_isLegal x3)] LAY ((xup M 14 19 s0), L)
      refine x_if_ne C (show decode cX11_instruct 97 = .ok (.ifCond .ne 7, 3) from by decide +kernel) (tgt := 104) (by decide) (fun c20 => ?_) (fun c20 => ?_)
      · rw [if_neg c20] at h
        have g21 : xrg 1 1 (f_X11_isLegal x3) := (x_c_ne g18 (by decide) c20)
        refine x_run C e_X11_instruct_10 e_X11_instruct_10_k (pc' := 105) (lv' := [(0, .ref 14), (1, .int x1), (2, .int x2), (3, .int x3)]) (st' := [.int x3]) (σ' := ((xup M 14 19 s0), L)) rfl ⟨trivial, trivial⟩ ?_
        refine x_callS C (rest := []) (avs := [.int x3]) (k_X11_isPrivileged l x3 (xup M 14 19 s0) L) yoX11_isPrivileged ml_X11_288 rfl ⟨Nat.zero_le _, Nat.zero_le _⟩ (show decode cX11_instruct 105 = .ok (.invokestatic 288, 3) from by decide +kernel) rfl (fun v σ' hPo => ?_)
        obtain ⟨⟨rfl, rfl⟩, g23, -⟩ := hPo
        show V 0 0 108 [(0, .ref 14), (1, .int x1), (2, .int x2), (3, .int x3)] [.int (f_X11_isPrivileged x3)] LAY ((xup M 14 19 s0), L)
        refine x_if_eq C (show decode cX11_instruct 108 = .ok (.ifCond .eq 18, 3) from by decide +kernel) (tgt := 126) (by decide) (fun c25 => ?_) (fun c25 => ?_)
        · rw [if_pos c25] at h
          have g26 : xrg 0 0 (f_X11_isPrivileged x3) := (x_c_eq g23 (x_rgc (x := 0) (k := 0) (by decide)) c25).1
          exact b_X11_instruct_126 r C x1 x2 x3 (xup M 14 19 s0) wx1 hI14 h
        · rw [if_neg c25] at h
          have g27 : xrg 1 1 (f_X11_isPrivileged x3) := (x_c_ne g23 (by decide) c25)
          refine x_run C e_X11_instruct_11 e_X11_instruct_11_k (pc' := 115) (lv' := [(0, .ref 14), (1, .int x1), (2, .int x2), (3, .int x3)]) (st' := [.int 8192, .ref 14]) (σ' := ((xup M 14 19 s0), L)) rfl ⟨trivial, trivial, trivial⟩ ?_
          refine x_callV C (k := 14) (ci := 8) (rest := []) (avs := [.int 8192]) (k_X11_has l 8192 (xup M 14 19 s0) L hI14) yoX11_has ml_X11_55 rfl rfl rfl rfl ⟨Nat.zero_le _, Nat.zero_le _⟩ (show decode cX11_instruct 115 = .ok (.invokevirtual 55, 3) from by decide +kernel) rfl (fun v σ' hPo => ?_)
          obtain ⟨⟨rfl, rfl⟩, g29, hI30⟩ := hPo
          show V 0 0 118 [(0, .ref 14), (1, .int x1), (2, .int x2), (3, .int x3)] [.int (f_X11_has 8192 (xup M 14 19 s0))] LAY ((xup M 14 19 s0), L)
          refine x_if_ne C (show decode cX11_instruct 118 = .ok (.ifCond .ne 8, 3) from by decide +kernel) (tgt := 126) (by decide) (fun c31 => ?_) (fun c31 => ?_)
          · rw [if_neg c31] at h
            have g32 : xrg 1 1 (f_X11_has 8192 (xup M 14 19 s0)) := (x_c_ne g29 (by decide) c31)
            exact b_X11_instruct_126 r C x1 x2 x3 (xup M 14 19 s0) wx1 hI14 h
          · rw [if_pos c31] at h
            have g33 : xrg 0 0 (f_X11_has 8192 (xup M 14 19 s0)) := (x_c_eq g29 (x_rgc (x := 0) (k := 0) (by decide)) c31).1
            refine x_run C e_X11_instruct_12 e_X11_instruct_12_k (pc' := 123) (lv' := [(0, .ref 14), (1, .int x1), (2, .int x2), (3, .int x3)]) (st' := [.int 8]) (σ' := ((xup M 14 19 s0), L)) rfl ⟨trivial, trivial⟩ ?_
            refine x_goto C (show decode cX11_instruct 123 = .ok (.goto 4, 3) from by decide +kernel) (tgt := 127) (by decide) ?_
            exact b_X11_instruct_127 r C x1 x2 x3 8 (xup M 14 19 s0) wx1 (x_rgw (x_rgc (x := 8) (k := 8) (by decide)) (lo' := 0) (hi' := 11) (by decide) (by decide)) hI14 h
      · rw [if_pos c20] at h
        have g34 : xrg 0 0 (f_X11_isLegal x3) := (x_c_eq g18 (x_rgc (x := 0) (k := 0) (by decide)) c20).1
        refine x_run C e_X11_instruct_13 e_X11_instruct_13_k (pc' := 101) (lv' := [(0, .ref 14), (1, .int x1), (2, .int x2), (3, .int x3)]) (st' := [.int 4]) (σ' := ((xup M 14 19 s0), L)) rfl ⟨trivial, trivial⟩ ?_
        refine x_goto C (show decode cX11_instruct 101 = .ok (.goto 26, 3) from by decide +kernel) (tgt := 127) (by decide) ?_
        exact b_X11_instruct_127 r C x1 x2 x3 4 (xup M 14 19 s0) wx1 (x_rgw (x_rgc (x := 4) (k := 4) (by decide)) (lo' := 0) (hi' := 11) (by decide) (by decide)) hI14 h
    · rw [if_pos c16] at h
      have g35 : xrg 15 15 (x3 >>> ((12 : Int32) &&& 31)) := (x_c_eq (x_rgt (x3 >>> ((12 : Int32) &&& 31))) (x_rgc (x := 15) (k := 15) (by decide)) c16).1
      refine x_run C e_X11_instruct_14 e_X11_instruct_14_k (pc' := 90) (lv' := [(0, .ref 14), (1, .int x1), (2, .int x2), (3, .int x3)]) (st' := [.int 11]) (σ' := ((xup M 14 19 s0), L)) rfl ⟨trivial, trivial⟩ ?_
      refine x_goto C (show decode cX11_instruct 90 = .ok (.goto 37, 3) from by decide +kernel) (tgt := 127) (by decide) ?_
      exact b_X11_instruct_127 r C x1 x2 x3 11 (xup M 14 19 s0) wx1 (x_rgw (x_rgc (x := 11) (k := 11) (by decide)) (lo' := 0) (hi' := 11) (by decide) (by decide)) hI14 h
  · rw [if_pos c15] at h
    have g36 : xrg 10 10 (x3 >>> ((12 : Int32) &&& 31)) := (x_c_eq (x_rgt (x3 >>> ((12 : Int32) &&& 31))) (x_rgc (x := 10) (k := 10) (by decide)) c15).1
    refine x_run C e_X11_instruct_15 e_X11_instruct_15_k (pc' := 76) (lv' := [(0, .ref 14), (1, .int x1), (2, .int x2), (3, .int x3)]) (st' := [.int 10]) (σ' := ((xup M 14 19 s0), L)) rfl ⟨trivial, trivial⟩ ?_
    refine x_goto C (show decode cX11_instruct 76 = .ok (.goto 51, 3) from by decide +kernel) (tgt := 127) (by decide) ?_
    exact b_X11_instruct_127 r C x1 x2 x3 10 (xup M 14 19 s0) wx1 (x_rgw (x_rgc (x := 10) (k := 10) (by decide)) (lo' := 0) (hi' := 11) (by decide) (by decide)) hI14 h
set_option maxRecDepth 20000 in
set_option maxHeartbeats 4000000 in
theorem k_X11_instruct (l : Launch) (M : St) (L : Nat → Nat → Int64) (hI : Inv INVM M) : XM l yX11_instruct cX11_instruct 5 (some .int) R_X11_instruct LAY [.ref 14] (M, L) (P_X11_instruct (f_X11_instruct M) L) := by
  refine XM.of (by decide) (Nat.le_of_ble_eq_true rfl) LAY_in cl_ok fl_X11_ok kc_X11_ok (fun V C => ?_)
  obtain ⟨r, h⟩ : ∃ r, f_X11_instruct M = r := ⟨_, rfl⟩
  rw [h] at C
  change C_X11_instruct l r L V at C
  unfold f_X11_instruct at h
  show V 0 0 0 [(0, .ref 14)] [] LAY (M, L)
  refine x_run C e_X11_instruct_1 e_X11_instruct_1_k (pc' := 5) (lv' := [(0, .ref 14)]) (st' := [.ref 16, .ref 14]) (σ' := (M, L)) rfl ⟨trivial, trivial, trivial, trivial⟩ ?_
  refine x_callV C (k := 14) (ci := 8) (rest := []) (avs := [.ref 16]) (k_X11_keep__16 l  M L hI) yoX11_keep ml_X11_271 rfl rfl rfl rfl ⟨Nat.zero_le _, Nat.zero_le _⟩ (show decode cX11_instruct 5 = .ok (.invokevirtual 271, 3) from by decide +kernel) rfl (fun v σ' hPo => ?_)
  obtain ⟨⟨rfl, rfl⟩, hI3⟩ := hPo
  generalize hq1 : f_X11_keep__16  M = q1 at h hI3 ⊢
  have h := xb_eq h
  show V 0 0 8 [(0, .ref 14)] [] LAY (q1, L)
  refine x_run C e_X11_instruct_2 e_X11_instruct_2_k (pc' := 12) (lv' := [(0, .ref 14)]) (st' := [.int 32768, .ref 14]) (σ' := (q1, L)) rfl ⟨trivial, trivial, trivial⟩ ?_
  refine x_callV C (k := 14) (ci := 8) (rest := []) (avs := [.int 32768]) (k_X11_has l 32768 q1 L hI3) yoX11_has ml_X11_55 rfl rfl rfl rfl ⟨Nat.zero_le _, Nat.zero_le _⟩ (show decode cX11_instruct 12 = .ok (.invokevirtual 55, 3) from by decide +kernel) rfl (fun v σ' hPo => ?_)
  obtain ⟨⟨rfl, rfl⟩, g5, hI6⟩ := hPo
  show V 0 0 15 [(0, .ref 14)] [.int (f_X11_has 32768 q1)] LAY (q1, L)
  refine x_run C e_X11_instruct_3 e_X11_instruct_3_k (pc' := 45) (lv' := [(2, .int (q1 15 17)), (1, .int (f_X11_has 32768 q1)), (0, .ref 14)]) (st' := [.ref 14]) (σ' := ((xup (xup (xup (xup q1 14 19 0) 14 20 0) 14 23 0) 14 24 0), L)) rfl ⟨trivial, trivial, trivial, trivial, (x_rgv (x_rgc (x := 17) (k := 17) (by decide)) (by decide) (by decide)), trivial, trivial, trivial, trivial, trivial, trivial, trivial, trivial, trivial, trivial, trivial, trivial, (x_rgb (x_rgw (x_rgc (x := 0) (k := 0) (by decide)) (lo' := 0) (hi' := 1) (by decide) (by decide))), trivial, trivial⟩ ?_
  have hI7 : Inv INVM (xup (xup (xup (xup q1 14 19 0) 14 20 0) 14 23 0) 14 24 0) := ((((hI3.fld 14 19 0 (by decide)).set 14 20 (x_rgc (x := 0) (k := 0) (by decide)) (by decide)).set 14 23 (x_rgc (x := 0) (k := 0) (by decide)) (by decide)).fld 14 24 0 (by decide))
  refine x_callV C (k := 14) (ci := 8) (rest := []) (avs := []) (k_X11_fetch l  (xup (xup (xup (xup q1 14 19 0) 14 20 0) 14 23 0) 14 24 0) L hI7) yoX11_fetch ml_X11_103 rfl rfl rfl rfl ⟨Nat.zero_le _, Nat.zero_le _⟩ (show decode cX11_instruct 45 = .ok (.invokevirtual 103, 3) from by decide +kernel) rfl (fun v σ' hPo => ?_)
  obtain ⟨⟨rfl, rfl⟩, g9, hI10⟩ := hPo
  generalize hq8 : f_X11_fetch  (xup (xup (xup (xup q1 14 19 0) 14 20 0) 14 23 0) 14 24 0) = q8 at h g9 hI10 ⊢
  obtain ⟨r8, M8⟩ := q8
  have h := xb_eq h
  try dsimp only at h g9 hI10
  show V 0 0 48 [(2, .int (q1 15 17)), (1, .int (f_X11_has 32768 q1)), (0, .ref 14)] [.int r8] LAY (M8, L)
  refine x_run C e_X11_instruct_4 e_X11_instruct_4_k (pc' := 54) (lv' := [(3, .int r8), (2, .int (q1 15 17)), (1, .int (f_X11_has 32768 q1)), (0, .ref 14)]) (st' := [.int (M8 14 20), .ref 14]) (σ' := (M8, L)) rfl ⟨trivial, trivial, trivial, trivial, trivial⟩ ?_
  refine x_if_ne C (show decode cX11_instruct 54 = .ok (.ifCond .ne 7, 3) from by decide +kernel) (tgt := 61) (by decide) (fun c11 => ?_) (fun c11 => ?_)
  · rw [if_neg c11] at h
    have g12 : xrg 1 3 (M8 14 20) := (x_c_ne (hI10.at 5 rfl) (by decide) c11)
    refine x_run C e_X11_instruct_5 e_X11_instruct_5_k (pc' := 62) (lv' := [(3, .int r8), (2, .int (q1 15 17)), (1, .int (f_X11_has 32768 q1)), (0, .ref 14)]) (st' := [.int 0, .ref 14]) (σ' := (M8, L)) rfl ⟨trivial, trivial⟩ ?_
    refine x_lv C [3, 2, 1, 0] rfl ?_
    exact b_X11_instruct_62 r C (f_X11_has 32768 q1) (q1 15 17) r8 0 M8 g5 hI10 h
  · rw [if_pos c11] at h
    have g13 : xrg 0 0 (M8 14 20) := (x_c_eq (hI10.at 5 rfl) (x_rgc (x := 0) (k := 0) (by decide)) c11).1
    refine x_run C e_X11_instruct_6 e_X11_instruct_6_k (pc' := 58) (lv' := [(3, .int r8), (2, .int (q1 15 17)), (1, .int (f_X11_has 32768 q1)), (0, .ref 14)]) (st' := [.int r8, .ref 14]) (σ' := (M8, L)) rfl ⟨trivial, trivial⟩ ?_
    refine x_goto C (show decode cX11_instruct 58 = .ok (.goto 4, 3) from by decide +kernel) (tgt := 62) (by decide) ?_
    refine x_lv C [3, 2, 1, 0] rfl ?_
    exact b_X11_instruct_62 r C (f_X11_has 32768 q1) (q1 15 17) r8 r8 M8 g5 hI10 h
-- X11_stepped
def e_X11_stepped_1 : List xI := [(0, .aload_n 0, 1, .null), (1, .getfield 76, 3, .null)]
theorem e_X11_stepped_1_k : e_X11_stepped_1.all (fun q => xokB cX11_stepped q && xokL q) = true := by decide +kernel
def e_X11_stepped_2 : List xI := [(7, .aload_n 0, 1, .null), (8, .getfield 73, 3, .null), (11, .aload_n 0, 1, .null), (12, .getfield 300, 3, .null)]
theorem e_X11_stepped_2_k : e_X11_stepped_2.all (fun q => xokB cX11_stepped q && xokL q) = true := by decide +kernel
def e_X11_stepped_3 : List xI := [(18, .aload_n 0, 1, .null), (19, .getfield 73, 3, .null)]
theorem e_X11_stepped_3_k : e_X11_stepped_3.all (fun q => xokB cX11_stepped q && xokL q) = true := by decide +kernel
def e_X11_stepped_4 : List xI := [(25, .aload_n 0, 1, .null), (26, .getfield 300, 3, .null)]
theorem e_X11_stepped_4_k : e_X11_stepped_4.all (fun q => xokB cX11_stepped q && xokL q) = true := by decide +kernel
def e_X11_stepped_5 : List xI := [(29, .istore_n 1, 1, .null), (30, .iload_n 1, 1, .null), (31, .aload_n 0, 1, .null), (32, .getfield 13, 3, .null), (35, .bipush 8, 2, .int 8), (37, .ishr, 1, .null), (38, .bipush 7, 2, .int 7), (40, .iand, 1, .null)]
theorem e_X11_stepped_5_k : e_X11_stepped_5.all (fun q => xokB cX11_stepped q && xokL q) = true := by decide +kernel
def e_X11_stepped_6 : List xI := [(44, .iload_n 1, 1, .null), (45, .bipush 7, 2, .int 7)]
theorem e_X11_stepped_6_k : e_X11_stepped_6.all (fun q => xokB cX11_stepped q && xokL q) = true := by decide +kernel
def e_X11_stepped_7 : List xI := [(50, .aload_n 0, 1, .null), (51, .getfield 36, 3, .null), (54, .bipush 7, 2, .int 7)]
theorem e_X11_stepped_7_k : e_X11_stepped_7.all (fun q => xokB cX11_stepped q && xokL q) = true := by decide +kernel
def e_X11_stepped_8 : List xI := [(59, .iconst 1, 1, .int 1)]
theorem e_X11_stepped_8_k : e_X11_stepped_8.all (fun q => xokB cX11_stepped q && xokL q) = true := by decide +kernel
def e_X11_stepped_9 : List xI := [(63, .iconst 0, 1, .int 0)]
theorem e_X11_stepped_9_k : e_X11_stepped_9.all (fun q => xokB cX11_stepped q && xokL q) = true := by decide +kernel
def e_X11_stepped_10 : List xI := [(64, .istore_n 2, 1, .null), (65, .aload_n 0, 1, .null), (66, .iload_n 1, 1, .null), (67, .putfield 36, 3, .null), (70, .iconst (-1), 1, .int (-1)), (71, .istore_n 3, 1, .null), (72, .iload_n 2, 1, .null)]
theorem e_X11_stepped_10_k : e_X11_stepped_10.all (fun q => xokB cX11_stepped q && xokL q) = true := by decide +kernel
def e_X11_stepped_11 : List xI := [(101, .aload_n 0, 1, .null), (102, .getfield 297, 3, .null)]
theorem e_X11_stepped_11_k : e_X11_stepped_11.all (fun q => xokB cX11_stepped q && xokL q) = true := by decide +kernel
def e_X11_stepped_12 : List xI := [(108, .aload_n 0, 1, .null)]
theorem e_X11_stepped_12_k : e_X11_stepped_12.all (fun q => xokB cX11_stepped q && xokL q) = true := by decide +kernel
def e_X11_stepped_13 : List xI := [(112, .istore_n 3, 1, .null)]
theorem e_X11_stepped_13_k : e_X11_stepped_13.all (fun q => xokB cX11_stepped q && xokL q) = true := by decide +kernel
def e_X11_stepped_14 : List xI := [(76, .aload_n 0, 1, .null), (77, .iconst 0, 1, .int 0), (78, .putfield 297, 3, .null), (81, .bipush 24, 2, .int 24), (83, .iload_n 1, 1, .null), (84, .iadd, 1, .null), (85, .istore_n 3, 1, .null), (86, .aload_n 0, 1, .null), (87, .iload_n 3, 1, .null), (88, .aload_n 0, 1, .null), (89, .getfield 7, 3, .null), (92, .bipush 17, 2, .int 17), (94, .iaload, 1, .null)]
theorem e_X11_stepped_14_k : e_X11_stepped_14.all (fun q => xokB cX11_stepped q && xokL q) = true := by decide +kernel
def e_X11_stepped_15 : List xI := [(113, .aload_n 0, 1, .null), (114, .getfield 70, 3, .null)]
theorem e_X11_stepped_15_k : e_X11_stepped_15.all (fun q => xokB cX11_stepped q && xokL q) = true := by decide +kernel
def e_X11_stepped_16 : List xI := [(153, .iload_n 3, 1, .null)]
theorem e_X11_stepped_16_k : e_X11_stepped_16.all (fun q => xokB cX11_stepped q && xokL q) = true := by decide +kernel
def e_X11_stepped_17 : List xI := [(120, .aload_n 0, 1, .null), (121, .dup, 1, .null), (122, .getfield 70, 3, .null), (125, .iconst 1, 1, .int 1), (126, .isub, 1, .null), (127, .putfield 70, 3, .null), (130, .aload_n 0, 1, .null), (131, .aload_n 0, 1, .null), (132, .getfield 76, 3, .null)]
theorem e_X11_stepped_17_k : e_X11_stepped_17.all (fun q => xokB cX11_stepped q && xokL q) = true := by decide +kernel
def e_X11_stepped_18 : List xI := [(138, .aload_n 0, 1, .null), (139, .getfield 70, 3, .null)]
theorem e_X11_stepped_18_k : e_X11_stepped_18.all (fun q => xokB cX11_stepped q && xokL q) = true := by decide +kernel
def e_X11_stepped_19 : List xI := [(149, .iconst 0, 1, .int 0)]
theorem e_X11_stepped_19_k : e_X11_stepped_19.all (fun q => xokB cX11_stepped q && xokL q) = true := by decide +kernel
def e_X11_stepped_20 : List xI := [(145, .iconst 1, 1, .int 1)]
theorem e_X11_stepped_20_k : e_X11_stepped_20.all (fun q => xokB cX11_stepped q && xokL q) = true := by decide +kernel
def e_X11_stepped_21 : List xI := [(150, .putfield 76, 3, .null), (153, .iload_n 3, 1, .null)]
theorem e_X11_stepped_21_k : e_X11_stepped_21.all (fun q => xokB cX11_stepped q && xokL q) = true := by decide +kernel
abbrev P_X11_stepped (r : Int32 × St) (L : Nat → Nat → Int64) : Option Value → xG → Prop := fun v σ' => PoI r.1 r.2 L v σ' ∧ xrg (-1) 47 r.1 ∧ Inv INVM r.2
abbrev R_X11_stepped : Room := { frames := 12, cells := 0, slots := 0, locals := 291 }
abbrev C_X11_stepped (l : Launch) (r : Int32 × St) (L : Nat → Nat → Int64) (V : XJ) : Prop := XC l yX11_stepped.cls yX11_stepped.name cX11_stepped 4 R_X11_stepped 0 0 fl_X11 kc_X11 LAY.length (xfin (some .int) LAY (P_X11_stepped r L)) V
def f_X11_stepped_150 (x3 : Int32) (s0 : Int32) (M : St) : Int32 × St := (x3, (xup M 14 11 s0))
def f_X11_stepped_145 (x3 : Int32) (M : St) : Int32 × St := f_X11_stepped_150 x3 1 M
def f_X11_stepped_113 (x3 : Int32) (M : St) : Int32 × St := (if (M 14 9) = 0 then (x3, M) else (if (M 14 11) = 0 then (if ((M 14 9) - 1) = 0 then f_X11_stepped_145 x3 (xup M 14 9 ((M 14 9) - 1)) else f_X11_stepped_150 x3 0 (xup M 14 9 ((M 14 9) - 1))) else f_X11_stepped_145 x3 (xup M 14 9 ((M 14 9) - 1))))
def f_X11_stepped_64 (x1 : Int32) (s0 : Int32) (M : St) : Int32 × St := (if s0 = 0 then (if (M 14 6) = 0 then (xb (f_X11_instruct  (xup M 14 17 x1)) fun q19 => f_X11_stepped_113 q19.1 q19.2) else f_X11_stepped_113 (-1) (xup M 14 17 x1)) else (xb (f_X11_work (24 + x1) (M 15 17) (xup (xup M 14 17 x1) 14 6 0)) fun q24 => f_X11_stepped_113 (24 + x1) q24))
def f_X11_stepped_59 (x1 : Int32) (M : St) : Int32 × St := f_X11_stepped_64 x1 1 M
def f_X11_stepped_63 (x1 : Int32) (M : St) : Int32 × St := f_X11_stepped_64 x1 0 M
def f_X11_stepped_29 (s0 : Int32) (M : St) : Int32 × St := (if (((M 14 2) >>> ((8 : Int32) &&& 31)) &&& 7) < s0 then f_X11_stepped_59 s0 M else (if s0 = 7 then (if (M 14 17) = 7 then f_X11_stepped_63 s0 M else f_X11_stepped_59 s0 M) else f_X11_stepped_63 s0 M))
def f_X11_stepped_25  (M : St) : Int32 × St := f_X11_stepped_29 (M 14 16) M
def f_X11_stepped (M : St) : Int32 × St := (if (M 14 11) = 0 then f_X11_stepped_25  M else (if (M 14 10) ≤ (M 14 16) then f_X11_stepped_25  M else f_X11_stepped_29 (M 14 10) M))
set_option maxRecDepth 20000 in
set_option maxHeartbeats 4000000 in
theorem b_X11_stepped_150 {l : Launch} {L : Nat → Nat → Int64} {V : XJ} (r : Int32 × St) (C : C_X11_stepped l r L V) (x3 : Int32) (s0 : Int32) (M : St) (wx3 : xrg (-1) 47 x3) (ws0 : xrg 0 1 s0) (hI : Inv INVM M) (h : f_X11_stepped_150 x3 s0 M = r) : V 0 0 150 [(3, .int x3)] [.int s0, .ref 14] LAY (M, L) := by
  unfold f_X11_stepped_150 at h
  refine x_run C e_X11_stepped_21 e_X11_stepped_21_k (pc' := 154) (lv' := [(3, .int x3)]) (st' := [.int x3]) (σ' := ((xup M 14 11 s0), L)) rfl ⟨(x_rgb ws0), trivial, trivial⟩ ?_
  have hI34 : Inv INVM (xup M 14 11 s0) := (hI.fld 14 11 s0 (by decide))
  subst h
  exact x_iret C (show decode cX11_stepped 154 = .ok (.ireturn, 1) from by decide +kernel) (x_finI rfl ⟨⟨rfl, rfl⟩, wx3, hI34⟩) (Nat.le_refl 0) (Nat.le_refl 0)
set_option maxRecDepth 20000 in
set_option maxHeartbeats 4000000 in
theorem b_X11_stepped_145 {l : Launch} {L : Nat → Nat → Int64} {V : XJ} (r : Int32 × St) (C : C_X11_stepped l r L V) (x3 : Int32) (M : St) (wx3 : xrg (-1) 47 x3) (hI : Inv INVM M) (h : f_X11_stepped_145 x3 M = r) : V 0 0 145 [(3, .int x3)] [.ref 14] LAY (M, L) := by
  unfold f_X11_stepped_145 at h
  refine x_run C e_X11_stepped_20 e_X11_stepped_20_k (pc' := 146) (lv' := [(3, .int x3)]) (st' := [.int 1, .ref 14]) (σ' := (M, L)) rfl ⟨trivial, trivial⟩ ?_
  refine x_goto C (show decode cX11_stepped 146 = .ok (.goto 4, 3) from by decide +kernel) (tgt := 150) (by decide) ?_
  exact b_X11_stepped_150 r C x3 1 M wx3 (x_rgw (x_rgc (x := 1) (k := 1) (by decide)) (lo' := 0) (hi' := 1) (by decide) (by decide)) hI h
set_option maxRecDepth 20000 in
set_option maxHeartbeats 4000000 in
theorem b_X11_stepped_113 {l : Launch} {L : Nat → Nat → Int64} {V : XJ} (r : Int32 × St) (C : C_X11_stepped l r L V) (x3 : Int32) (M : St) (wx3 : xrg (-1) 47 x3) (hI : Inv INVM M) (h : f_X11_stepped_113 x3 M = r) : V 0 0 113 [(0, .ref 14), (3, .int x3)] [] LAY (M, L) := by
  unfold f_X11_stepped_113 at h
  refine x_run C e_X11_stepped_15 e_X11_stepped_15_k (pc' := 117) (lv' := [(0, .ref 14), (3, .int x3)]) (st' := [.int (M 14 9)]) (σ' := (M, L)) rfl ⟨trivial, trivial, trivial⟩ ?_
  refine x_if_eq C (show decode cX11_stepped 117 = .ok (.ifCond .eq 36, 3) from by decide +kernel) (tgt := 153) (by decide) (fun c27 => ?_) (fun c27 => ?_)
  · rw [if_pos c27] at h
    have g28 : xrg 0 0 (M 14 9) := (x_c_eq (x_rgt (M 14 9)) (x_rgc (x := 0) (k := 0) (by decide)) c27).1
    refine x_run C e_X11_stepped_16 e_X11_stepped_16_k (pc' := 154) (lv' := [(0, .ref 14), (3, .int x3)]) (st' := [.int x3]) (σ' := (M, L)) rfl ⟨trivial, trivial⟩ ?_
    subst h
    exact x_iret C (show decode cX11_stepped 154 = .ok (.ireturn, 1) from by decide +kernel) (x_finI rfl ⟨⟨rfl, rfl⟩, wx3, hI⟩) (Nat.le_refl 0) (Nat.le_refl 0)
  · rw [if_neg c27] at h
    refine x_run C e_X11_stepped_17 e_X11_stepped_17_k (pc' := 135) (lv' := [(0, .ref 14), (3, .int x3)]) (st' := [.int (M 14 11), .ref 14]) (σ' := ((xup M 14 9 ((M 14 9) - 1)), L)) rfl ⟨trivial, trivial, trivial, trivial, trivial, trivial, trivial, trivial, trivial, trivial⟩ ?_
    have hI29 : Inv INVM (xup M 14 9 ((M 14 9) - 1)) := (hI.fld 14 9 ((M 14 9) - 1) (by decide))
    refine x_if_ne C (show decode cX11_stepped 135 = .ok (.ifCond .ne 10, 3) from by decide +kernel) (tgt := 145) (by decide) (fun c30 => ?_) (fun c30 => ?_)
    · rw [if_neg c30] at h
      refine x_lv C [1] rfl ?_
      exact b_X11_stepped_145 r C x3 (xup M 14 9 ((M 14 9) - 1)) wx3 hI29 h
    · rw [if_pos c30] at h
      have g31 : xrg 0 0 (M 14 11) := (x_c_eq (x_rgt (M 14 11)) (x_rgc (x := 0) (k := 0) (by decide)) c30).1
      refine x_run C e_X11_stepped_18 e_X11_stepped_18_k (pc' := 142) (lv' := [(0, .ref 14), (3, .int x3)]) (st' := [.int ((M 14 9) - 1), .ref 14]) (σ' := ((xup M 14 9 ((M 14 9) - 1)), L)) rfl ⟨trivial, trivial, trivial⟩ ?_
      refine x_if_ne C (show decode cX11_stepped 142 = .ok (.ifCond .ne 7, 3) from by decide +kernel) (tgt := 149) (by decide) (fun c32 => ?_) (fun c32 => ?_)
      · rw [if_neg c32] at h
        refine x_run C e_X11_stepped_19 e_X11_stepped_19_k (pc' := 150) (lv' := [(0, .ref 14), (3, .int x3)]) (st' := [.int 0, .ref 14]) (σ' := ((xup M 14 9 ((M 14 9) - 1)), L)) rfl ⟨trivial, trivial⟩ ?_
        refine x_lv C [1] rfl ?_
        exact b_X11_stepped_150 r C x3 0 (xup M 14 9 ((M 14 9) - 1)) wx3 (x_rgw (x_rgc (x := 0) (k := 0) (by decide)) (lo' := 0) (hi' := 1) (by decide) (by decide)) hI29 h
      · rw [if_pos c32] at h
        have g33 : xrg 0 0 ((M 14 9) - 1) := (x_c_eq (x_rgt ((M 14 9) - 1)) (x_rgc (x := 0) (k := 0) (by decide)) c32).1
        refine x_lv C [1] rfl ?_
        exact b_X11_stepped_145 r C x3 (xup M 14 9 ((M 14 9) - 1)) wx3 hI29 h
set_option maxRecDepth 20000 in
set_option maxHeartbeats 4000000 in
theorem b_X11_stepped_64 {l : Launch} {L : Nat → Nat → Int64} {V : XJ} (r : Int32 × St) (C : C_X11_stepped l r L V) (x1 : Int32) (s0 : Int32) (M : St) (wx1 : xrg 0 7 x1) (ws0 : xrg 0 1 s0) (hI : Inv INVM M) (h : f_X11_stepped_64 x1 s0 M = r) : V 0 0 64 [(0, .ref 14), (1, .int x1)] [.int s0] LAY (M, L) := by
  unfold f_X11_stepped_64 at h
  refine x_run C e_X11_stepped_10 e_X11_stepped_10_k (pc' := 73) (lv' := [(3, .int (-1)), (2, .int s0), (0, .ref 14), (1, .int x1)]) (st' := [.int s0]) (σ' := ((xup M 14 17 x1), L)) rfl ⟨trivial, trivial, trivial, trivial, trivial, trivial, trivial, trivial⟩ ?_
  have hI14 : Inv INVM (xup M 14 17 x1) := (hI.fld 14 17 x1 (by decide))
  refine x_if_eq C (show decode cX11_stepped 73 = .ok (.ifCond .eq 28, 3) from by decide +kernel) (tgt := 101) (by decide) (fun c15 => ?_) (fun c15 => ?_)
  · rw [if_pos c15] at h
    have g16 : xrg 0 0 s0 := (x_c_eq ws0 (x_rgc (x := 0) (k := 0) (by decide)) c15).1
    refine x_run C e_X11_stepped_11 e_X11_stepped_11_k (pc' := 105) (lv' := [(3, .int (-1)), (2, .int s0), (0, .ref 14), (1, .int x1)]) (st' := [.int (M 14 6)]) (σ' := ((xup M 14 17 x1), L)) rfl ⟨trivial, trivial, trivial⟩ ?_
    refine x_if_ne C (show decode cX11_stepped 105 = .ok (.ifCond .ne 8, 3) from by decide +kernel) (tgt := 113) (by decide) (fun c17 => ?_) (fun c17 => ?_)
    · rw [if_neg c17] at h
      refine x_lv C [2, 0] rfl ?_
      exact b_X11_stepped_113 r C (-1) (xup M 14 17 x1) (x_rgw (x_rgc (x := (-1)) (k := (-1)) (by decide)) (lo' := (-1)) (hi' := 47) (by decide) (by decide)) hI14 h
    · rw [if_pos c17] at h
      have g18 : xrg 0 0 (M 14 6) := (x_c_eq (x_rgt (M 14 6)) (x_rgc (x := 0) (k := 0) (by decide)) c17).1
      refine x_run C e_X11_stepped_12 e_X11_stepped_12_k (pc' := 109) (lv' := [(3, .int (-1)), (2, .int s0), (0, .ref 14), (1, .int x1)]) (st' := [.ref 14]) (σ' := ((xup M 14 17 x1), L)) rfl ⟨trivial, trivial⟩ ?_
      refine x_callV C (k := 14) (ci := 8) (rest := []) (avs := []) (k_X11_instruct l  (xup M 14 17 x1) L hI14) yoX11_instruct ml_X11_303 rfl rfl rfl rfl ⟨Nat.zero_le _, Nat.zero_le _⟩ (show decode cX11_stepped 109 = .ok (.invokevirtual 303, 3) from by decide +kernel) rfl (fun v σ' hPo => ?_)
      obtain ⟨⟨rfl, rfl⟩, g20, hI21⟩ := hPo
      generalize hq19 : f_X11_instruct  (xup M 14 17 x1) = q19 at h g20 hI21 ⊢
      obtain ⟨r19, M19⟩ := q19
      have h := xb_eq h
      try dsimp only at h g20 hI21
      show V 0 0 112 [(3, .int (-1)), (2, .int s0), (0, .ref 14), (1, .int x1)] [.int r19] LAY (M19, L)
      refine x_run C e_X11_stepped_13 e_X11_stepped_13_k (pc' := 113) (lv' := [(3, .int r19), (2, .int s0), (0, .ref 14), (1, .int x1)]) (st' := []) (σ' := (M19, L)) rfl ⟨trivial, trivial⟩ ?_
      refine x_lv C [2, 0] rfl ?_
      exact b_X11_stepped_113 r C r19 M19 (x_rgw g20 (lo' := (-1)) (hi' := 47) (by decide) (by decide)) hI21 h
  · rw [if_neg c15] at h
    have g22 : xrg 1 1 s0 := (x_c_ne ws0 (by decide) c15)
    refine x_run C e_X11_stepped_14 e_X11_stepped_14_k (pc' := 95) (lv' := [(3, .int (24 + x1)), (2, .int s0), (0, .ref 14), (1, .int x1)]) (st' := [.int (M 15 17), .int (24 + x1), .ref 14]) (σ' := ((xup (xup M 14 17 x1) 14 6 0), L)) rfl ⟨trivial, trivial, (x_rgb (x_rgw (x_rgc (x := 0) (k := 0) (by decide)) (lo' := 0) (hi' := 1) (by decide) (by decide))), trivial, trivial, trivial, trivial, trivial, trivial, trivial, trivial, trivial, (x_rgv (x_rgc (x := 17) (k := 17) (by decide)) (by decide) (by decide)), trivial⟩ ?_
    have hI23 : Inv INVM (xup (xup M 14 17 x1) 14 6 0) := (hI14.fld 14 6 0 (by decide))
    refine x_callV C (k := 14) (ci := 8) (rest := []) (avs := [.int (24 + x1), .int (M 15 17)]) (k_X11_work l (24 + x1) (M 15 17) (xup (xup M 14 17 x1) 14 6 0) L (x_rgw (x_rg_add (x_rgc (x := 24) (k := 24) (by decide)) wx1 (by decide) (by decide)) (lo' := 0) (hi' := 47) (by decide) (by decide)) hI23) yoX11_work ml_X11_294 rfl rfl rfl rfl ⟨Nat.zero_le _, Nat.zero_le _⟩ (show decode cX11_stepped 95 = .ok (.invokevirtual 294, 3) from by decide +kernel) rfl (fun v σ' hPo => ?_)
    obtain ⟨⟨rfl, rfl⟩, hI26⟩ := hPo
    generalize hq24 : f_X11_work (24 + x1) (M 15 17) (xup (xup M 14 17 x1) 14 6 0) = q24 at h hI26 ⊢
    have h := xb_eq h
    show V 0 0 98 [(3, .int (24 + x1)), (2, .int s0), (0, .ref 14), (1, .int x1)] [] LAY (q24, L)
    refine x_goto C (show decode cX11_stepped 98 = .ok (.goto 15, 3) from by decide +kernel) (tgt := 113) (by decide) ?_
    refine x_lv C [2, 0] rfl ?_
    exact b_X11_stepped_113 r C (24 + x1) q24 (x_rgw (x_rg_add (x_rgc (x := 24) (k := 24) (by decide)) wx1 (by decide) (by decide)) (lo' := (-1)) (hi' := 47) (by decide) (by decide)) hI26 h
set_option maxRecDepth 20000 in
set_option maxHeartbeats 4000000 in
theorem b_X11_stepped_59 {l : Launch} {L : Nat → Nat → Int64} {V : XJ} (r : Int32 × St) (C : C_X11_stepped l r L V) (x1 : Int32) (M : St) (wx1 : xrg 1 7 x1) (hI : Inv INVM M) (h : f_X11_stepped_59 x1 M = r) : V 0 0 59 [(0, .ref 14), (1, .int x1)] [] LAY (M, L) := by
  unfold f_X11_stepped_59 at h
  refine x_run C e_X11_stepped_8 e_X11_stepped_8_k (pc' := 60) (lv' := [(0, .ref 14), (1, .int x1)]) (st' := [.int 1]) (σ' := (M, L)) rfl ⟨trivial, trivial⟩ ?_
  refine x_goto C (show decode cX11_stepped 60 = .ok (.goto 4, 3) from by decide +kernel) (tgt := 64) (by decide) ?_
  exact b_X11_stepped_64 r C x1 1 M (x_rgw wx1 (lo' := 0) (hi' := 7) (by decide) (by decide)) (x_rgw (x_rgc (x := 1) (k := 1) (by decide)) (lo' := 0) (hi' := 1) (by decide) (by decide)) hI h
set_option maxRecDepth 20000 in
set_option maxHeartbeats 4000000 in
theorem b_X11_stepped_63 {l : Launch} {L : Nat → Nat → Int64} {V : XJ} (r : Int32 × St) (C : C_X11_stepped l r L V) (x1 : Int32) (M : St) (wx1 : xrg 0 7 x1) (hI : Inv INVM M) (h : f_X11_stepped_63 x1 M = r) : V 0 0 63 [(0, .ref 14), (1, .int x1)] [] LAY (M, L) := by
  unfold f_X11_stepped_63 at h
  refine x_run C e_X11_stepped_9 e_X11_stepped_9_k (pc' := 64) (lv' := [(0, .ref 14), (1, .int x1)]) (st' := [.int 0]) (σ' := (M, L)) rfl ⟨trivial, trivial⟩ ?_
  exact b_X11_stepped_64 r C x1 0 M wx1 (x_rgw (x_rgc (x := 0) (k := 0) (by decide)) (lo' := 0) (hi' := 1) (by decide) (by decide)) hI h
set_option maxRecDepth 20000 in
set_option maxHeartbeats 4000000 in
theorem b_X11_stepped_29 {l : Launch} {L : Nat → Nat → Int64} {V : XJ} (r : Int32 × St) (C : C_X11_stepped l r L V) (s0 : Int32) (M : St) (ws0 : xrg 0 7 s0) (hI : Inv INVM M) (h : f_X11_stepped_29 s0 M = r) : V 0 0 29 [(0, .ref 14)] [.int s0] LAY (M, L) := by
  unfold f_X11_stepped_29 at h
  refine x_run C e_X11_stepped_5 e_X11_stepped_5_k (pc' := 41) (lv' := [(1, .int s0), (0, .ref 14)]) (st' := [.int (((M 14 2) >>> ((8 : Int32) &&& 31)) &&& 7), .int s0]) (σ' := (M, L)) rfl ⟨trivial, trivial, trivial, trivial, trivial, trivial, trivial, trivial, trivial⟩ ?_
  refine x_icmp_gt C (show decode cX11_stepped 41 = .ok (.if_icmp .gt 18, 3) from by decide +kernel) (tgt := 59) (by decide) (fun c6 => ?_) (fun c6 => ?_)
  · rw [if_pos c6] at h
    have g7 : xrg 0 6 (((M 14 2) >>> ((8 : Int32) &&& 31)) &&& 7) := (x_c_lt (x_rg_and (x := ((M 14 2) >>> ((8 : Int32) &&& 31))) (m := 7) (k := 7) (by decide) (by decide)) ws0 c6).1
    have g8 : xrg 1 7 s0 := (x_c_lt (x_rg_and (x := ((M 14 2) >>> ((8 : Int32) &&& 31))) (m := 7) (k := 7) (by decide) (by decide)) ws0 c6).2
    refine x_lv C [1, 0] rfl ?_
    exact b_X11_stepped_59 r C s0 M g8 hI h
  · rw [if_neg c6] at h
    refine x_run C e_X11_stepped_6 e_X11_stepped_6_k (pc' := 47) (lv' := [(1, .int s0), (0, .ref 14)]) (st' := [.int 7, .int s0]) (σ' := (M, L)) rfl ⟨trivial, trivial, trivial⟩ ?_
    refine x_icmp_ne C (show decode cX11_stepped 47 = .ok (.if_icmp .ne 16, 3) from by decide +kernel) (tgt := 63) (by decide) (fun c9 => ?_) (fun c9 => ?_)
    · rw [if_neg c9] at h
      have g10 : xrg 0 6 s0 := (x_c_neh ws0 (by decide) c9)
      refine x_lv C [1, 0] rfl ?_
      exact b_X11_stepped_63 r C s0 M (x_rgw g10 (lo' := 0) (hi' := 7) (by decide) (by decide)) hI h
    · rw [if_pos c9] at h
      have g11 : xrg 7 7 s0 := (x_c_eq ws0 (x_rgc (x := 7) (k := 7) (by decide)) c9).1
      refine x_run C e_X11_stepped_7 e_X11_stepped_7_k (pc' := 56) (lv' := [(1, .int s0), (0, .ref 14)]) (st' := [.int 7, .int (M 14 17)]) (σ' := (M, L)) rfl ⟨trivial, trivial, trivial, trivial⟩ ?_
      refine x_icmp_eq C (show decode cX11_stepped 56 = .ok (.if_icmp .eq 7, 3) from by decide +kernel) (tgt := 63) (by decide) (fun c12 => ?_) (fun c12 => ?_)
      · rw [if_pos c12] at h
        have g13 : xrg 7 7 (M 14 17) := (x_c_eq (x_rgt (M 14 17)) (x_rgc (x := 7) (k := 7) (by decide)) c12).1
        refine x_lv C [1, 0] rfl ?_
        exact b_X11_stepped_63 r C s0 M (x_rgw g11 (lo' := 0) (hi' := 7) (by decide) (by decide)) hI h
      · rw [if_neg c12] at h
        refine x_lv C [1, 0] rfl ?_
        exact b_X11_stepped_59 r C s0 M (x_rgw g11 (lo' := 1) (hi' := 7) (by decide) (by decide)) hI h
set_option maxRecDepth 20000 in
set_option maxHeartbeats 4000000 in
theorem b_X11_stepped_25 {l : Launch} {L : Nat → Nat → Int64} {V : XJ} (r : Int32 × St) (C : C_X11_stepped l r L V)  (M : St) (hI : Inv INVM M) (h : f_X11_stepped_25  M = r) : V 0 0 25 [(0, .ref 14)] [] LAY (M, L) := by
  unfold f_X11_stepped_25 at h
  refine x_run C e_X11_stepped_4 e_X11_stepped_4_k (pc' := 29) (lv' := [(0, .ref 14)]) (st' := [.int (M 14 16)]) (σ' := (M, L)) rfl ⟨trivial, trivial, trivial⟩ ?_
  exact b_X11_stepped_29 r C (M 14 16) M (hI.at 3 rfl) hI h
set_option maxRecDepth 20000 in
set_option maxHeartbeats 4000000 in
theorem k_X11_stepped (l : Launch) (M : St) (L : Nat → Nat → Int64) (hI : Inv INVM M) : XM l yX11_stepped cX11_stepped 4 (some .int) R_X11_stepped LAY [.ref 14] (M, L) (P_X11_stepped (f_X11_stepped M) L) := by
  refine XM.of (by decide) (Nat.le_of_ble_eq_true rfl) LAY_in cl_ok fl_X11_ok kc_X11_ok (fun V C => ?_)
  obtain ⟨r, h⟩ : ∃ r, f_X11_stepped M = r := ⟨_, rfl⟩
  rw [h] at C
  change C_X11_stepped l r L V at C
  unfold f_X11_stepped at h
  show V 0 0 0 [(0, .ref 14)] [] LAY (M, L)
  refine x_run C e_X11_stepped_1 e_X11_stepped_1_k (pc' := 4) (lv' := [(0, .ref 14)]) (st' := [.int (M 14 11)]) (σ' := (M, L)) rfl ⟨trivial, trivial, trivial⟩ ?_
  refine x_if_eq C (show decode cX11_stepped 4 = .ok (.ifCond .eq 21, 3) from by decide +kernel) (tgt := 25) (by decide) (fun c1 => ?_) (fun c1 => ?_)
  · rw [if_pos c1] at h
    have g2 : xrg 0 0 (M 14 11) := (x_c_eq (x_rgt (M 14 11)) (x_rgc (x := 0) (k := 0) (by decide)) c1).1
    exact b_X11_stepped_25 r C  M hI h
  · rw [if_neg c1] at h
    refine x_run C e_X11_stepped_2 e_X11_stepped_2_k (pc' := 15) (lv' := [(0, .ref 14)]) (st' := [.int (M 14 16), .int (M 14 10)]) (σ' := (M, L)) rfl ⟨trivial, trivial, trivial, trivial, trivial⟩ ?_
    refine x_icmp_le C (show decode cX11_stepped 15 = .ok (.if_icmp .le 10, 3) from by decide +kernel) (tgt := 25) (by decide) (fun c3 => ?_) (fun c3 => ?_)
    · rw [if_pos c3] at h
      exact b_X11_stepped_25 r C  M hI h
    · rw [if_neg c3] at h
      have g4 : xrg 1 7 (M 14 10) := (x_c_nle (hI.at 4 rfl) (hI.at 3 rfl) c3).1
      have g5 : xrg 0 6 (M 14 16) := (x_c_nle (hI.at 4 rfl) (hI.at 3 rfl) c3).2
      refine x_run C e_X11_stepped_3 e_X11_stepped_3_k (pc' := 22) (lv' := [(0, .ref 14)]) (st' := [.int (M 14 10)]) (σ' := (M, L)) rfl ⟨trivial, trivial, trivial⟩ ?_
      refine x_goto C (show decode cX11_stepped 22 = .ok (.goto 7, 3) from by decide +kernel) (tgt := 29) (by decide) ?_
      exact b_X11_stepped_29 r C (M 14 10) M (x_rgw g4 (lo' := 0) (hi' := 7) (by decide) (by decide)) hI h
-- X11_step
def e_X11_step_1 : List xI := [(0, .aload_n 0, 1, .null), (1, .aload_n 0, 1, .null), (2, .getfield 23, 3, .null)]
theorem e_X11_step_1_k : e_X11_step_1.all (fun q => xokB cX11_step q && xokL q) = true := by decide +kernel
def e_X11_step_2 : List xI := [(12, .iconst 0, 1, .int 0)]
theorem e_X11_step_2_k : e_X11_step_2.all (fun q => xokB cX11_step q && xokL q) = true := by decide +kernel
def e_X11_step_3 : List xI := [(8, .iconst 1, 1, .int 1)]
theorem e_X11_step_3_k : e_X11_step_3.all (fun q => xokB cX11_step q && xokL q) = true := by decide +kernel
def e_X11_step_4 : List xI := [(13, .putfield 42, 3, .null), (16, .aload_n 0, 1, .null), (17, .getfield 23, 3, .null)]
theorem e_X11_step_4_k : e_X11_step_4.all (fun q => xokB cX11_step q && xokL q) = true := by decide +kernel
def e_X11_step_5 : List xI := [(27, .aload_n 0, 1, .null)]
theorem e_X11_step_5_k : e_X11_step_5.all (fun q => xokB cX11_step q && xokL q) = true := by decide +kernel
def e_X11_step_6 : List xI := [(23, .iconst 0, 1, .int 0)]
theorem e_X11_step_6_k : e_X11_step_6.all (fun q => xokB cX11_step q && xokL q) = true := by decide +kernel
abbrev P_X11_step (r : Int32 × St) (L : Nat → Nat → Int64) : Option Value → xG → Prop := fun v σ' => PoI r.1 r.2 L v σ' ∧ xrg (-1) 47 r.1 ∧ Inv INVM r.2
abbrev R_X11_step : Room := { frames := 13, cells := 0, slots := 0, locals := 314 }
abbrev C_X11_step (l : Launch) (r : Int32 × St) (L : Nat → Nat → Int64) (V : XJ) : Prop := XC l yX11_step.cls yX11_step.name cX11_step 1 R_X11_step 0 0 fl_X11 kc_X11 LAY.length (xfin (some .int) LAY (P_X11_step r L)) V
def f_X11_step_13 (s0 : Int32) (M : St) : Int32 × St := (if (M 14 5) = 0 then (xb (f_X11_stepped  (xup M 14 0 s0)) fun q6 => (q6.1, q6.2)) else (0, (xup M 14 0 s0)))
def f_X11_step (M : St) : Int32 × St := (if (M 14 5) = 0 then f_X11_step_13 0 M else f_X11_step_13 1 M)
set_option maxRecDepth 20000 in
set_option maxHeartbeats 4000000 in
theorem b_X11_step_13 {l : Launch} {L : Nat → Nat → Int64} {V : XJ} (r : Int32 × St) (C : C_X11_step l r L V) (s0 : Int32) (M : St) (ws0 : xrg 0 1 s0) (hI : Inv INVM M) (h : f_X11_step_13 s0 M = r) : V 0 0 13 [(0, .ref 14)] [.int s0, .ref 14] LAY (M, L) := by
  unfold f_X11_step_13 at h
  refine x_run C e_X11_step_4 e_X11_step_4_k (pc' := 20) (lv' := [(0, .ref 14)]) (st' := [.int (M 14 5)]) (σ' := ((xup M 14 0 s0), L)) rfl ⟨trivial, trivial, trivial, trivial⟩ ?_
  have hI3 : Inv INVM (xup M 14 0 s0) := (hI.fld 14 0 s0 (by decide))
  refine x_if_eq C (show decode cX11_step 20 = .ok (.ifCond .eq 7, 3) from by decide +kernel) (tgt := 27) (by decide) (fun c4 => ?_) (fun c4 => ?_)
  · rw [if_pos c4] at h
    have g5 : xrg 0 0 (M 14 5) := (x_c_eq (x_rgt (M 14 5)) (x_rgc (x := 0) (k := 0) (by decide)) c4).1
    refine x_run C e_X11_step_5 e_X11_step_5_k (pc' := 28) (lv' := [(0, .ref 14)]) (st' := [.ref 14]) (σ' := ((xup M 14 0 s0), L)) rfl ⟨trivial, trivial⟩ ?_
    refine x_callV C (k := 14) (ci := 8) (rest := []) (avs := []) (k_X11_stepped l  (xup M 14 0 s0) L hI3) yoX11_stepped ml_X11_309 rfl rfl rfl rfl ⟨Nat.zero_le _, Nat.zero_le _⟩ (show decode cX11_step 28 = .ok (.invokevirtual 309, 3) from by decide +kernel) rfl (fun v σ' hPo => ?_)
    obtain ⟨⟨rfl, rfl⟩, g7, hI8⟩ := hPo
    generalize hq6 : f_X11_stepped  (xup M 14 0 s0) = q6 at h g7 hI8 ⊢
    obtain ⟨r6, M6⟩ := q6
    have h := xb_eq h
    try dsimp only at h g7 hI8
    show V 0 0 31 [(0, .ref 14)] [.int r6] LAY (M6, L)
    subst h
    exact x_iret C (show decode cX11_step 31 = .ok (.ireturn, 1) from by decide +kernel) (x_finI rfl ⟨⟨rfl, rfl⟩, g7, hI8⟩) (Nat.le_refl 0) (Nat.le_refl 0)
  · rw [if_neg c4] at h
    refine x_run C e_X11_step_6 e_X11_step_6_k (pc' := 24) (lv' := [(0, .ref 14)]) (st' := [.int 0]) (σ' := ((xup M 14 0 s0), L)) rfl ⟨trivial, trivial⟩ ?_
    refine x_goto C (show decode cX11_step 24 = .ok (.goto 7, 3) from by decide +kernel) (tgt := 31) (by decide) ?_
    subst h
    exact x_iret C (show decode cX11_step 31 = .ok (.ireturn, 1) from by decide +kernel) (x_finI rfl ⟨⟨rfl, rfl⟩, (x_rgw (x_rgc (x := 0) (k := 0) (by decide)) (lo' := (-1)) (hi' := 47) (by decide) (by decide)), hI3⟩) (Nat.le_refl 0) (Nat.le_refl 0)
set_option maxRecDepth 20000 in
set_option maxHeartbeats 4000000 in
theorem k_X11_step (l : Launch) (M : St) (L : Nat → Nat → Int64) (hI : Inv INVM M) : XM l yX11_step cX11_step 1 (some .int) R_X11_step LAY [.ref 14] (M, L) (P_X11_step (f_X11_step M) L) := by
  refine XM.of (by decide) (Nat.le_of_ble_eq_true rfl) LAY_in cl_ok fl_X11_ok kc_X11_ok (fun V C => ?_)
  obtain ⟨r, h⟩ : ∃ r, f_X11_step M = r := ⟨_, rfl⟩
  rw [h] at C
  change C_X11_step l r L V at C
  unfold f_X11_step at h
  show V 0 0 0 [(0, .ref 14)] [] LAY (M, L)
  refine x_run C e_X11_step_1 e_X11_step_1_k (pc' := 5) (lv' := [(0, .ref 14)]) (st' := [.int (M 14 5), .ref 14]) (σ' := (M, L)) rfl ⟨trivial, trivial, trivial, trivial⟩ ?_
  refine x_if_eq C (show decode cX11_step 5 = .ok (.ifCond .eq 7, 3) from by decide +kernel) (tgt := 12) (by decide) (fun c1 => ?_) (fun c1 => ?_)
  · rw [if_pos c1] at h
    have g2 : xrg 0 0 (M 14 5) := (x_c_eq (x_rgt (M 14 5)) (x_rgc (x := 0) (k := 0) (by decide)) c1).1
    refine x_run C e_X11_step_2 e_X11_step_2_k (pc' := 13) (lv' := [(0, .ref 14)]) (st' := [.int 0, .ref 14]) (σ' := (M, L)) rfl ⟨trivial, trivial⟩ ?_
    exact b_X11_step_13 r C 0 M (x_rgw (x_rgc (x := 0) (k := 0) (by decide)) (lo' := 0) (hi' := 1) (by decide) (by decide)) hI h
  · rw [if_neg c1] at h
    refine x_run C e_X11_step_3 e_X11_step_3_k (pc' := 9) (lv' := [(0, .ref 14)]) (st' := [.int 1, .ref 14]) (σ' := (M, L)) rfl ⟨trivial, trivial⟩ ?_
    refine x_goto C (show decode cX11_step 9 = .ok (.goto 4, 3) from by decide +kernel) (tgt := 13) (by decide) ?_
    exact b_X11_step_13 r C 1 M (x_rgw (x_rgc (x := 1) (k := 1) (by decide)) (lo' := 0) (hi' := 1) (by decide) (by decide)) hI h
-- X11_run
def e_X11_run_1 : List xI := [(0, .aload_n 0, 1, .null), (1, .iload_n 1, 1, .null)]
theorem e_X11_run_1_k : e_X11_run_1.all (fun q => xokB cX11_run q && xokL q) = true := by decide +kernel
def e_X11_run_2 : List xI := [(5, .iload_n 1, 1, .null), (6, .bipush 50, 2, .int 50)]
theorem e_X11_run_2_k : e_X11_run_2.all (fun q => xokB cX11_run q && xokL q) = true := by decide +kernel
def e_X11_run_3 : List xI := [(15, .iconst 0, 1, .int 0)]
theorem e_X11_run_3_k : e_X11_run_3.all (fun q => xokB cX11_run q && xokL q) = true := by decide +kernel
def e_X11_run_4 : List xI := [(11, .iconst 1, 1, .int 1)]
theorem e_X11_run_4_k : e_X11_run_4.all (fun q => xokB cX11_run q && xokL q) = true := by decide +kernel
def e_X11_run_5 : List xI := [(16, .putfield 42, 3, .null), (19, .iconst 0, 1, .int 0), (20, .istore_n 2, 1, .null)]
theorem e_X11_run_5_k : e_X11_run_5.all (fun q => xokB cX11_run q && xokL q) = true := by decide +kernel
def e_X11_run_6 : List xI := [(21, .aload_n 0, 1, .null), (22, .getfield 42, 3, .null)]
theorem e_X11_run_6_k : e_X11_run_6.all (fun q => xokB cX11_run q && xokL q) = true := by decide +kernel
def e_X11_run_7 : List xI := [(51, .iload_n 2, 1, .null)]
theorem e_X11_run_7_k : e_X11_run_7.all (fun q => xokB cX11_run q && xokL q) = true := by decide +kernel
def e_X11_run_8 : List xI := [(28, .iload_n 2, 1, .null), (29, .iload_n 1, 1, .null)]
theorem e_X11_run_8_k : e_X11_run_8.all (fun q => xokB cX11_run q && xokL q) = true := by decide +kernel
def e_X11_run_9 : List xI := [(33, .aload_n 0, 1, .null), (34, .getfield 23, 3, .null)]
theorem e_X11_run_9_k : e_X11_run_9.all (fun q => xokB cX11_run q && xokL q) = true := by decide +kernel
def e_X11_run_10 : List xI := [(40, .aload_n 0, 1, .null)]
theorem e_X11_run_10_k : e_X11_run_10.all (fun q => xokB cX11_run q && xokL q) = true := by decide +kernel
def e_X11_run_11 : List xI := [(44, .istore_n 3, 1, .null), (45, .iinc 2 1, 3, .null)]
theorem e_X11_run_11_k : e_X11_run_11.all (fun q => xokB cX11_run q && xokL q) = true := by decide +kernel
abbrev P_X11_run (r : Int32 × St) (L : Nat → Nat → Int64) : Option Value → xG → Prop := fun v σ' => PoI r.1 r.2 L v σ' ∧ xrg 0 2147483647 r.1 ∧ Inv INVM r.2
abbrev R_X11_run : Room := { frames := 13, cells := 0, slots := 0, locals := 314 }
abbrev C_X11_run (l : Launch) (r : Int32 × St) (L : Nat → Nat → Int64) (V : XJ) : Prop := XC l yX11_run.cls yX11_run.name cX11_run 4 R_X11_run 0 0 fl_X11 kc_X11 LAY.length (xfin (some .int) LAY (P_X11_run r L)) V
def f_X11_run_21 : Nat → Int32 → Int32 → St → Int32 × St
  | 0, x1, x2, M => (0, M)
  | n + 1, x1, x2, M => (if (M 14 0) = 0 then (if x1 ≤ x2 then (x2, M) else (if (M 14 5) = 0 then (xb (f_X11_stepped  M) fun q17 => f_X11_run_21 n x1 (x2 + 1) q17.2) else (x2, M))) else (x2, M))
def f_X11_run_16 (x1 : Int32) (s0 : Int32) (M : St) : Int32 × St := f_X11_run_21 (((x1).toInt - (0 : Int32).toInt).toNat + 1) x1 0 (xup M 14 0 s0)
def f_X11_run_11 (x1 : Int32) (M : St) : Int32 × St := f_X11_run_16 x1 1 M
def f_X11_run (a1 : Int32) (M : St) : Int32 × St := (if a1 < 0 then f_X11_run_11 a1 M else (if a1 ≤ 50 then f_X11_run_16 a1 0 M else f_X11_run_11 a1 M))
set_option maxRecDepth 20000 in
set_option maxHeartbeats 4000000 in
theorem b_X11_run_21 {l : Launch} {L : Nat → Nat → Int64} {V : XJ} (r : Int32 × St) (C : C_X11_run l r L V) : ∀ (n : Nat) (x1 : Int32) (x2 : Int32) (M : St), xrg 0 2147483647 x2 → Inv INVM M → ((x1).toInt - x2.toInt).toNat < n → f_X11_run_21 n x1 x2 M = r → V 0 0 21 [(0, .ref 14), (1, .int x1), (2, .int x2)] [] LAY (M, L) := by
  intro n
  induction n with
  | zero => intro x1 x2 M  wx2 hI hm; exact absurd hm (Nat.not_lt_zero _)
  | succ n ih =>
    intro x1 x2 M  wx2 hI hm h
    unfold f_X11_run_21 at h
    refine x_run C e_X11_run_6 e_X11_run_6_k (pc' := 25) (lv' := [(0, .ref 14), (1, .int x1), (2, .int x2)]) (st' := [.int (M 14 0)]) (σ' := (M, L)) rfl ⟨trivial, trivial, trivial⟩ ?_
    refine x_if_ne C (show decode cX11_run 25 = .ok (.ifCond .ne 26, 3) from by decide +kernel) (tgt := 51) (by decide) (fun c8 => ?_) (fun c8 => ?_)
    · rw [if_neg c8] at h
      refine x_run C e_X11_run_7 e_X11_run_7_k (pc' := 52) (lv' := [(0, .ref 14), (1, .int x1), (2, .int x2)]) (st' := [.int x2]) (σ' := (M, L)) rfl ⟨trivial, trivial⟩ ?_
      subst h
      exact x_iret C (show decode cX11_run 52 = .ok (.ireturn, 1) from by decide +kernel) (x_finI rfl ⟨⟨rfl, rfl⟩, wx2, hI⟩) (Nat.le_refl 0) (Nat.le_refl 0)
    · rw [if_pos c8] at h
      have g9 : xrg 0 0 (M 14 0) := (x_c_eq (x_rgt (M 14 0)) (x_rgc (x := 0) (k := 0) (by decide)) c8).1
      refine x_run C e_X11_run_8 e_X11_run_8_k (pc' := 30) (lv' := [(0, .ref 14), (1, .int x1), (2, .int x2)]) (st' := [.int x1, .int x2]) (σ' := (M, L)) rfl ⟨trivial, trivial, trivial⟩ ?_
      refine x_icmp_ge C (show decode cX11_run 30 = .ok (.if_icmp .ge 21, 3) from by decide +kernel) (tgt := 51) (by decide) (fun c10 => ?_) (fun c10 => ?_)
      · rw [if_pos c10] at h
        have g11 : xrg (-2147483648) 2147483647 x1 := (x_c_le (x_rgt x1) wx2 c10).1
        refine x_run C e_X11_run_7 e_X11_run_7_k (pc' := 52) (lv' := [(0, .ref 14), (1, .int x1), (2, .int x2)]) (st' := [.int x2]) (σ' := (M, L)) rfl ⟨trivial, trivial⟩ ?_
        subst h
        exact x_iret C (show decode cX11_run 52 = .ok (.ireturn, 1) from by decide +kernel) (x_finI rfl ⟨⟨rfl, rfl⟩, wx2, hI⟩) (Nat.le_refl 0) (Nat.le_refl 0)
      · rw [if_neg c10] at h
        have g12 : xrg 1 2147483647 x1 := (x_c_nle (x_rgt x1) wx2 c10).1
        have g13 : xrg 0 2147483646 x2 := (x_c_nle (x_rgt x1) wx2 c10).2
        have hk14 := x_meas (x_nle c10) hm
        refine x_run C e_X11_run_9 e_X11_run_9_k (pc' := 37) (lv' := [(0, .ref 14), (1, .int x1), (2, .int x2)]) (st' := [.int (M 14 5)]) (σ' := (M, L)) rfl ⟨trivial, trivial, trivial⟩ ?_
        refine x_if_ne C (show decode cX11_run 37 = .ok (.ifCond .ne 14, 3) from by decide +kernel) (tgt := 51) (by decide) (fun c15 => ?_) (fun c15 => ?_)
        · rw [if_neg c15] at h
          refine x_run C e_X11_run_7 e_X11_run_7_k (pc' := 52) (lv' := [(0, .ref 14), (1, .int x1), (2, .int x2)]) (st' := [.int x2]) (σ' := (M, L)) rfl ⟨trivial, trivial⟩ ?_
          subst h
          exact x_iret C (show decode cX11_run 52 = .ok (.ireturn, 1) from by decide +kernel) (x_finI rfl ⟨⟨rfl, rfl⟩, (x_rgw g13 (lo' := 0) (hi' := 2147483647) (by decide) (by decide)), hI⟩) (Nat.le_refl 0) (Nat.le_refl 0)
        · rw [if_pos c15] at h
          have g16 : xrg 0 0 (M 14 5) := (x_c_eq (x_rgt (M 14 5)) (x_rgc (x := 0) (k := 0) (by decide)) c15).1
          refine x_run C e_X11_run_10 e_X11_run_10_k (pc' := 41) (lv' := [(0, .ref 14), (1, .int x1), (2, .int x2)]) (st' := [.ref 14]) (σ' := (M, L)) rfl ⟨trivial, trivial⟩ ?_
          refine x_callV C (k := 14) (ci := 8) (rest := []) (avs := []) (k_X11_stepped l  M L hI) yoX11_stepped ml_X11_309 rfl rfl rfl rfl ⟨Nat.zero_le _, Nat.zero_le _⟩ (show decode cX11_run 41 = .ok (.invokevirtual 309, 3) from by decide +kernel) rfl (fun v σ' hPo => ?_)
          obtain ⟨⟨rfl, rfl⟩, g18, hI19⟩ := hPo
          generalize hq17 : f_X11_stepped  M = q17 at h g18 hI19 ⊢
          obtain ⟨r17, M17⟩ := q17
          have h := xb_eq h
          try dsimp only at h g18 hI19
          show V 0 0 44 [(0, .ref 14), (1, .int x1), (2, .int x2)] [.int r17] LAY (M17, L)
          refine x_run C e_X11_run_11 e_X11_run_11_k (pc' := 48) (lv' := [(2, .int (x2 + 1)), (3, .int r17), (0, .ref 14), (1, .int x1)]) (st' := []) (σ' := (M17, L)) rfl ⟨trivial, trivial, trivial⟩ ?_
          refine x_goto C (show decode cX11_run 48 = .ok (.goto (-27), 3) from by decide +kernel) (tgt := 21) (by decide) ?_
          refine x_lv C [2, 3, 0] rfl ?_
          exact ih x1 (x2 + 1) M17 (x_rgw (x_rg_add g13 (x_rgc (x := 1) (k := 1) (by decide)) (by decide) (by decide)) (lo' := 0) (hi' := 2147483647) (by decide) (by decide)) hI19 (hk14) h
set_option maxRecDepth 20000 in
set_option maxHeartbeats 4000000 in
theorem b_X11_run_16 {l : Launch} {L : Nat → Nat → Int64} {V : XJ} (r : Int32 × St) (C : C_X11_run l r L V) (x1 : Int32) (s0 : Int32) (M : St) (ws0 : xrg 0 1 s0) (hI : Inv INVM M) (h : f_X11_run_16 x1 s0 M = r) : V 0 0 16 [(0, .ref 14), (1, .int x1)] [.int s0, .ref 14] LAY (M, L) := by
  unfold f_X11_run_16 at h
  refine x_run C e_X11_run_5 e_X11_run_5_k (pc' := 21) (lv' := [(2, .int 0), (0, .ref 14), (1, .int x1)]) (st' := []) (σ' := ((xup M 14 0 s0), L)) rfl ⟨trivial, trivial, trivial, trivial⟩ ?_
  have hI7 : Inv INVM (xup M 14 0 s0) := (hI.fld 14 0 s0 (by decide))
  refine x_lv C [1, 2, 0] rfl ?_
  exact b_X11_run_21 r C (((x1).toInt - (0 : Int32).toInt).toNat + 1) x1 0 (xup M 14 0 s0) (x_rgw (x_rgc (x := 0) (k := 0) (by decide)) (lo' := 0) (hi' := 2147483647) (by decide) (by decide)) hI7 (Nat.lt_succ_self _) h
set_option maxRecDepth 20000 in
set_option maxHeartbeats 4000000 in
theorem b_X11_run_11 {l : Launch} {L : Nat → Nat → Int64} {V : XJ} (r : Int32 × St) (C : C_X11_run l r L V) (x1 : Int32) (M : St) (hI : Inv INVM M) (h : f_X11_run_11 x1 M = r) : V 0 0 11 [(0, .ref 14), (1, .int x1)] [.ref 14] LAY (M, L) := by
  unfold f_X11_run_11 at h
  refine x_run C e_X11_run_4 e_X11_run_4_k (pc' := 12) (lv' := [(0, .ref 14), (1, .int x1)]) (st' := [.int 1, .ref 14]) (σ' := (M, L)) rfl ⟨trivial, trivial⟩ ?_
  refine x_goto C (show decode cX11_run 12 = .ok (.goto 4, 3) from by decide +kernel) (tgt := 16) (by decide) ?_
  exact b_X11_run_16 r C x1 1 M (x_rgw (x_rgc (x := 1) (k := 1) (by decide)) (lo' := 0) (hi' := 1) (by decide) (by decide)) hI h
set_option maxRecDepth 20000 in
set_option maxHeartbeats 4000000 in
theorem k_X11_run (l : Launch) (a1 : Int32) (M : St) (L : Nat → Nat → Int64) (hI : Inv INVM M) : XM l yX11_run cX11_run 4 (some .int) R_X11_run LAY [.ref 14, .int a1] (M, L) (P_X11_run (f_X11_run a1 M) L) := by
  refine XM.of (by decide) (Nat.le_of_ble_eq_true rfl) LAY_in cl_ok fl_X11_ok kc_X11_ok (fun V C => ?_)
  obtain ⟨r, h⟩ : ∃ r, f_X11_run a1 M = r := ⟨_, rfl⟩
  rw [h] at C
  change C_X11_run l r L V at C
  unfold f_X11_run at h
  show V 0 0 0 [(0, .ref 14), (1, .int a1)] [] LAY (M, L)
  refine x_run C e_X11_run_1 e_X11_run_1_k (pc' := 2) (lv' := [(0, .ref 14), (1, .int a1)]) (st' := [.int a1, .ref 14]) (σ' := (M, L)) rfl ⟨trivial, trivial, trivial⟩ ?_
  refine x_if_lt C (show decode cX11_run 2 = .ok (.ifCond .lt 9, 3) from by decide +kernel) (tgt := 11) (by decide) (fun c1 => ?_) (fun c1 => ?_)
  · rw [if_pos c1] at h
    have g2 : xrg (-2147483648) (-1) a1 := (x_c_lt (x_rgt a1) (x_rgc (x := 0) (k := 0) (by decide)) c1).1
    exact b_X11_run_11 r C a1 M hI h
  · rw [if_neg c1] at h
    have g3 : xrg 0 2147483647 a1 := (x_c_nlt (x_rgt a1) (x_rgc (x := 0) (k := 0) (by decide)) c1).1
    refine x_run C e_X11_run_2 e_X11_run_2_k (pc' := 8) (lv' := [(0, .ref 14), (1, .int a1)]) (st' := [.int 50, .int a1, .ref 14]) (σ' := (M, L)) rfl ⟨trivial, trivial, trivial⟩ ?_
    refine x_icmp_le C (show decode cX11_run 8 = .ok (.if_icmp .le 7, 3) from by decide +kernel) (tgt := 15) (by decide) (fun c4 => ?_) (fun c4 => ?_)
    · rw [if_pos c4] at h
      have g5 : xrg 0 50 a1 := (x_c_le g3 (x_rgc (x := 50) (k := 50) (by decide)) c4).1
      refine x_run C e_X11_run_3 e_X11_run_3_k (pc' := 16) (lv' := [(0, .ref 14), (1, .int a1)]) (st' := [.int 0, .ref 14]) (σ' := (M, L)) rfl ⟨trivial, trivial⟩ ?_
      exact b_X11_run_16 r C a1 0 M (x_rgw (x_rgc (x := 0) (k := 0) (by decide)) (lo' := 0) (hi' := 1) (by decide) (by decide)) hI h
    · rw [if_neg c4] at h
      have g6 : xrg 51 2147483647 a1 := (x_c_nle g3 (x_rgc (x := 50) (k := 50) (by decide)) c4).1
      exact b_X11_run_11 r C a1 M hI h
-- X11_level
def e_X11_level_1 : List xI := [(0, .aload_n 0, 1, .null), (1, .iload_n 1, 1, .null)]
theorem e_X11_level_1_k : e_X11_level_1.all (fun q => xokB cX11_level q && xokL q) = true := by decide +kernel
def e_X11_level_2 : List xI := [(11, .iconst 1, 1, .int 1)]
theorem e_X11_level_2_k : e_X11_level_2.all (fun q => xokB cX11_level q && xokL q) = true := by decide +kernel
def e_X11_level_3 : List xI := [(16, .putfield 42, 3, .null), (19, .aload_n 0, 1, .null), (20, .aload_n 0, 1, .null), (21, .getfield 42, 3, .null)]
theorem e_X11_level_3_k : e_X11_level_3.all (fun q => xokB cX11_level q && xokL q) = true := by decide +kernel
def e_X11_level_4 : List xI := [(27, .aload_n 0, 1, .null), (28, .getfield 300, 3, .null)]
theorem e_X11_level_4_k : e_X11_level_4.all (fun q => xokB cX11_level q && xokL q) = true := by decide +kernel
def e_X11_level_5 : List xI := [(35, .putfield 300, 3, .null)]
theorem e_X11_level_5_k : e_X11_level_5.all (fun q => xokB cX11_level q && xokL q) = true := by decide +kernel
def e_X11_level_6 : List xI := [(5, .iload_n 1, 1, .null), (6, .bipush 7, 2, .int 7)]
theorem e_X11_level_6_k : e_X11_level_6.all (fun q => xokB cX11_level q && xokL q) = true := by decide +kernel
def e_X11_level_7 : List xI := [(15, .iconst 0, 1, .int 0), (16, .putfield 42, 3, .null), (19, .aload_n 0, 1, .null), (20, .aload_n 0, 1, .null), (21, .getfield 42, 3, .null)]
theorem e_X11_level_7_k : e_X11_level_7.all (fun q => xokB cX11_level q && xokL q) = true := by decide +kernel
def e_X11_level_8 : List xI := [(34, .iload_n 1, 1, .null), (35, .putfield 300, 3, .null)]
theorem e_X11_level_8_k : e_X11_level_8.all (fun q => xokB cX11_level q && xokL q) = true := by decide +kernel
abbrev P_X11_level (r : St) (L : Nat → Nat → Int64) : Option Value → xG → Prop := fun v σ' => PoV r L v σ' ∧ Inv INVM r
abbrev R_X11_level : Room := { frames := 0, cells := 0, slots := 0, locals := 0 }
abbrev C_X11_level (l : Launch) (r : St) (L : Nat → Nat → Int64) (V : XJ) : Prop := XC l yX11_level.cls yX11_level.name cX11_level 2 R_X11_level 0 0 fl_X11 kc_X11 LAY.length (xfin none LAY (P_X11_level r L)) V
def f_X11_level (a1 : Int32) (M : St) : St := (if a1 < 0 then (xup (xup M 14 0 1) 14 16 (M 14 16)) else (if a1 ≤ 7 then (xup (xup M 14 0 0) 14 16 a1) else (xup (xup M 14 0 1) 14 16 (M 14 16))))
set_option maxRecDepth 20000 in
set_option maxHeartbeats 4000000 in
theorem k_X11_level (l : Launch) (a1 : Int32) (M : St) (L : Nat → Nat → Int64) (hI : Inv INVM M) : XM l yX11_level cX11_level 2 none R_X11_level LAY [.ref 14, .int a1] (M, L) (P_X11_level (f_X11_level a1 M) L) := by
  refine XM.of (by decide) (Nat.le_of_ble_eq_true rfl) LAY_in cl_ok fl_X11_ok kc_X11_ok (fun V C => ?_)
  obtain ⟨r, h⟩ : ∃ r, f_X11_level a1 M = r := ⟨_, rfl⟩
  rw [h] at C
  change C_X11_level l r L V at C
  unfold f_X11_level at h
  show V 0 0 0 [(0, .ref 14), (1, .int a1)] [] LAY (M, L)
  refine x_run C e_X11_level_1 e_X11_level_1_k (pc' := 2) (lv' := [(0, .ref 14), (1, .int a1)]) (st' := [.int a1, .ref 14]) (σ' := (M, L)) rfl ⟨trivial, trivial, trivial⟩ ?_
  refine x_if_lt C (show decode cX11_level 2 = .ok (.ifCond .lt 9, 3) from by decide +kernel) (tgt := 11) (by decide) (fun c1 => ?_) (fun c1 => ?_)
  · rw [if_pos c1] at h
    have g2 : xrg (-2147483648) (-1) a1 := (x_c_lt (x_rgt a1) (x_rgc (x := 0) (k := 0) (by decide)) c1).1
    refine x_run C e_X11_level_2 e_X11_level_2_k (pc' := 12) (lv' := [(0, .ref 14), (1, .int a1)]) (st' := [.int 1, .ref 14]) (σ' := (M, L)) rfl ⟨trivial, trivial⟩ ?_
    refine x_goto C (show decode cX11_level 12 = .ok (.goto 4, 3) from by decide +kernel) (tgt := 16) (by decide) ?_
    refine x_run C e_X11_level_3 e_X11_level_3_k (pc' := 24) (lv' := [(0, .ref 14), (1, .int a1)]) (st' := [.int 1, .ref 14]) (σ' := ((xup M 14 0 1), L)) rfl ⟨trivial, trivial, trivial, trivial, trivial⟩ ?_
    have hI3 : Inv INVM (xup M 14 0 1) := (hI.fld 14 0 1 (by decide))
    refine x_if_le C (show decode cX11_level 24 = .ok (.ifCond .le 10, 3) from by decide +kernel) (tgt := 34) (by decide) (fun c4 => absurd c4 (by decide)) (fun c4 => ?_)
    refine x_run C e_X11_level_4 e_X11_level_4_k (pc' := 31) (lv' := [(0, .ref 14), (1, .int a1)]) (st' := [.int (M 14 16), .ref 14]) (σ' := ((xup M 14 0 1), L)) rfl ⟨trivial, trivial, trivial⟩ ?_
    refine x_goto C (show decode cX11_level 31 = .ok (.goto 4, 3) from by decide +kernel) (tgt := 35) (by decide) ?_
    refine x_run C e_X11_level_5 e_X11_level_5_k (pc' := 38) (lv' := [(0, .ref 14), (1, .int a1)]) (st' := []) (σ' := ((xup (xup M 14 0 1) 14 16 (M 14 16)), L)) rfl ⟨trivial, trivial⟩ ?_
    have hI5 : Inv INVM (xup (xup M 14 0 1) 14 16 (M 14 16)) := (hI3.set 14 16 (hI.at 3 rfl) (by decide))
    subst h
    exact x_vret C (show decode cX11_level 38 = .ok (.return_, 1) from by decide +kernel) (x_finV ⟨⟨rfl, rfl⟩, hI5⟩) (Nat.le_refl 0) (Nat.le_refl 0)
  · rw [if_neg c1] at h
    have g6 : xrg 0 2147483647 a1 := (x_c_nlt (x_rgt a1) (x_rgc (x := 0) (k := 0) (by decide)) c1).1
    refine x_run C e_X11_level_6 e_X11_level_6_k (pc' := 8) (lv' := [(0, .ref 14), (1, .int a1)]) (st' := [.int 7, .int a1, .ref 14]) (σ' := (M, L)) rfl ⟨trivial, trivial, trivial⟩ ?_
    refine x_icmp_le C (show decode cX11_level 8 = .ok (.if_icmp .le 7, 3) from by decide +kernel) (tgt := 15) (by decide) (fun c7 => ?_) (fun c7 => ?_)
    · rw [if_pos c7] at h
      have g8 : xrg 0 7 a1 := (x_c_le g6 (x_rgc (x := 7) (k := 7) (by decide)) c7).1
      refine x_run C e_X11_level_7 e_X11_level_7_k (pc' := 24) (lv' := [(0, .ref 14), (1, .int a1)]) (st' := [.int 0, .ref 14]) (σ' := ((xup M 14 0 0), L)) rfl ⟨trivial, trivial, trivial, trivial, trivial, trivial⟩ ?_
      have hI9 : Inv INVM (xup M 14 0 0) := (hI.fld 14 0 0 (by decide))
      refine x_if_le C (show decode cX11_level 24 = .ok (.ifCond .le 10, 3) from by decide +kernel) (tgt := 34) (by decide) (fun c10 => ?_) (fun c10 => absurd c10 (by decide))
      refine x_run C e_X11_level_8 e_X11_level_8_k (pc' := 38) (lv' := [(0, .ref 14), (1, .int a1)]) (st' := []) (σ' := ((xup (xup M 14 0 0) 14 16 a1), L)) rfl ⟨trivial, trivial, trivial⟩ ?_
      have hI11 : Inv INVM (xup (xup M 14 0 0) 14 16 a1) := (hI9.set 14 16 g8 (by decide))
      subst h
      exact x_vret C (show decode cX11_level 38 = .ok (.return_, 1) from by decide +kernel) (x_finV ⟨⟨rfl, rfl⟩, hI11⟩) (Nat.le_refl 0) (Nat.le_refl 0)
    · rw [if_neg c7] at h
      have g12 : xrg 8 2147483647 a1 := (x_c_nle g6 (x_rgc (x := 7) (k := 7) (by decide)) c7).1
      refine x_run C e_X11_level_2 e_X11_level_2_k (pc' := 12) (lv' := [(0, .ref 14), (1, .int a1)]) (st' := [.int 1, .ref 14]) (σ' := (M, L)) rfl ⟨trivial, trivial⟩ ?_
      refine x_goto C (show decode cX11_level 12 = .ok (.goto 4, 3) from by decide +kernel) (tgt := 16) (by decide) ?_
      refine x_run C e_X11_level_3 e_X11_level_3_k (pc' := 24) (lv' := [(0, .ref 14), (1, .int a1)]) (st' := [.int 1, .ref 14]) (σ' := ((xup M 14 0 1), L)) rfl ⟨trivial, trivial, trivial, trivial, trivial⟩ ?_
      have hI13 : Inv INVM (xup M 14 0 1) := (hI.fld 14 0 1 (by decide))
      refine x_if_le C (show decode cX11_level 24 = .ok (.ifCond .le 10, 3) from by decide +kernel) (tgt := 34) (by decide) (fun c14 => absurd c14 (by decide)) (fun c14 => ?_)
      refine x_run C e_X11_level_4 e_X11_level_4_k (pc' := 31) (lv' := [(0, .ref 14), (1, .int a1)]) (st' := [.int (M 14 16), .ref 14]) (σ' := ((xup M 14 0 1), L)) rfl ⟨trivial, trivial, trivial⟩ ?_
      refine x_goto C (show decode cX11_level 31 = .ok (.goto 4, 3) from by decide +kernel) (tgt := 35) (by decide) ?_
      refine x_run C e_X11_level_5 e_X11_level_5_k (pc' := 38) (lv' := [(0, .ref 14), (1, .int a1)]) (st' := []) (σ' := ((xup (xup M 14 0 1) 14 16 (M 14 16)), L)) rfl ⟨trivial, trivial⟩ ?_
      have hI15 : Inv INVM (xup (xup M 14 0 1) 14 16 (M 14 16)) := (hI13.set 14 16 (hI.at 3 rfl) (by decide))
      subst h
      exact x_vret C (show decode cX11_level 38 = .ok (.return_, 1) from by decide +kernel) (x_finV ⟨⟨rfl, rfl⟩, hI15⟩) (Nat.le_refl 0) (Nat.le_refl 0)
