-- X11_keepIn
def e_X11_keepIn_1 : List xI := [(0, .aload_n 0, 1, .null), (1, .getfield 7, 3, .null), (4, .iload_n 1, 1, .null), (5, .aload_n 0, 1, .null), (6, .getfield 7, 3, .null), (9, .iload_n 1, 1, .null), (10, .iaload, 1, .null), (11, .iload_n 2, 1, .null)]
theorem e_X11_keepIn_1_k : e_X11_keepIn_1.all (fun q => xokB cX11_keepIn q && xokL q) = true := by decide +kernel
def e_X11_keepIn_2 : List xI := [(15, .iconst (-1), 1, .int (-1)), (16, .ixor, 1, .null), (17, .iand, 1, .null), (18, .iload_n 3, 1, .null), (19, .iload_n 2, 1, .null)]
theorem e_X11_keepIn_2_k : e_X11_keepIn_2.all (fun q => xokB cX11_keepIn q && xokL q) = true := by decide +kernel
def e_X11_keepIn_3 : List xI := [(23, .iand, 1, .null), (24, .ior, 1, .null), (25, .iastore, 1, .null)]
theorem e_X11_keepIn_3_k : e_X11_keepIn_3.all (fun q => xokB cX11_keepIn q && xokL q) = true := by decide +kernel
abbrev P_X11_keepIn (r : St) (L : Nat → Nat → Int64) : Option Value → xG → Prop := fun v σ' => PoV r L v σ' ∧ Inv INVM r
abbrev R_X11_keepIn : Room := { frames := 1, cells := 0, slots := 0, locals := 20 }
abbrev C_X11_keepIn (l : Launch) (r : St) (L : Nat → Nat → Int64) (V : XJ) : Prop := XC l yX11_keepIn.cls yX11_keepIn.name cX11_keepIn 4 R_X11_keepIn 0 0 fl_X11 kc_X11 LAY.length (xfin none LAY (P_X11_keepIn r L)) V
def f_X11_keepIn (a1 : Int32) (a2 : Int32) (a3 : Int32) (M : St) : St := (xup M 15 a1.toNatClampNeg (((M 15 a1.toNatClampNeg) &&& ((f_X11_mask a2) ^^^ (-1))) ||| (a3 &&& (f_X11_mask a2))))
set_option maxRecDepth 20000 in
set_option maxHeartbeats 4000000 in
theorem k_X11_keepIn (l : Launch) (a1 : Int32) (a2 : Int32) (a3 : Int32) (M : St) (L : Nat → Nat → Int64) (hp1 : xrg 0 15 a1) (hI : Inv INVM M) : XM l yX11_keepIn cX11_keepIn 4 none R_X11_keepIn LAY [.ref 14, .int a1, .int a2, .int a3] (M, L) (P_X11_keepIn (f_X11_keepIn a1 a2 a3 M) L) := by
  refine XM.of (by decide) (Nat.le_of_ble_eq_true rfl) LAY_in cl_ok fl_X11_ok kc_X11_ok (fun V C => ?_)
  obtain ⟨r, h⟩ : ∃ r, f_X11_keepIn a1 a2 a3 M = r := ⟨_, rfl⟩
  rw [h] at C
  change C_X11_keepIn l r L V at C
  unfold f_X11_keepIn at h
  show V 0 0 0 [(0, .ref 14), (1, .int a1), (2, .int a2), (3, .int a3)] [] LAY (M, L)
  refine x_run C e_X11_keepIn_1 e_X11_keepIn_1_k (pc' := 12) (lv' := [(0, .ref 14), (1, .int a1), (2, .int a2), (3, .int a3)]) (st' := [.int a2, .int (M 15 a1.toNatClampNeg), .int a1, .ref 15]) (σ' := (M, L)) rfl ⟨trivial, trivial, trivial, trivial, trivial, trivial, (x_rgv hp1 (by decide) (by decide)), trivial, trivial⟩ ?_
  refine x_callS C (rest := [.int (M 15 a1.toNatClampNeg), .int a1, .ref 15]) (avs := [.int a2]) (k_X11_mask l a2 M L) yoX11_mask ml_X11_122 rfl ⟨Nat.zero_le _, Nat.zero_le _⟩ (show decode cX11_keepIn 12 = .ok (.invokestatic 122, 3) from by decide +kernel) rfl (fun v σ' hPo => ?_)
  obtain ⟨⟨rfl, rfl⟩, g2, -⟩ := hPo
  show V 0 0 15 [(0, .ref 14), (1, .int a1), (2, .int a2), (3, .int a3)] [.int (f_X11_mask a2), .int (M 15 a1.toNatClampNeg), .int a1, .ref 15] LAY (M, L)
  refine x_run C e_X11_keepIn_2 e_X11_keepIn_2_k (pc' := 20) (lv' := [(0, .ref 14), (1, .int a1), (2, .int a2), (3, .int a3)]) (st' := [.int a2, .int a3, .int ((M 15 a1.toNatClampNeg) &&& ((f_X11_mask a2) ^^^ (-1))), .int a1, .ref 15]) (σ' := (M, L)) rfl ⟨trivial, trivial, trivial, trivial, trivial, trivial⟩ ?_
  refine x_callS C (rest := [.int a3, .int ((M 15 a1.toNatClampNeg) &&& ((f_X11_mask a2) ^^^ (-1))), .int a1, .ref 15]) (avs := [.int a2]) (k_X11_mask l a2 M L) yoX11_mask ml_X11_122 rfl ⟨Nat.zero_le _, Nat.zero_le _⟩ (show decode cX11_keepIn 20 = .ok (.invokestatic 122, 3) from by decide +kernel) rfl (fun v σ' hPo => ?_)
  obtain ⟨⟨rfl, rfl⟩, g5, -⟩ := hPo
  show V 0 0 23 [(0, .ref 14), (1, .int a1), (2, .int a2), (3, .int a3)] [.int (f_X11_mask a2), .int a3, .int ((M 15 a1.toNatClampNeg) &&& ((f_X11_mask a2) ^^^ (-1))), .int a1, .ref 15] LAY (M, L)
  refine x_run C e_X11_keepIn_3 e_X11_keepIn_3_k (pc' := 26) (lv' := [(0, .ref 14), (1, .int a1), (2, .int a2), (3, .int a3)]) (st' := []) (σ' := ((xup M 15 a1.toNatClampNeg (((M 15 a1.toNatClampNeg) &&& ((f_X11_mask a2) ^^^ (-1))) ||| (a3 &&& (f_X11_mask a2)))), L)) rfl ⟨trivial, trivial, (x_rgv hp1 (by decide) (by decide)), trivial⟩ ?_
  have hI7 : Inv INVM (xup M 15 a1.toNatClampNeg (((M 15 a1.toNatClampNeg) &&& ((f_X11_mask a2) ^^^ (-1))) ||| (a3 &&& (f_X11_mask a2)))) := (hI.arr 15 (a1.toNatClampNeg) (((M 15 a1.toNatClampNeg) &&& ((f_X11_mask a2) ^^^ (-1))) ||| (a3 &&& (f_X11_mask a2))) (by decide))
  subst h
  exact x_vret C (show decode cX11_keepIn 26 = .ok (.return_, 1) from by decide +kernel) (x_finV ⟨⟨rfl, rfl⟩, hI7⟩) (Nat.le_refl 0) (Nat.le_refl 0)
-- X11_extendOrStore
def e_X11_extendOrStore_1 : List xI := [(0, .iload_n 2, 1, .null), (1, .iconst 3, 1, .int 3), (2, .ishr, 1, .null), (3, .istore_n 3, 1, .null), (4, .iload_n 2, 1, .null), (5, .bipush 7, 2, .int 7), (7, .iand, 1, .null), (8, .istore 4, 2, .null), (10, .iload_n 3, 1, .null)]
theorem e_X11_extendOrStore_1_k : e_X11_extendOrStore_1.all (fun q => xokB cX11_extendOrStore q && xokL q) = true := by decide +kernel
def e_X11_extendOrStore_2 : List xI := [(47, .aload_n 0, 1, .null)]
theorem e_X11_extendOrStore_2_k : e_X11_extendOrStore_2.all (fun q => xokB cX11_extendOrStore q && xokL q) = true := by decide +kernel
def e_X11_extendOrStore_3 : List xI := [(51, .istore 5, 2, .null), (53, .iconst 1, 1, .int 1), (54, .iload_n 1, 1, .null), (55, .ishl, 1, .null), (56, .istore 6, 2, .null), (58, .iload_n 3, 1, .null), (59, .iconst 4, 1, .int 4)]
theorem e_X11_extendOrStore_3_k : e_X11_extendOrStore_3.all (fun q => xokB cX11_extendOrStore q && xokL q) = true := by decide +kernel
def e_X11_extendOrStore_4 : List xI := [(63, .aload_n 0, 1, .null), (64, .iload_n 2, 1, .null), (65, .iconst 1, 1, .int 1)]
theorem e_X11_extendOrStore_4_k : e_X11_extendOrStore_4.all (fun q => xokB cX11_extendOrStore q && xokL q) = true := by decide +kernel
def e_X11_extendOrStore_5 : List xI := [(14, .aload_n 0, 1, .null), (15, .iload 4, 2, .null), (17, .iload_n 1, 1, .null), (18, .aload_n 0, 1, .null), (19, .getfield 7, 3, .null), (22, .iload 4, 2, .null), (24, .iaload, 1, .null), (25, .iload_n 1, 1, .null), (26, .iconst 1, 1, .int 1), (27, .isub, 1, .null)]
theorem e_X11_extendOrStore_5_k : e_X11_extendOrStore_5.all (fun q => xokB cX11_extendOrStore q && xokL q) = true := by decide +kernel
def e_X11_extendOrStore_6 : List xI := [(34, .aload_n 0, 1, .null), (35, .iload_n 1, 1, .null), (36, .aload_n 0, 1, .null), (37, .getfield 7, 3, .null), (40, .iload 4, 2, .null), (42, .iaload, 1, .null)]
theorem e_X11_extendOrStore_6_k : e_X11_extendOrStore_6.all (fun q => xokB cX11_extendOrStore q && xokL q) = true := by decide +kernel
def e_X11_extendOrStore_7 : List xI := [(69, .iload_n 3, 1, .null), (70, .iconst 4, 1, .int 4)]
theorem e_X11_extendOrStore_7_k : e_X11_extendOrStore_7.all (fun q => xokB cX11_extendOrStore q && xokL q) = true := by decide +kernel
def e_X11_extendOrStore_8 : List xI := [(87, .aload_n 0, 1, .null), (88, .getfield 110, 3, .null)]
theorem e_X11_extendOrStore_8_k : e_X11_extendOrStore_8.all (fun q => xokB cX11_extendOrStore q && xokL q) = true := by decide +kernel
def e_X11_extendOrStore_9 : List xI := [(74, .aload_n 0, 1, .null), (75, .getfield 7, 3, .null), (78, .bipush 8, 2, .int 8), (80, .iload 4, 2, .null), (82, .iadd, 1, .null), (83, .iaload, 1, .null)]
theorem e_X11_extendOrStore_9_k : e_X11_extendOrStore_9.all (fun q => xokB cX11_extendOrStore q && xokL q) = true := by decide +kernel
def e_X11_extendOrStore_10 : List xI := [(91, .istore 7, 2, .null), (93, .iconst 0, 1, .int 0), (94, .istore 8, 2, .null)]
theorem e_X11_extendOrStore_10_k : e_X11_extendOrStore_10.all (fun q => xokB cX11_extendOrStore q && xokL q) = true := by decide +kernel
def e_X11_extendOrStore_11 : List xI := [(96, .iload 8, 2, .null), (98, .bipush 16, 2, .int 16)]
theorem e_X11_extendOrStore_11_k : e_X11_extendOrStore_11.all (fun q => xokB cX11_extendOrStore q && xokL q) = true := by decide +kernel
def e_X11_extendOrStore_12 : List xI := [(188, .iload_n 3, 1, .null), (189, .iconst 4, 1, .int 4)]
theorem e_X11_extendOrStore_12_k : e_X11_extendOrStore_12.all (fun q => xokB cX11_extendOrStore q && xokL q) = true := by decide +kernel
def e_X11_extendOrStore_13 : List xI := [(193, .aload_n 0, 1, .null), (194, .getfield 7, 3, .null), (197, .bipush 8, 2, .int 8), (199, .iload 4, 2, .null), (201, .iadd, 1, .null), (202, .iload 7, 2, .null), (204, .iastore, 1, .null)]
theorem e_X11_extendOrStore_13_k : e_X11_extendOrStore_13.all (fun q => xokB cX11_extendOrStore q && xokL q) = true := by decide +kernel
def e_X11_extendOrStore_14 : List xI := [(103, .iload 5, 2, .null), (105, .iload 8, 2, .null), (107, .ishr, 1, .null), (108, .iconst 1, 1, .int 1), (109, .iand, 1, .null)]
theorem e_X11_extendOrStore_14_k : e_X11_extendOrStore_14.all (fun q => xokB cX11_extendOrStore q && xokL q) = true := by decide +kernel
def e_X11_extendOrStore_15 : List xI := [(116, .iload_n 3, 1, .null), (117, .iconst 4, 1, .int 4)]
theorem e_X11_extendOrStore_15_k : e_X11_extendOrStore_15.all (fun q => xokB cX11_extendOrStore q && xokL q) = true := by decide +kernel
def e_X11_extendOrStore_16 : List xI := [(129, .iload 7, 2, .null)]
theorem e_X11_extendOrStore_16_k : e_X11_extendOrStore_16.all (fun q => xokB cX11_extendOrStore q && xokL q) = true := by decide +kernel
def e_X11_extendOrStore_17 : List xI := [(121, .iload 7, 2, .null), (123, .iload 6, 2, .null), (125, .isub, 1, .null)]
theorem e_X11_extendOrStore_17_k : e_X11_extendOrStore_17.all (fun q => xokB cX11_extendOrStore q && xokL q) = true := by decide +kernel
def e_X11_extendOrStore_18 : List xI := [(131, .istore 7, 2, .null), (133, .aload_n 0, 1, .null), (134, .iload 7, 2, .null), (136, .iload_n 1, 1, .null), (137, .aload_n 0, 1, .null), (138, .getfield 7, 3, .null), (141, .iload_n 3, 1, .null), (142, .iconst 4, 1, .int 4)]
theorem e_X11_extendOrStore_18_k : e_X11_extendOrStore_18.all (fun q => xokB cX11_extendOrStore q && xokL q) = true := by decide +kernel
def e_X11_extendOrStore_19 : List xI := [(154, .iload 8, 2, .null)]
theorem e_X11_extendOrStore_19_k : e_X11_extendOrStore_19.all (fun q => xokB cX11_extendOrStore q && xokL q) = true := by decide +kernel
def e_X11_extendOrStore_20 : List xI := [(146, .bipush 15, 2, .int 15), (148, .iload 8, 2, .null), (150, .isub, 1, .null)]
theorem e_X11_extendOrStore_20_k : e_X11_extendOrStore_20.all (fun q => xokB cX11_extendOrStore q && xokL q) = true := by decide +kernel
def e_X11_extendOrStore_21 : List xI := [(182, .iinc 8 1, 3, .null)]
theorem e_X11_extendOrStore_21_k : e_X11_extendOrStore_21.all (fun q => xokB cX11_extendOrStore q && xokL q) = true := by decide +kernel
def e_X11_extendOrStore_22 : List xI := [(156, .iaload, 1, .null), (157, .iload_n 1, 1, .null)]
theorem e_X11_extendOrStore_22_k : e_X11_extendOrStore_22.all (fun q => xokB cX11_extendOrStore q && xokL q) = true := by decide +kernel
def e_X11_extendOrStore_23 : List xI := [(161, .iand, 1, .null)]
theorem e_X11_extendOrStore_23_k : e_X11_extendOrStore_23.all (fun q => xokB cX11_extendOrStore q && xokL q) = true := by decide +kernel
def e_X11_extendOrStore_24 : List xI := [(165, .iload_n 3, 1, .null), (166, .iconst 4, 1, .int 4)]
theorem e_X11_extendOrStore_24_k : e_X11_extendOrStore_24.all (fun q => xokB cX11_extendOrStore q && xokL q) = true := by decide +kernel
def e_X11_extendOrStore_25 : List xI := [(175, .iload 7, 2, .null), (177, .iload 6, 2, .null), (179, .iadd, 1, .null)]
theorem e_X11_extendOrStore_25_k : e_X11_extendOrStore_25.all (fun q => xokB cX11_extendOrStore q && xokL q) = true := by decide +kernel
def e_X11_extendOrStore_26 : List xI := [(170, .iload 7, 2, .null)]
theorem e_X11_extendOrStore_26_k : e_X11_extendOrStore_26.all (fun q => xokB cX11_extendOrStore q && xokL q) = true := by decide +kernel
def e_X11_extendOrStore_27 : List xI := [(180, .istore 7, 2, .null)]
theorem e_X11_extendOrStore_27_k : e_X11_extendOrStore_27.all (fun q => xokB cX11_extendOrStore q && xokL q) = true := by decide +kernel
abbrev P_X11_extendOrStore (r : St) (L : Nat → Nat → Int64) : Option Value → xG → Prop := fun v σ' => PoV r L v σ' ∧ Inv INVM r
abbrev R_X11_extendOrStore : Room := { frames := 7, cells := 0, slots := 0, locals := 166 }
abbrev C_X11_extendOrStore (l : Launch) (r : St) (L : Nat → Nat → Int64) (V : XJ) : Prop := XC l yX11_extendOrStore.cls yX11_extendOrStore.name cX11_extendOrStore 9 R_X11_extendOrStore 0 0 fl_X11 kc_X11 LAY.length (xfin none LAY (P_X11_extendOrStore r L)) V
def f_X11_extendOrStore_182 (rec : Int32 → Int32 → Int32 → Int32 → Int32 → Int32 → Int32 → St → St) (x1 : Int32) (x3 : Int32) (x4 : Int32) (x5 : Int32) (x6 : Int32) (x7 : Int32) (x8 : Int32) (M : St) : St := rec x1 x3 x4 x5 x6 x7 (x8 + 1) M
def f_X11_extendOrStore_180 (rec : Int32 → Int32 → Int32 → Int32 → Int32 → Int32 → Int32 → St → St) (x1 : Int32) (x3 : Int32) (x4 : Int32) (x5 : Int32) (x6 : Int32) (x8 : Int32) (s0 : Int32) (M : St) : St := f_X11_extendOrStore_182 (rec) x1 x3 x4 x5 x6 s0 x8 M
def f_X11_extendOrStore_156 (rec : Int32 → Int32 → Int32 → Int32 → Int32 → Int32 → Int32 → St → St) (x1 : Int32) (x3 : Int32) (x4 : Int32) (x5 : Int32) (x6 : Int32) (x7 : Int32) (x8 : Int32) (s0 : Int32) (s2 : Int32) (s3 : Int32) (M : St) : St := (xb (f_X11_write s3 s2 ((M 15 s0.toNatClampNeg) &&& (f_X11_mask x1)) M) fun q39 => (if x3 = 4 then f_X11_extendOrStore_180 (rec) x1 x3 x4 x5 x6 x8 x7 q39 else f_X11_extendOrStore_180 (rec) x1 x3 x4 x5 x6 x8 (x7 + x6) q39))
def f_X11_extendOrStore_131 (rec : Int32 → Int32 → Int32 → Int32 → Int32 → Int32 → Int32 → St → St) (x1 : Int32) (x3 : Int32) (x4 : Int32) (x5 : Int32) (x6 : Int32) (x8 : Int32) (s0 : Int32) (M : St) : St := (if x3 = 4 then f_X11_extendOrStore_156 (rec) x1 x3 x4 x5 x6 s0 x8 (15 - x8) x1 s0 M else f_X11_extendOrStore_156 (rec) x1 x3 x4 x5 x6 s0 x8 x8 x1 s0 M)
def f_X11_extendOrStore_96 : Nat → Int32 → Int32 → Int32 → Int32 → Int32 → Int32 → Int32 → St → St
  | 0, x1, x3, x4, x5, x6, x7, x8, M => M
  | n + 1, x1, x3, x4, x5, x6, x7, x8, M => (if 16 ≤ x8 then (if x3 = 4 then (xup M 15 (8 + x4).toNatClampNeg x7) else M) else (if ((x5 >>> (x8 &&& 31)) &&& 1) = 0 then f_X11_extendOrStore_182 (f_X11_extendOrStore_96 n) x1 x3 x4 x5 x6 x7 x8 M else (if x3 = 4 then f_X11_extendOrStore_131 (f_X11_extendOrStore_96 n) x1 x3 x4 x5 x6 x8 (x7 - x6) M else f_X11_extendOrStore_131 (f_X11_extendOrStore_96 n) x1 x3 x4 x5 x6 x8 x7 M)))
def f_X11_extendOrStore_91 (x1 : Int32) (x3 : Int32) (x4 : Int32) (x5 : Int32) (x6 : Int32) (s0 : Int32) (M : St) : St := f_X11_extendOrStore_96 ((((16 : Int32)).toInt - (0 : Int32).toInt).toNat + 1) x1 x3 x4 x5 x6 s0 0 M
def f_X11_extendOrStore_69 (x1 : Int32) (x3 : Int32) (x4 : Int32) (x5 : Int32) (x6 : Int32) (M : St) : St := (if x3 = 4 then f_X11_extendOrStore_91 x1 x3 x4 x5 x6 (M 15 (8 + x4).toNatClampNeg) M else f_X11_extendOrStore_91 x1 x3 x4 x5 x6 (M 14 26) M)
def f_X11_extendOrStore (a1 : Int32) (a2 : Int32) (M : St) : St := (if (a2 >>> ((3 : Int32) &&& 31)) = 0 then (xb (f_X11_keepIn (a2 &&& 7) a1 (f_X11_extend (M 15 (a2 &&& 7).toNatClampNeg) (a1 - 1)) M) fun q14 => (xb (f_X11_test a1 (q14 15 (a2 &&& 7).toNatClampNeg) q14) fun q17 => q17)) else (xb (f_X11_fetch  M) fun q2 => (if (a2 >>> ((3 : Int32) &&& 31)) = 4 then f_X11_extendOrStore_69 a1 (a2 >>> ((3 : Int32) &&& 31)) (a2 &&& 7) q2.1 ((1 : Int32) <<< (a1 &&& 31)) q2.2 else (xb (f_X11_find a2 1 q2.2) fun q7 => f_X11_extendOrStore_69 a1 (a2 >>> ((3 : Int32) &&& 31)) (a2 &&& 7) q2.1 ((1 : Int32) <<< (a1 &&& 31)) q7))))
set_option maxRecDepth 20000 in
set_option maxHeartbeats 4000000 in
theorem b_X11_extendOrStore_182 {l : Launch} {L : Nat → Nat → Int64} {V : XJ} (r : St) (C : C_X11_extendOrStore l r L V) (n : Nat) (rec : Int32 → Int32 → Int32 → Int32 → Int32 → Int32 → Int32 → St → St) (hrec : ∀ (x1 : Int32) (x3 : Int32) (x4 : Int32) (x5 : Int32) (x6 : Int32) (x7 : Int32) (x8 : Int32) (M : St), xrg 0 7 x4 → xrg 0 16 x8 → Inv INVM M → (((16 : Int32)).toInt - x8.toInt).toNat < n → rec x1 x3 x4 x5 x6 x7 x8 M = r → V 0 0 96 [(0, .ref 14), (1, .int x1), (3, .int x3), (4, .int x4), (5, .int x5), (6, .int x6), (7, .int x7), (8, .int x8)] [] LAY (M, L)) (x1 : Int32) (x3 : Int32) (x4 : Int32) (x5 : Int32) (x6 : Int32) (x7 : Int32) (x8 : Int32) (M : St) (wx4 : xrg 0 7 x4) (wx8 : xrg 0 15 x8) (hI : Inv INVM M) (hk : (((16 : Int32)).toInt - (x8 + 1).toInt).toNat < n) (h : f_X11_extendOrStore_182 rec x1 x3 x4 x5 x6 x7 x8 M = r) : V 0 0 182 [(0, .ref 14), (1, .int x1), (3, .int x3), (4, .int x4), (5, .int x5), (6, .int x6), (7, .int x7), (8, .int x8)] [] LAY (M, L) := by
  unfold f_X11_extendOrStore_182 at h
  refine x_run C e_X11_extendOrStore_21 e_X11_extendOrStore_21_k (pc' := 185) (lv' := [(8, .int (x8 + 1)), (0, .ref 14), (1, .int x1), (3, .int x3), (4, .int x4), (5, .int x5), (6, .int x6), (7, .int x7)]) (st' := []) (σ' := (M, L)) rfl ⟨trivial, trivial⟩ ?_
  refine x_goto C (show decode cX11_extendOrStore 185 = .ok (.goto (-89), 3) from by decide +kernel) (tgt := 96) (by decide) ?_
  refine x_lv C [1, 2, 3, 4, 5, 6, 7, 0] rfl ?_
  exact hrec x1 x3 x4 x5 x6 x7 (x8 + 1) M wx4 (x_rgw (x_rg_add wx8 (x_rgc (x := 1) (k := 1) (by decide)) (by decide) (by decide)) (lo' := 0) (hi' := 16) (by decide) (by decide)) hI (hk) h
set_option maxRecDepth 20000 in
set_option maxHeartbeats 4000000 in
theorem b_X11_extendOrStore_180 {l : Launch} {L : Nat → Nat → Int64} {V : XJ} (r : St) (C : C_X11_extendOrStore l r L V) (n : Nat) (rec : Int32 → Int32 → Int32 → Int32 → Int32 → Int32 → Int32 → St → St) (hrec : ∀ (x1 : Int32) (x3 : Int32) (x4 : Int32) (x5 : Int32) (x6 : Int32) (x7 : Int32) (x8 : Int32) (M : St), xrg 0 7 x4 → xrg 0 16 x8 → Inv INVM M → (((16 : Int32)).toInt - x8.toInt).toNat < n → rec x1 x3 x4 x5 x6 x7 x8 M = r → V 0 0 96 [(0, .ref 14), (1, .int x1), (3, .int x3), (4, .int x4), (5, .int x5), (6, .int x6), (7, .int x7), (8, .int x8)] [] LAY (M, L)) (x1 : Int32) (x3 : Int32) (x4 : Int32) (x5 : Int32) (x6 : Int32) (x8 : Int32) (s0 : Int32) (M : St) (wx4 : xrg 0 7 x4) (wx8 : xrg 0 15 x8) (hI : Inv INVM M) (hk : (((16 : Int32)).toInt - (x8 + 1).toInt).toNat < n) (h : f_X11_extendOrStore_180 rec x1 x3 x4 x5 x6 x8 s0 M = r) : V 0 0 180 [(0, .ref 14), (1, .int x1), (3, .int x3), (4, .int x4), (5, .int x5), (6, .int x6), (8, .int x8)] [.int s0] LAY (M, L) := by
  unfold f_X11_extendOrStore_180 at h
  refine x_run C e_X11_extendOrStore_27 e_X11_extendOrStore_27_k (pc' := 182) (lv' := [(7, .int s0), (0, .ref 14), (1, .int x1), (3, .int x3), (4, .int x4), (5, .int x5), (6, .int x6), (8, .int x8)]) (st' := []) (σ' := (M, L)) rfl ⟨trivial, trivial⟩ ?_
  refine x_lv C [1, 2, 3, 4, 5, 6, 0, 7] rfl ?_
  exact b_X11_extendOrStore_182 r C n rec hrec x1 x3 x4 x5 x6 s0 x8 M wx4 wx8 hI (hk) h
set_option maxRecDepth 20000 in
set_option maxHeartbeats 4000000 in
theorem b_X11_extendOrStore_156 {l : Launch} {L : Nat → Nat → Int64} {V : XJ} (r : St) (C : C_X11_extendOrStore l r L V) (n : Nat) (rec : Int32 → Int32 → Int32 → Int32 → Int32 → Int32 → Int32 → St → St) (hrec : ∀ (x1 : Int32) (x3 : Int32) (x4 : Int32) (x5 : Int32) (x6 : Int32) (x7 : Int32) (x8 : Int32) (M : St), xrg 0 7 x4 → xrg 0 16 x8 → Inv INVM M → (((16 : Int32)).toInt - x8.toInt).toNat < n → rec x1 x3 x4 x5 x6 x7 x8 M = r → V 0 0 96 [(0, .ref 14), (1, .int x1), (3, .int x3), (4, .int x4), (5, .int x5), (6, .int x6), (7, .int x7), (8, .int x8)] [] LAY (M, L)) (x1 : Int32) (x3 : Int32) (x4 : Int32) (x5 : Int32) (x6 : Int32) (x7 : Int32) (x8 : Int32) (s0 : Int32) (s2 : Int32) (s3 : Int32) (M : St) (wx4 : xrg 0 7 x4) (wx8 : xrg 0 15 x8) (ws0 : xrg 0 15 s0) (hI : Inv INVM M) (hk : (((16 : Int32)).toInt - (x8 + 1).toInt).toNat < n) (h : f_X11_extendOrStore_156 rec x1 x3 x4 x5 x6 x7 x8 s0 s2 s3 M = r) : V 0 0 156 [(0, .ref 14), (1, .int x1), (3, .int x3), (4, .int x4), (5, .int x5), (6, .int x6), (7, .int x7), (8, .int x8)] [.int s0, .ref 15, .int s2, .int s3, .ref 14] LAY (M, L) := by
  unfold f_X11_extendOrStore_156 at h
  refine x_run C e_X11_extendOrStore_22 e_X11_extendOrStore_22_k (pc' := 158) (lv' := [(0, .ref 14), (1, .int x1), (3, .int x3), (4, .int x4), (5, .int x5), (6, .int x6), (7, .int x7), (8, .int x8)]) (st' := [.int x1, .int (M 15 s0.toNatClampNeg), .int s2, .int s3, .ref 14]) (σ' := (M, L)) rfl ⟨(x_rgv ws0 (by decide) (by decide)), trivial, trivial⟩ ?_
  refine x_callS C (rest := [.int (M 15 s0.toNatClampNeg), .int s2, .int s3, .ref 14]) (avs := [.int x1]) (k_X11_mask l x1 M L) yoX11_mask ml_X11_122 rfl ⟨Nat.zero_le _, Nat.zero_le _⟩ (show decode cX11_extendOrStore 158 = .ok (.invokestatic 122, 3) from by decide +kernel) rfl (fun v σ' hPo => ?_)
  obtain ⟨⟨rfl, rfl⟩, g37, -⟩ := hPo
  show V 0 0 161 [(0, .ref 14), (1, .int x1), (3, .int x3), (4, .int x4), (5, .int x5), (6, .int x6), (7, .int x7), (8, .int x8)] [.int (f_X11_mask x1), .int (M 15 s0.toNatClampNeg), .int s2, .int s3, .ref 14] LAY (M, L)
  refine x_run C e_X11_extendOrStore_23 e_X11_extendOrStore_23_k (pc' := 162) (lv' := [(0, .ref 14), (1, .int x1), (3, .int x3), (4, .int x4), (5, .int x5), (6, .int x6), (7, .int x7), (8, .int x8)]) (st' := [.int ((M 15 s0.toNatClampNeg) &&& (f_X11_mask x1)), .int s2, .int s3, .ref 14]) (σ' := (M, L)) rfl ⟨trivial, trivial⟩ ?_
  refine x_callV C (k := 14) (ci := 8) (rest := []) (avs := [.int s3, .int s2, .int ((M 15 s0.toNatClampNeg) &&& (f_X11_mask x1))]) (k_X11_write l s3 s2 ((M 15 s0.toNatClampNeg) &&& (f_X11_mask x1)) M L hI) yoX11_write ml_X11_99 rfl rfl rfl rfl ⟨Nat.zero_le _, Nat.zero_le _⟩ (show decode cX11_extendOrStore 162 = .ok (.invokevirtual 99, 3) from by decide +kernel) rfl (fun v σ' hPo => ?_)
  obtain ⟨⟨rfl, rfl⟩, hI41⟩ := hPo
  generalize hq39 : f_X11_write s3 s2 ((M 15 s0.toNatClampNeg) &&& (f_X11_mask x1)) M = q39 at h hI41 ⊢
  have h := xb_eq h
  show V 0 0 165 [(0, .ref 14), (1, .int x1), (3, .int x3), (4, .int x4), (5, .int x5), (6, .int x6), (7, .int x7), (8, .int x8)] [] LAY (q39, L)
  refine x_run C e_X11_extendOrStore_24 e_X11_extendOrStore_24_k (pc' := 167) (lv' := [(0, .ref 14), (1, .int x1), (3, .int x3), (4, .int x4), (5, .int x5), (6, .int x6), (7, .int x7), (8, .int x8)]) (st' := [.int 4, .int x3]) (σ' := (q39, L)) rfl ⟨trivial, trivial, trivial⟩ ?_
  refine x_icmp_ne C (show decode cX11_extendOrStore 167 = .ok (.if_icmp .ne 8, 3) from by decide +kernel) (tgt := 175) (by decide) (fun c42 => ?_) (fun c42 => ?_)
  · rw [if_neg c42] at h
    refine x_run C e_X11_extendOrStore_25 e_X11_extendOrStore_25_k (pc' := 180) (lv' := [(0, .ref 14), (1, .int x1), (3, .int x3), (4, .int x4), (5, .int x5), (6, .int x6), (7, .int x7), (8, .int x8)]) (st' := [.int (x7 + x6)]) (σ' := (q39, L)) rfl ⟨trivial, trivial, trivial, trivial⟩ ?_
    refine x_lv C [0, 1, 2, 3, 4, 5, 7] rfl ?_
    exact b_X11_extendOrStore_180 r C n rec hrec x1 x3 x4 x5 x6 x8 (x7 + x6) q39 wx4 wx8 hI41 (hk) h
  · rw [if_pos c42] at h
    have g43 : xrg 4 4 x3 := (x_c_eq (x_rgt x3) (x_rgc (x := 4) (k := 4) (by decide)) c42).1
    refine x_run C e_X11_extendOrStore_26 e_X11_extendOrStore_26_k (pc' := 172) (lv' := [(0, .ref 14), (1, .int x1), (3, .int x3), (4, .int x4), (5, .int x5), (6, .int x6), (7, .int x7), (8, .int x8)]) (st' := [.int x7]) (σ' := (q39, L)) rfl ⟨trivial, trivial⟩ ?_
    refine x_goto C (show decode cX11_extendOrStore 172 = .ok (.goto 8, 3) from by decide +kernel) (tgt := 180) (by decide) ?_
    refine x_lv C [0, 1, 2, 3, 4, 5, 7] rfl ?_
    exact b_X11_extendOrStore_180 r C n rec hrec x1 x3 x4 x5 x6 x8 x7 q39 wx4 wx8 hI41 (hk) h
set_option maxRecDepth 20000 in
set_option maxHeartbeats 4000000 in
theorem b_X11_extendOrStore_131 {l : Launch} {L : Nat → Nat → Int64} {V : XJ} (r : St) (C : C_X11_extendOrStore l r L V) (n : Nat) (rec : Int32 → Int32 → Int32 → Int32 → Int32 → Int32 → Int32 → St → St) (hrec : ∀ (x1 : Int32) (x3 : Int32) (x4 : Int32) (x5 : Int32) (x6 : Int32) (x7 : Int32) (x8 : Int32) (M : St), xrg 0 7 x4 → xrg 0 16 x8 → Inv INVM M → (((16 : Int32)).toInt - x8.toInt).toNat < n → rec x1 x3 x4 x5 x6 x7 x8 M = r → V 0 0 96 [(0, .ref 14), (1, .int x1), (3, .int x3), (4, .int x4), (5, .int x5), (6, .int x6), (7, .int x7), (8, .int x8)] [] LAY (M, L)) (x1 : Int32) (x3 : Int32) (x4 : Int32) (x5 : Int32) (x6 : Int32) (x8 : Int32) (s0 : Int32) (M : St) (wx4 : xrg 0 7 x4) (wx8 : xrg 0 15 x8) (hI : Inv INVM M) (hk : (((16 : Int32)).toInt - (x8 + 1).toInt).toNat < n) (h : f_X11_extendOrStore_131 rec x1 x3 x4 x5 x6 x8 s0 M = r) : V 0 0 131 [(0, .ref 14), (1, .int x1), (3, .int x3), (4, .int x4), (5, .int x5), (6, .int x6), (8, .int x8)] [.int s0] LAY (M, L) := by
  unfold f_X11_extendOrStore_131 at h
  refine x_run C e_X11_extendOrStore_18 e_X11_extendOrStore_18_k (pc' := 143) (lv' := [(7, .int s0), (0, .ref 14), (1, .int x1), (3, .int x3), (4, .int x4), (5, .int x5), (6, .int x6), (8, .int x8)]) (st' := [.int 4, .int x3, .ref 15, .int x1, .int s0, .ref 14]) (σ' := (M, L)) rfl ⟨trivial, trivial, trivial, trivial, trivial, trivial, trivial, trivial, trivial⟩ ?_
  refine x_icmp_ne C (show decode cX11_extendOrStore 143 = .ok (.if_icmp .ne 11, 3) from by decide +kernel) (tgt := 154) (by decide) (fun c34 => ?_) (fun c34 => ?_)
  · rw [if_neg c34] at h
    refine x_run C e_X11_extendOrStore_19 e_X11_extendOrStore_19_k (pc' := 156) (lv' := [(7, .int s0), (0, .ref 14), (1, .int x1), (3, .int x3), (4, .int x4), (5, .int x5), (6, .int x6), (8, .int x8)]) (st' := [.int x8, .ref 15, .int x1, .int s0, .ref 14]) (σ' := (M, L)) rfl ⟨trivial, trivial⟩ ?_
    refine x_lv C [1, 2, 3, 4, 5, 6, 0, 7] rfl ?_
    exact b_X11_extendOrStore_156 r C n rec hrec x1 x3 x4 x5 x6 s0 x8 x8 x1 s0 M wx4 wx8 wx8 hI (hk) h
  · rw [if_pos c34] at h
    have g35 : xrg 4 4 x3 := (x_c_eq (x_rgt x3) (x_rgc (x := 4) (k := 4) (by decide)) c34).1
    refine x_run C e_X11_extendOrStore_20 e_X11_extendOrStore_20_k (pc' := 151) (lv' := [(7, .int s0), (0, .ref 14), (1, .int x1), (3, .int x3), (4, .int x4), (5, .int x5), (6, .int x6), (8, .int x8)]) (st' := [.int (15 - x8), .ref 15, .int x1, .int s0, .ref 14]) (σ' := (M, L)) rfl ⟨trivial, trivial, trivial, trivial⟩ ?_
    refine x_goto C (show decode cX11_extendOrStore 151 = .ok (.goto 5, 3) from by decide +kernel) (tgt := 156) (by decide) ?_
    refine x_lv C [1, 2, 3, 4, 5, 6, 0, 7] rfl ?_
    exact b_X11_extendOrStore_156 r C n rec hrec x1 x3 x4 x5 x6 s0 x8 (15 - x8) x1 s0 M wx4 wx8 (x_rg_sub (x_rgc (x := 15) (k := 15) (by decide)) wx8 (by decide) (by decide)) hI (hk) h
set_option maxRecDepth 20000 in
set_option maxHeartbeats 4000000 in
theorem b_X11_extendOrStore_96 {l : Launch} {L : Nat → Nat → Int64} {V : XJ} (r : St) (C : C_X11_extendOrStore l r L V) : ∀ (n : Nat) (x1 : Int32) (x3 : Int32) (x4 : Int32) (x5 : Int32) (x6 : Int32) (x7 : Int32) (x8 : Int32) (M : St), xrg 0 7 x4 → xrg 0 16 x8 → Inv INVM M → (((16 : Int32)).toInt - x8.toInt).toNat < n → f_X11_extendOrStore_96 n x1 x3 x4 x5 x6 x7 x8 M = r → V 0 0 96 [(0, .ref 14), (1, .int x1), (3, .int x3), (4, .int x4), (5, .int x5), (6, .int x6), (7, .int x7), (8, .int x8)] [] LAY (M, L) := by
  intro n
  induction n with
  | zero => intro x1 x3 x4 x5 x6 x7 x8 M  wx4 wx8 hI hm; exact absurd hm (Nat.not_lt_zero _)
  | succ n ih =>
    intro x1 x3 x4 x5 x6 x7 x8 M  wx4 wx8 hI hm h
    unfold f_X11_extendOrStore_96 at h
    refine x_run C e_X11_extendOrStore_11 e_X11_extendOrStore_11_k (pc' := 100) (lv' := [(0, .ref 14), (1, .int x1), (3, .int x3), (4, .int x4), (5, .int x5), (6, .int x6), (7, .int x7), (8, .int x8)]) (st' := [.int 16, .int x8]) (σ' := (M, L)) rfl ⟨trivial, trivial, trivial⟩ ?_
    refine x_icmp_ge C (show decode cX11_extendOrStore 100 = .ok (.if_icmp .ge 88, 3) from by decide +kernel) (tgt := 188) (by decide) (fun c22 => ?_) (fun c22 => ?_)
    · rw [if_pos c22] at h
      have g23 : xrg 16 16 x8 := (x_c_le (x_rgc (x := 16) (k := 16) (by decide)) wx8 c22).2
      refine x_run C e_X11_extendOrStore_12 e_X11_extendOrStore_12_k (pc' := 190) (lv' := [(0, .ref 14), (1, .int x1), (3, .int x3), (4, .int x4), (5, .int x5), (6, .int x6), (7, .int x7), (8, .int x8)]) (st' := [.int 4, .int x3]) (σ' := (M, L)) rfl ⟨trivial, trivial, trivial⟩ ?_
      refine x_icmp_ne C (show decode cX11_extendOrStore 190 = .ok (.if_icmp .ne 15, 3) from by decide +kernel) (tgt := 205) (by decide) (fun c24 => ?_) (fun c24 => ?_)
      · rw [if_neg c24] at h
        subst h
        exact x_vret C (show decode cX11_extendOrStore 205 = .ok (.return_, 1) from by decide +kernel) (x_finV ⟨⟨rfl, rfl⟩, hI⟩) (Nat.le_refl 0) (Nat.le_refl 0)
      · rw [if_pos c24] at h
        have g25 : xrg 4 4 x3 := (x_c_eq (x_rgt x3) (x_rgc (x := 4) (k := 4) (by decide)) c24).1
        refine x_run C e_X11_extendOrStore_13 e_X11_extendOrStore_13_k (pc' := 205) (lv' := [(0, .ref 14), (1, .int x1), (3, .int x3), (4, .int x4), (5, .int x5), (6, .int x6), (7, .int x7), (8, .int x8)]) (st' := []) (σ' := ((xup M 15 (8 + x4).toNatClampNeg x7), L)) rfl ⟨trivial, trivial, trivial, trivial, trivial, trivial, (x_rgv (x_rg_add (x_rgc (x := 8) (k := 8) (by decide)) wx4 (by decide) (by decide)) (by decide) (by decide)), trivial⟩ ?_
        have hI26 : Inv INVM (xup M 15 (8 + x4).toNatClampNeg x7) := (hI.arr 15 ((8 + x4).toNatClampNeg) x7 (by decide))
        subst h
        exact x_vret C (show decode cX11_extendOrStore 205 = .ok (.return_, 1) from by decide +kernel) (x_finV ⟨⟨rfl, rfl⟩, hI26⟩) (Nat.le_refl 0) (Nat.le_refl 0)
    · rw [if_neg c22] at h
      have g27 : xrg 0 15 x8 := (x_c_nle (x_rgc (x := 16) (k := 16) (by decide)) wx8 c22).2
      have hk28 := x_meas (x_nle c22) hm
      refine x_run C e_X11_extendOrStore_14 e_X11_extendOrStore_14_k (pc' := 110) (lv' := [(0, .ref 14), (1, .int x1), (3, .int x3), (4, .int x4), (5, .int x5), (6, .int x6), (7, .int x7), (8, .int x8)]) (st' := [.int ((x5 >>> (x8 &&& 31)) &&& 1)]) (σ' := (M, L)) rfl ⟨trivial, trivial, trivial, trivial, trivial, trivial⟩ ?_
      refine x_if_ne C (show decode cX11_extendOrStore 110 = .ok (.ifCond .ne 6, 3) from by decide +kernel) (tgt := 116) (by decide) (fun c29 => ?_) (fun c29 => ?_)
      · rw [if_neg c29] at h
        have g30 : xrg 1 1 ((x5 >>> (x8 &&& 31)) &&& 1) := (x_c_ne (x_rg_and (x := (x5 >>> (x8 &&& 31))) (m := 1) (k := 1) (by decide) (by decide)) (by decide) c29)
        refine x_run C e_X11_extendOrStore_15 e_X11_extendOrStore_15_k (pc' := 118) (lv' := [(0, .ref 14), (1, .int x1), (3, .int x3), (4, .int x4), (5, .int x5), (6, .int x6), (7, .int x7), (8, .int x8)]) (st' := [.int 4, .int x3]) (σ' := (M, L)) rfl ⟨trivial, trivial, trivial⟩ ?_
        refine x_icmp_ne C (show decode cX11_extendOrStore 118 = .ok (.if_icmp .ne 11, 3) from by decide +kernel) (tgt := 129) (by decide) (fun c31 => ?_) (fun c31 => ?_)
        · rw [if_neg c31] at h
          refine x_run C e_X11_extendOrStore_16 e_X11_extendOrStore_16_k (pc' := 131) (lv' := [(0, .ref 14), (1, .int x1), (3, .int x3), (4, .int x4), (5, .int x5), (6, .int x6), (7, .int x7), (8, .int x8)]) (st' := [.int x7]) (σ' := (M, L)) rfl ⟨trivial, trivial⟩ ?_
          refine x_lv C [0, 1, 2, 3, 4, 5, 7] rfl ?_
          exact b_X11_extendOrStore_131 r C n (f_X11_extendOrStore_96 n) ih x1 x3 x4 x5 x6 x8 x7 M wx4 g27 hI (hk28) h
        · rw [if_pos c31] at h
          have g32 : xrg 4 4 x3 := (x_c_eq (x_rgt x3) (x_rgc (x := 4) (k := 4) (by decide)) c31).1
          refine x_run C e_X11_extendOrStore_17 e_X11_extendOrStore_17_k (pc' := 126) (lv' := [(0, .ref 14), (1, .int x1), (3, .int x3), (4, .int x4), (5, .int x5), (6, .int x6), (7, .int x7), (8, .int x8)]) (st' := [.int (x7 - x6)]) (σ' := (M, L)) rfl ⟨trivial, trivial, trivial, trivial⟩ ?_
          refine x_goto C (show decode cX11_extendOrStore 126 = .ok (.goto 5, 3) from by decide +kernel) (tgt := 131) (by decide) ?_
          refine x_lv C [0, 1, 2, 3, 4, 5, 7] rfl ?_
          exact b_X11_extendOrStore_131 r C n (f_X11_extendOrStore_96 n) ih x1 x3 x4 x5 x6 x8 (x7 - x6) M wx4 g27 hI (hk28) h
      · rw [if_pos c29] at h
        have g33 : xrg 0 0 ((x5 >>> (x8 &&& 31)) &&& 1) := (x_c_eq (x_rg_and (x := (x5 >>> (x8 &&& 31))) (m := 1) (k := 1) (by decide) (by decide)) (x_rgc (x := 0) (k := 0) (by decide)) c29).1
        refine x_goto C (show decode cX11_extendOrStore 113 = .ok (.goto 69, 3) from by decide +kernel) (tgt := 182) (by decide) ?_
        exact b_X11_extendOrStore_182 r C n (f_X11_extendOrStore_96 n) ih x1 x3 x4 x5 x6 x7 x8 M wx4 g27 hI (hk28) h
set_option maxRecDepth 20000 in
set_option maxHeartbeats 4000000 in
theorem b_X11_extendOrStore_91 {l : Launch} {L : Nat → Nat → Int64} {V : XJ} (r : St) (C : C_X11_extendOrStore l r L V) (x1 : Int32) (x3 : Int32) (x4 : Int32) (x5 : Int32) (x6 : Int32) (s0 : Int32) (M : St) (wx4 : xrg 0 7 x4) (hI : Inv INVM M) (h : f_X11_extendOrStore_91 x1 x3 x4 x5 x6 s0 M = r) : V 0 0 91 [(0, .ref 14), (1, .int x1), (3, .int x3), (4, .int x4), (5, .int x5), (6, .int x6)] [.int s0] LAY (M, L) := by
  unfold f_X11_extendOrStore_91 at h
  refine x_run C e_X11_extendOrStore_10 e_X11_extendOrStore_10_k (pc' := 96) (lv' := [(8, .int 0), (7, .int s0), (0, .ref 14), (1, .int x1), (3, .int x3), (4, .int x4), (5, .int x5), (6, .int x6)]) (st' := []) (σ' := (M, L)) rfl ⟨trivial, trivial, trivial, trivial⟩ ?_
  refine x_lv C [2, 3, 4, 5, 6, 7, 1, 0] rfl ?_
  exact b_X11_extendOrStore_96 r C ((((16 : Int32)).toInt - (0 : Int32).toInt).toNat + 1) x1 x3 x4 x5 x6 s0 0 M wx4 (x_rgw (x_rgc (x := 0) (k := 0) (by decide)) (lo' := 0) (hi' := 16) (by decide) (by decide)) hI (Nat.lt_succ_self _) h
set_option maxRecDepth 20000 in
set_option maxHeartbeats 4000000 in
theorem b_X11_extendOrStore_69 {l : Launch} {L : Nat → Nat → Int64} {V : XJ} (r : St) (C : C_X11_extendOrStore l r L V) (x1 : Int32) (x3 : Int32) (x4 : Int32) (x5 : Int32) (x6 : Int32) (M : St) (wx4 : xrg 0 7 x4) (hI : Inv INVM M) (h : f_X11_extendOrStore_69 x1 x3 x4 x5 x6 M = r) : V 0 0 69 [(0, .ref 14), (1, .int x1), (3, .int x3), (4, .int x4), (5, .int x5), (6, .int x6)] [] LAY (M, L) := by
  unfold f_X11_extendOrStore_69 at h
  refine x_run C e_X11_extendOrStore_7 e_X11_extendOrStore_7_k (pc' := 71) (lv' := [(0, .ref 14), (1, .int x1), (3, .int x3), (4, .int x4), (5, .int x5), (6, .int x6)]) (st' := [.int 4, .int x3]) (σ' := (M, L)) rfl ⟨trivial, trivial, trivial⟩ ?_
  refine x_icmp_ne C (show decode cX11_extendOrStore 71 = .ok (.if_icmp .ne 16, 3) from by decide +kernel) (tgt := 87) (by decide) (fun c20 => ?_) (fun c20 => ?_)
  · rw [if_neg c20] at h
    refine x_run C e_X11_extendOrStore_8 e_X11_extendOrStore_8_k (pc' := 91) (lv' := [(0, .ref 14), (1, .int x1), (3, .int x3), (4, .int x4), (5, .int x5), (6, .int x6)]) (st' := [.int (M 14 26)]) (σ' := (M, L)) rfl ⟨trivial, trivial, trivial⟩ ?_
    exact b_X11_extendOrStore_91 r C x1 x3 x4 x5 x6 (M 14 26) M wx4 hI h
  · rw [if_pos c20] at h
    have g21 : xrg 4 4 x3 := (x_c_eq (x_rgt x3) (x_rgc (x := 4) (k := 4) (by decide)) c20).1
    refine x_run C e_X11_extendOrStore_9 e_X11_extendOrStore_9_k (pc' := 84) (lv' := [(0, .ref 14), (1, .int x1), (3, .int x3), (4, .int x4), (5, .int x5), (6, .int x6)]) (st' := [.int (M 15 (8 + x4).toNatClampNeg)]) (σ' := (M, L)) rfl ⟨trivial, trivial, trivial, trivial, trivial, (x_rgv (x_rg_add (x_rgc (x := 8) (k := 8) (by decide)) wx4 (by decide) (by decide)) (by decide) (by decide)), trivial⟩ ?_
    refine x_goto C (show decode cX11_extendOrStore 84 = .ok (.goto 7, 3) from by decide +kernel) (tgt := 91) (by decide) ?_
    exact b_X11_extendOrStore_91 r C x1 x3 x4 x5 x6 (M 15 (8 + x4).toNatClampNeg) M wx4 hI h
set_option maxRecDepth 20000 in
set_option maxHeartbeats 4000000 in
theorem k_X11_extendOrStore (l : Launch) (a1 : Int32) (a2 : Int32) (M : St) (L : Nat → Nat → Int64) (hp2 : xrg 0 63 a2) (hI : Inv INVM M) : XM l yX11_extendOrStore cX11_extendOrStore 9 none R_X11_extendOrStore LAY [.ref 14, .int a1, .int a2] (M, L) (P_X11_extendOrStore (f_X11_extendOrStore a1 a2 M) L) := by
  refine XM.of (by decide) (Nat.le_of_ble_eq_true rfl) LAY_in cl_ok fl_X11_ok kc_X11_ok (fun V C => ?_)
  obtain ⟨r, h⟩ : ∃ r, f_X11_extendOrStore a1 a2 M = r := ⟨_, rfl⟩
  rw [h] at C
  change C_X11_extendOrStore l r L V at C
  unfold f_X11_extendOrStore at h
  show V 0 0 0 [(0, .ref 14), (1, .int a1), (2, .int a2)] [] LAY (M, L)
  refine x_run C e_X11_extendOrStore_1 e_X11_extendOrStore_1_k (pc' := 11) (lv' := [(4, .int (a2 &&& 7)), (3, .int (a2 >>> ((3 : Int32) &&& 31))), (0, .ref 14), (1, .int a1), (2, .int a2)]) (st' := [.int (a2 >>> ((3 : Int32) &&& 31))]) (σ' := (M, L)) rfl ⟨trivial, trivial, trivial, trivial, trivial, trivial, trivial, trivial, trivial, trivial⟩ ?_
  refine x_if_ne C (show decode cX11_extendOrStore 11 = .ok (.ifCond .ne 36, 3) from by decide +kernel) (tgt := 47) (by decide) (fun c1 => ?_) (fun c1 => ?_)
  · rw [if_neg c1] at h
    refine x_run C e_X11_extendOrStore_2 e_X11_extendOrStore_2_k (pc' := 48) (lv' := [(4, .int (a2 &&& 7)), (3, .int (a2 >>> ((3 : Int32) &&& 31))), (0, .ref 14), (1, .int a1), (2, .int a2)]) (st' := [.ref 14]) (σ' := (M, L)) rfl ⟨trivial, trivial⟩ ?_
    refine x_callV C (k := 14) (ci := 8) (rest := []) (avs := []) (k_X11_fetch l  M L hI) yoX11_fetch ml_X11_103 rfl rfl rfl rfl ⟨Nat.zero_le _, Nat.zero_le _⟩ (show decode cX11_extendOrStore 48 = .ok (.invokevirtual 103, 3) from by decide +kernel) rfl (fun v σ' hPo => ?_)
    obtain ⟨⟨rfl, rfl⟩, g3, hI4⟩ := hPo
    generalize hq2 : f_X11_fetch  M = q2 at h g3 hI4 ⊢
    obtain ⟨r2, M2⟩ := q2
    have h := xb_eq h
    try dsimp only at h g3 hI4
    show V 0 0 51 [(4, .int (a2 &&& 7)), (3, .int (a2 >>> ((3 : Int32) &&& 31))), (0, .ref 14), (1, .int a1), (2, .int a2)] [.int r2] LAY (M2, L)
    refine x_run C e_X11_extendOrStore_3 e_X11_extendOrStore_3_k (pc' := 60) (lv' := [(6, .int ((1 : Int32) <<< (a1 &&& 31))), (5, .int r2), (4, .int (a2 &&& 7)), (3, .int (a2 >>> ((3 : Int32) &&& 31))), (0, .ref 14), (1, .int a1), (2, .int a2)]) (st' := [.int 4, .int (a2 >>> ((3 : Int32) &&& 31))]) (σ' := (M2, L)) rfl ⟨trivial, trivial, trivial, trivial, trivial, trivial, trivial, trivial⟩ ?_
    refine x_icmp_eq C (show decode cX11_extendOrStore 60 = .ok (.if_icmp .eq 9, 3) from by decide +kernel) (tgt := 69) (by decide) (fun c5 => ?_) (fun c5 => ?_)
    · rw [if_pos c5] at h
      have g6 : xrg 4 4 (a2 >>> ((3 : Int32) &&& 31)) := (x_c_eq (x_rgt (a2 >>> ((3 : Int32) &&& 31))) (x_rgc (x := 4) (k := 4) (by decide)) c5).1
      refine x_lv C [4, 5, 3, 2, 1, 0] rfl ?_
      exact b_X11_extendOrStore_69 r C a1 (a2 >>> ((3 : Int32) &&& 31)) (a2 &&& 7) r2 ((1 : Int32) <<< (a1 &&& 31)) M2 (x_rg_and (x := a2) (m := 7) (k := 7) (by decide) (by decide)) hI4 h
    · rw [if_neg c5] at h
      refine x_run C e_X11_extendOrStore_4 e_X11_extendOrStore_4_k (pc' := 66) (lv' := [(6, .int ((1 : Int32) <<< (a1 &&& 31))), (5, .int r2), (4, .int (a2 &&& 7)), (3, .int (a2 >>> ((3 : Int32) &&& 31))), (0, .ref 14), (1, .int a1), (2, .int a2)]) (st' := [.int 1, .int a2, .ref 14]) (σ' := (M2, L)) rfl ⟨trivial, trivial, trivial, trivial⟩ ?_
      refine x_callV C (k := 14) (ci := 8) (rest := []) (avs := [.int a2, .int 1]) (k_X11_find l a2 1 M2 L hI4) yoX11_find ml_X11_125 rfl rfl rfl rfl ⟨Nat.zero_le _, Nat.zero_le _⟩ (show decode cX11_extendOrStore 66 = .ok (.invokevirtual 125, 3) from by decide +kernel) rfl (fun v σ' hPo => ?_)
      obtain ⟨⟨rfl, rfl⟩, hI9⟩ := hPo
      generalize hq7 : f_X11_find a2 1 M2 = q7 at h hI9 ⊢
      have h := xb_eq h
      show V 0 0 69 [(6, .int ((1 : Int32) <<< (a1 &&& 31))), (5, .int r2), (4, .int (a2 &&& 7)), (3, .int (a2 >>> ((3 : Int32) &&& 31))), (0, .ref 14), (1, .int a1), (2, .int a2)] [] LAY (q7, L)
      refine x_lv C [4, 5, 3, 2, 1, 0] rfl ?_
      exact b_X11_extendOrStore_69 r C a1 (a2 >>> ((3 : Int32) &&& 31)) (a2 &&& 7) r2 ((1 : Int32) <<< (a1 &&& 31)) q7 (x_rg_and (x := a2) (m := 7) (k := 7) (by decide) (by decide)) hI9 h
  · rw [if_pos c1] at h
    have g10 : xrg 0 0 (a2 >>> ((3 : Int32) &&& 31)) := (x_c_eq (x_rgt (a2 >>> ((3 : Int32) &&& 31))) (x_rgc (x := 0) (k := 0) (by decide)) c1).1
    refine x_run C e_X11_extendOrStore_5 e_X11_extendOrStore_5_k (pc' := 28) (lv' := [(4, .int (a2 &&& 7)), (3, .int (a2 >>> ((3 : Int32) &&& 31))), (0, .ref 14), (1, .int a1), (2, .int a2)]) (st' := [.int (a1 - 1), .int (M 15 (a2 &&& 7).toNatClampNeg), .int a1, .int (a2 &&& 7), .ref 14]) (σ' := (M, L)) rfl ⟨trivial, trivial, trivial, trivial, trivial, trivial, (x_rgv (x_rg_and (x := a2) (m := 7) (k := 7) (by decide) (by decide)) (by decide) (by decide)), trivial, trivial, trivial, trivial⟩ ?_
    refine x_callS C (rest := [.int a1, .int (a2 &&& 7), .ref 14]) (avs := [.int (M 15 (a2 &&& 7).toNatClampNeg), .int (a1 - 1)]) (k_X11_extend l (M 15 (a2 &&& 7).toNatClampNeg) (a1 - 1) M L) yoX11_extend ml_X11_131 rfl ⟨Nat.zero_le _, Nat.zero_le _⟩ (show decode cX11_extendOrStore 28 = .ok (.invokestatic 131, 3) from by decide +kernel) rfl (fun v σ' hPo => ?_)
    obtain ⟨⟨rfl, rfl⟩, g12, -⟩ := hPo
    show V 0 0 31 [(4, .int (a2 &&& 7)), (3, .int (a2 >>> ((3 : Int32) &&& 31))), (0, .ref 14), (1, .int a1), (2, .int a2)] [.int (f_X11_extend (M 15 (a2 &&& 7).toNatClampNeg) (a1 - 1)), .int a1, .int (a2 &&& 7), .ref 14] LAY (M, L)
    refine x_callV C (k := 14) (ci := 8) (rest := []) (avs := [.int (a2 &&& 7), .int a1, .int (f_X11_extend (M 15 (a2 &&& 7).toNatClampNeg) (a1 - 1))]) (k_X11_keepIn l (a2 &&& 7) a1 (f_X11_extend (M 15 (a2 &&& 7).toNatClampNeg) (a1 - 1)) M L (x_rgw (x_rg_and (x := a2) (m := 7) (k := 7) (by decide) (by decide)) (lo' := 0) (hi' := 15) (by decide) (by decide)) hI) yoX11_keepIn ml_X11_225 rfl rfl rfl rfl ⟨Nat.zero_le _, Nat.zero_le _⟩ (show decode cX11_extendOrStore 31 = .ok (.invokevirtual 225, 3) from by decide +kernel) rfl (fun v σ' hPo => ?_)
    obtain ⟨⟨rfl, rfl⟩, hI16⟩ := hPo
    generalize hq14 : f_X11_keepIn (a2 &&& 7) a1 (f_X11_extend (M 15 (a2 &&& 7).toNatClampNeg) (a1 - 1)) M = q14 at h hI16 ⊢
    have h := xb_eq h
    show V 0 0 34 [(4, .int (a2 &&& 7)), (3, .int (a2 >>> ((3 : Int32) &&& 31))), (0, .ref 14), (1, .int a1), (2, .int a2)] [] LAY (q14, L)
    refine x_run C e_X11_extendOrStore_6 e_X11_extendOrStore_6_k (pc' := 43) (lv' := [(4, .int (a2 &&& 7)), (3, .int (a2 >>> ((3 : Int32) &&& 31))), (0, .ref 14), (1, .int a1), (2, .int a2)]) (st' := [.int (q14 15 (a2 &&& 7).toNatClampNeg), .int a1, .ref 14]) (σ' := (q14, L)) rfl ⟨trivial, trivial, trivial, trivial, trivial, (x_rgv (x_rg_and (x := a2) (m := 7) (k := 7) (by decide) (by decide)) (by decide) (by decide)), trivial⟩ ?_
    refine x_callV C (k := 14) (ci := 8) (rest := []) (avs := [.int a1, .int (q14 15 (a2 &&& 7).toNatClampNeg)]) (k_X11_test l a1 (q14 15 (a2 &&& 7).toNatClampNeg) q14 L hI16) yoX11_test ml_X11_196 rfl rfl rfl rfl ⟨Nat.zero_le _, Nat.zero_le _⟩ (show decode cX11_extendOrStore 43 = .ok (.invokevirtual 196, 3) from by decide +kernel) rfl (fun v σ' hPo => ?_)
    obtain ⟨⟨rfl, rfl⟩, hI19⟩ := hPo
    generalize hq17 : f_X11_test a1 (q14 15 (a2 &&& 7).toNatClampNeg) q14 = q17 at h hI19 ⊢
    have h := xb_eq h
    show V 0 0 46 [(4, .int (a2 &&& 7)), (3, .int (a2 >>> ((3 : Int32) &&& 31))), (0, .ref 14), (1, .int a1), (2, .int a2)] [] LAY (q17, L)
    subst h
    exact x_vret C (show decode cX11_extendOrStore 46 = .ok (.return_, 1) from by decide +kernel) (x_finV ⟨⟨rfl, rfl⟩, hI19⟩) (Nat.le_refl 0) (Nat.le_refl 0)
-- X11_loadMany
def e_X11_loadMany_1 : List xI := [(0, .aload_n 0, 1, .null)]
theorem e_X11_loadMany_1_k : e_X11_loadMany_1.all (fun q => xokB cX11_loadMany q && xokL q) = true := by decide +kernel
def e_X11_loadMany_2 : List xI := [(4, .istore_n 3, 1, .null), (5, .bipush 8, 2, .int 8), (7, .iload_n 2, 1, .null), (8, .bipush 7, 2, .int 7), (10, .iand, 1, .null), (11, .iadd, 1, .null), (12, .istore 4, 2, .null), (14, .iload_n 2, 1, .null), (15, .iconst 3, 1, .int 3), (16, .ishr, 1, .null), (17, .iconst 3, 1, .int 3)]
theorem e_X11_loadMany_2_k : e_X11_loadMany_2.all (fun q => xokB cX11_loadMany q && xokL q) = true := by decide +kernel
def e_X11_loadMany_3 : List xI := [(21, .aload_n 0, 1, .null), (22, .iload_n 2, 1, .null), (23, .iconst 1, 1, .int 1)]
theorem e_X11_loadMany_3_k : e_X11_loadMany_3.all (fun q => xokB cX11_loadMany q && xokL q) = true := by decide +kernel
def e_X11_loadMany_4 : List xI := [(27, .iload_n 2, 1, .null), (28, .iconst 3, 1, .int 3), (29, .ishr, 1, .null), (30, .iconst 3, 1, .int 3)]
theorem e_X11_loadMany_4_k : e_X11_loadMany_4.all (fun q => xokB cX11_loadMany q && xokL q) = true := by decide +kernel
def e_X11_loadMany_5 : List xI := [(44, .aload_n 0, 1, .null), (45, .getfield 110, 3, .null)]
theorem e_X11_loadMany_5_k : e_X11_loadMany_5.all (fun q => xokB cX11_loadMany q && xokL q) = true := by decide +kernel
def e_X11_loadMany_6 : List xI := [(34, .aload_n 0, 1, .null), (35, .getfield 7, 3, .null), (38, .iload 4, 2, .null), (40, .iaload, 1, .null)]
theorem e_X11_loadMany_6_k : e_X11_loadMany_6.all (fun q => xokB cX11_loadMany q && xokL q) = true := by decide +kernel
def e_X11_loadMany_7 : List xI := [(48, .istore 5, 2, .null), (50, .iconst 0, 1, .int 0), (51, .istore 6, 2, .null)]
theorem e_X11_loadMany_7_k : e_X11_loadMany_7.all (fun q => xokB cX11_loadMany q && xokL q) = true := by decide +kernel
def e_X11_loadMany_8 : List xI := [(53, .iload 6, 2, .null), (55, .bipush 16, 2, .int 16)]
theorem e_X11_loadMany_8_k : e_X11_loadMany_8.all (fun q => xokB cX11_loadMany q && xokL q) = true := by decide +kernel
def e_X11_loadMany_9 : List xI := [(105, .iload_n 2, 1, .null), (106, .iconst 3, 1, .int 3), (107, .ishr, 1, .null), (108, .iconst 3, 1, .int 3)]
theorem e_X11_loadMany_9_k : e_X11_loadMany_9.all (fun q => xokB cX11_loadMany q && xokL q) = true := by decide +kernel
def e_X11_loadMany_10 : List xI := [(112, .aload_n 0, 1, .null), (113, .getfield 7, 3, .null), (116, .iload 4, 2, .null), (118, .iload 5, 2, .null), (120, .iastore, 1, .null)]
theorem e_X11_loadMany_10_k : e_X11_loadMany_10.all (fun q => xokB cX11_loadMany q && xokL q) = true := by decide +kernel
def e_X11_loadMany_11 : List xI := [(60, .iload_n 3, 1, .null), (61, .iload 6, 2, .null), (63, .ishr, 1, .null), (64, .iconst 1, 1, .int 1), (65, .iand, 1, .null)]
theorem e_X11_loadMany_11_k : e_X11_loadMany_11.all (fun q => xokB cX11_loadMany q && xokL q) = true := by decide +kernel
def e_X11_loadMany_12 : List xI := [(72, .aload_n 0, 1, .null), (73, .getfield 7, 3, .null), (76, .iload 6, 2, .null), (78, .aload_n 0, 1, .null), (79, .iload 5, 2, .null), (81, .iload_n 1, 1, .null), (82, .iconst 1, 1, .int 1)]
theorem e_X11_loadMany_12_k : e_X11_loadMany_12.all (fun q => xokB cX11_loadMany q && xokL q) = true := by decide +kernel
def e_X11_loadMany_13 : List xI := [(86, .iload_n 1, 1, .null)]
theorem e_X11_loadMany_13_k : e_X11_loadMany_13.all (fun q => xokB cX11_loadMany q && xokL q) = true := by decide +kernel
def e_X11_loadMany_14 : List xI := [(90, .iastore, 1, .null), (91, .iload 5, 2, .null), (93, .iconst 1, 1, .int 1), (94, .iload_n 1, 1, .null), (95, .ishl, 1, .null), (96, .iadd, 1, .null), (97, .istore 5, 2, .null)]
theorem e_X11_loadMany_14_k : e_X11_loadMany_14.all (fun q => xokB cX11_loadMany q && xokL q) = true := by decide +kernel
def e_X11_loadMany_15 : List xI := [(99, .iinc 6 1, 3, .null)]
theorem e_X11_loadMany_15_k : e_X11_loadMany_15.all (fun q => xokB cX11_loadMany q && xokL q) = true := by decide +kernel
abbrev P_X11_loadMany (r : St) (L : Nat → Nat → Int64) : Option Value → xG → Prop := fun v σ' => PoV r L v σ' ∧ Inv INVM r
abbrev R_X11_loadMany : Room := { frames := 7, cells := 0, slots := 0, locals := 166 }
abbrev C_X11_loadMany (l : Launch) (r : St) (L : Nat → Nat → Int64) (V : XJ) : Prop := XC l yX11_loadMany.cls yX11_loadMany.name cX11_loadMany 7 R_X11_loadMany 0 0 fl_X11 kc_X11 LAY.length (xfin none LAY (P_X11_loadMany r L)) V
def f_X11_loadMany_99 (rec : Int32 → Int32 → Int32 → Int32 → Int32 → Int32 → St → St) (x1 : Int32) (x2 : Int32) (x3 : Int32) (x4 : Int32) (x5 : Int32) (x6 : Int32) (M : St) : St := rec x1 x2 x3 x4 x5 (x6 + 1) M
def f_X11_loadMany_53 : Nat → Int32 → Int32 → Int32 → Int32 → Int32 → Int32 → St → St
  | 0, x1, x2, x3, x4, x5, x6, M => M
  | n + 1, x1, x2, x3, x4, x5, x6, M => (if 16 ≤ x6 then (if (x2 >>> ((3 : Int32) &&& 31)) = 3 then (xup M 15 x4.toNatClampNeg x5) else M) else (if ((x3 >>> (x6 &&& 31)) &&& 1) = 0 then f_X11_loadMany_99 (f_X11_loadMany_53 n) x1 x2 x3 x4 x5 x6 M else (xb (f_X11_read x5 x1 1 M) fun q20 => f_X11_loadMany_99 (f_X11_loadMany_53 n) x1 x2 x3 x4 (x5 + ((1 : Int32) <<< (x1 &&& 31))) x6 (xup q20.2 15 x6.toNatClampNeg (f_X11_extend q20.1 x1)))))
def f_X11_loadMany_48 (x1 : Int32) (x2 : Int32) (x3 : Int32) (x4 : Int32) (s0 : Int32) (M : St) : St := f_X11_loadMany_53 ((((16 : Int32)).toInt - (0 : Int32).toInt).toNat + 1) x1 x2 x3 x4 s0 0 M
def f_X11_loadMany_27 (x1 : Int32) (x2 : Int32) (x3 : Int32) (x4 : Int32) (M : St) : St := (if (x2 >>> ((3 : Int32) &&& 31)) = 3 then f_X11_loadMany_48 x1 x2 x3 x4 (M 15 x4.toNatClampNeg) M else f_X11_loadMany_48 x1 x2 x3 x4 (M 14 26) M)
def f_X11_loadMany (a1 : Int32) (a2 : Int32) (M : St) : St := (xb (f_X11_fetch  M) fun q1 => (if (a2 >>> ((3 : Int32) &&& 31)) = 3 then f_X11_loadMany_27 a1 a2 q1.1 (8 + (a2 &&& 7)) q1.2 else (xb (f_X11_find a2 1 q1.2) fun q6 => f_X11_loadMany_27 a1 a2 q1.1 (8 + (a2 &&& 7)) q6)))
set_option maxRecDepth 20000 in
set_option maxHeartbeats 4000000 in
theorem b_X11_loadMany_99 {l : Launch} {L : Nat → Nat → Int64} {V : XJ} (r : St) (C : C_X11_loadMany l r L V) (n : Nat) (rec : Int32 → Int32 → Int32 → Int32 → Int32 → Int32 → St → St) (hrec : ∀ (x1 : Int32) (x2 : Int32) (x3 : Int32) (x4 : Int32) (x5 : Int32) (x6 : Int32) (M : St), xrg 0 63 x2 → xrg 8 15 x4 → xrg 0 16 x6 → Inv INVM M → (((16 : Int32)).toInt - x6.toInt).toNat < n → rec x1 x2 x3 x4 x5 x6 M = r → V 0 0 53 [(0, .ref 14), (1, .int x1), (2, .int x2), (3, .int x3), (4, .int x4), (5, .int x5), (6, .int x6)] [] LAY (M, L)) (x1 : Int32) (x2 : Int32) (x3 : Int32) (x4 : Int32) (x5 : Int32) (x6 : Int32) (M : St) (wx2 : xrg 0 63 x2) (wx4 : xrg 8 15 x4) (wx6 : xrg 0 15 x6) (hI : Inv INVM M) (hk : (((16 : Int32)).toInt - (x6 + 1).toInt).toNat < n) (h : f_X11_loadMany_99 rec x1 x2 x3 x4 x5 x6 M = r) : V 0 0 99 [(0, .ref 14), (1, .int x1), (2, .int x2), (3, .int x3), (4, .int x4), (5, .int x5), (6, .int x6)] [] LAY (M, L) := by
  unfold f_X11_loadMany_99 at h
  refine x_run C e_X11_loadMany_15 e_X11_loadMany_15_k (pc' := 102) (lv' := [(6, .int (x6 + 1)), (0, .ref 14), (1, .int x1), (2, .int x2), (3, .int x3), (4, .int x4), (5, .int x5)]) (st' := []) (σ' := (M, L)) rfl ⟨trivial, trivial⟩ ?_
  refine x_goto C (show decode cX11_loadMany 102 = .ok (.goto (-49), 3) from by decide +kernel) (tgt := 53) (by decide) ?_
  refine x_lv C [1, 2, 3, 4, 5, 6, 0] rfl ?_
  exact hrec x1 x2 x3 x4 x5 (x6 + 1) M wx2 wx4 (x_rgw (x_rg_add wx6 (x_rgc (x := 1) (k := 1) (by decide)) (by decide) (by decide)) (lo' := 0) (hi' := 16) (by decide) (by decide)) hI (hk) h
set_option maxRecDepth 20000 in
set_option maxHeartbeats 4000000 in
theorem b_X11_loadMany_53 {l : Launch} {L : Nat → Nat → Int64} {V : XJ} (r : St) (C : C_X11_loadMany l r L V) : ∀ (n : Nat) (x1 : Int32) (x2 : Int32) (x3 : Int32) (x4 : Int32) (x5 : Int32) (x6 : Int32) (M : St), xrg 0 63 x2 → xrg 8 15 x4 → xrg 0 16 x6 → Inv INVM M → (((16 : Int32)).toInt - x6.toInt).toNat < n → f_X11_loadMany_53 n x1 x2 x3 x4 x5 x6 M = r → V 0 0 53 [(0, .ref 14), (1, .int x1), (2, .int x2), (3, .int x3), (4, .int x4), (5, .int x5), (6, .int x6)] [] LAY (M, L) := by
  intro n
  induction n with
  | zero => intro x1 x2 x3 x4 x5 x6 M  wx2 wx4 wx6 hI hm; exact absurd hm (Nat.not_lt_zero _)
  | succ n ih =>
    intro x1 x2 x3 x4 x5 x6 M  wx2 wx4 wx6 hI hm h
    unfold f_X11_loadMany_53 at h
    refine x_run C e_X11_loadMany_8 e_X11_loadMany_8_k (pc' := 57) (lv' := [(0, .ref 14), (1, .int x1), (2, .int x2), (3, .int x3), (4, .int x4), (5, .int x5), (6, .int x6)]) (st' := [.int 16, .int x6]) (σ' := (M, L)) rfl ⟨trivial, trivial, trivial⟩ ?_
    refine x_icmp_ge C (show decode cX11_loadMany 57 = .ok (.if_icmp .ge 48, 3) from by decide +kernel) (tgt := 105) (by decide) (fun c11 => ?_) (fun c11 => ?_)
    · rw [if_pos c11] at h
      have g12 : xrg 16 16 x6 := (x_c_le (x_rgc (x := 16) (k := 16) (by decide)) wx6 c11).2
      refine x_run C e_X11_loadMany_9 e_X11_loadMany_9_k (pc' := 109) (lv' := [(0, .ref 14), (1, .int x1), (2, .int x2), (3, .int x3), (4, .int x4), (5, .int x5), (6, .int x6)]) (st' := [.int 3, .int (x2 >>> ((3 : Int32) &&& 31))]) (σ' := (M, L)) rfl ⟨trivial, trivial, trivial, trivial, trivial⟩ ?_
      refine x_icmp_ne C (show decode cX11_loadMany 109 = .ok (.if_icmp .ne 12, 3) from by decide +kernel) (tgt := 121) (by decide) (fun c13 => ?_) (fun c13 => ?_)
      · rw [if_neg c13] at h
        subst h
        exact x_vret C (show decode cX11_loadMany 121 = .ok (.return_, 1) from by decide +kernel) (x_finV ⟨⟨rfl, rfl⟩, hI⟩) (Nat.le_refl 0) (Nat.le_refl 0)
      · rw [if_pos c13] at h
        have g14 : xrg 3 3 (x2 >>> ((3 : Int32) &&& 31)) := (x_c_eq (x_rgt (x2 >>> ((3 : Int32) &&& 31))) (x_rgc (x := 3) (k := 3) (by decide)) c13).1
        refine x_run C e_X11_loadMany_10 e_X11_loadMany_10_k (pc' := 121) (lv' := [(0, .ref 14), (1, .int x1), (2, .int x2), (3, .int x3), (4, .int x4), (5, .int x5), (6, .int x6)]) (st' := []) (σ' := ((xup M 15 x4.toNatClampNeg x5), L)) rfl ⟨trivial, trivial, trivial, trivial, (x_rgv wx4 (by decide) (by decide)), trivial⟩ ?_
        have hI15 : Inv INVM (xup M 15 x4.toNatClampNeg x5) := (hI.arr 15 (x4.toNatClampNeg) x5 (by decide))
        subst h
        exact x_vret C (show decode cX11_loadMany 121 = .ok (.return_, 1) from by decide +kernel) (x_finV ⟨⟨rfl, rfl⟩, hI15⟩) (Nat.le_refl 0) (Nat.le_refl 0)
    · rw [if_neg c11] at h
      have g16 : xrg 0 15 x6 := (x_c_nle (x_rgc (x := 16) (k := 16) (by decide)) wx6 c11).2
      have hk17 := x_meas (x_nle c11) hm
      refine x_run C e_X11_loadMany_11 e_X11_loadMany_11_k (pc' := 66) (lv' := [(0, .ref 14), (1, .int x1), (2, .int x2), (3, .int x3), (4, .int x4), (5, .int x5), (6, .int x6)]) (st' := [.int ((x3 >>> (x6 &&& 31)) &&& 1)]) (σ' := (M, L)) rfl ⟨trivial, trivial, trivial, trivial, trivial, trivial⟩ ?_
      refine x_if_ne C (show decode cX11_loadMany 66 = .ok (.ifCond .ne 6, 3) from by decide +kernel) (tgt := 72) (by decide) (fun c18 => ?_) (fun c18 => ?_)
      · rw [if_neg c18] at h
        have g19 : xrg 1 1 ((x3 >>> (x6 &&& 31)) &&& 1) := (x_c_ne (x_rg_and (x := (x3 >>> (x6 &&& 31))) (m := 1) (k := 1) (by decide) (by decide)) (by decide) c18)
        refine x_run C e_X11_loadMany_12 e_X11_loadMany_12_k (pc' := 83) (lv' := [(0, .ref 14), (1, .int x1), (2, .int x2), (3, .int x3), (4, .int x4), (5, .int x5), (6, .int x6)]) (st' := [.int 1, .int x1, .int x5, .ref 14, .int x6, .ref 15]) (σ' := (M, L)) rfl ⟨trivial, trivial, trivial, trivial, trivial, trivial, trivial, trivial⟩ ?_
        refine x_callV C (k := 14) (ci := 8) (rest := [.int x6, .ref 15]) (avs := [.int x5, .int x1, .int 1]) (k_X11_read l x5 x1 1 M L hI) yoX11_read ml_X11_95 rfl rfl rfl rfl ⟨Nat.zero_le _, Nat.zero_le _⟩ (show decode cX11_loadMany 83 = .ok (.invokevirtual 95, 3) from by decide +kernel) rfl (fun v σ' hPo => ?_)
        obtain ⟨⟨rfl, rfl⟩, g21, hI22⟩ := hPo
        generalize hq20 : f_X11_read x5 x1 1 M = q20 at h g21 hI22 ⊢
        obtain ⟨r20, M20⟩ := q20
        have h := xb_eq h
        try dsimp only at h g21 hI22
        show V 0 0 86 [(0, .ref 14), (1, .int x1), (2, .int x2), (3, .int x3), (4, .int x4), (5, .int x5), (6, .int x6)] [.int r20, .int x6, .ref 15] LAY (M20, L)
        refine x_run C e_X11_loadMany_13 e_X11_loadMany_13_k (pc' := 87) (lv' := [(0, .ref 14), (1, .int x1), (2, .int x2), (3, .int x3), (4, .int x4), (5, .int x5), (6, .int x6)]) (st' := [.int x1, .int r20, .int x6, .ref 15]) (σ' := (M20, L)) rfl ⟨trivial, trivial⟩ ?_
        refine x_callS C (rest := [.int x6, .ref 15]) (avs := [.int r20, .int x1]) (k_X11_extend l r20 x1 M20 L) yoX11_extend ml_X11_131 rfl ⟨Nat.zero_le _, Nat.zero_le _⟩ (show decode cX11_loadMany 87 = .ok (.invokestatic 131, 3) from by decide +kernel) rfl (fun v σ' hPo => ?_)
        obtain ⟨⟨rfl, rfl⟩, g24, -⟩ := hPo
        show V 0 0 90 [(0, .ref 14), (1, .int x1), (2, .int x2), (3, .int x3), (4, .int x4), (5, .int x5), (6, .int x6)] [.int (f_X11_extend r20 x1), .int x6, .ref 15] LAY (M20, L)
        refine x_run C e_X11_loadMany_14 e_X11_loadMany_14_k (pc' := 99) (lv' := [(5, .int (x5 + ((1 : Int32) <<< (x1 &&& 31)))), (0, .ref 14), (1, .int x1), (2, .int x2), (3, .int x3), (4, .int x4), (6, .int x6)]) (st' := []) (σ' := ((xup M20 15 x6.toNatClampNeg (f_X11_extend r20 x1)), L)) rfl ⟨(x_rgv g16 (by decide) (by decide)), trivial, trivial, trivial, trivial, trivial, trivial, trivial⟩ ?_
        have hI26 : Inv INVM (xup M20 15 x6.toNatClampNeg (f_X11_extend r20 x1)) := (hI22.arr 15 (x6.toNatClampNeg) (f_X11_extend r20 x1) (by decide))
        refine x_lv C [1, 2, 3, 4, 5, 0, 6] rfl ?_
        exact b_X11_loadMany_99 r C n (f_X11_loadMany_53 n) ih x1 x2 x3 x4 (x5 + ((1 : Int32) <<< (x1 &&& 31))) x6 (xup M20 15 x6.toNatClampNeg (f_X11_extend r20 x1)) wx2 wx4 g16 hI26 (hk17) h
      · rw [if_pos c18] at h
        have g27 : xrg 0 0 ((x3 >>> (x6 &&& 31)) &&& 1) := (x_c_eq (x_rg_and (x := (x3 >>> (x6 &&& 31))) (m := 1) (k := 1) (by decide) (by decide)) (x_rgc (x := 0) (k := 0) (by decide)) c18).1
        refine x_goto C (show decode cX11_loadMany 69 = .ok (.goto 30, 3) from by decide +kernel) (tgt := 99) (by decide) ?_
        exact b_X11_loadMany_99 r C n (f_X11_loadMany_53 n) ih x1 x2 x3 x4 x5 x6 M wx2 wx4 g16 hI (hk17) h
set_option maxRecDepth 20000 in
set_option maxHeartbeats 4000000 in
theorem b_X11_loadMany_48 {l : Launch} {L : Nat → Nat → Int64} {V : XJ} (r : St) (C : C_X11_loadMany l r L V) (x1 : Int32) (x2 : Int32) (x3 : Int32) (x4 : Int32) (s0 : Int32) (M : St) (wx2 : xrg 0 63 x2) (wx4 : xrg 8 15 x4) (hI : Inv INVM M) (h : f_X11_loadMany_48 x1 x2 x3 x4 s0 M = r) : V 0 0 48 [(0, .ref 14), (1, .int x1), (2, .int x2), (3, .int x3), (4, .int x4)] [.int s0] LAY (M, L) := by
  unfold f_X11_loadMany_48 at h
  refine x_run C e_X11_loadMany_7 e_X11_loadMany_7_k (pc' := 53) (lv' := [(6, .int 0), (5, .int s0), (0, .ref 14), (1, .int x1), (2, .int x2), (3, .int x3), (4, .int x4)]) (st' := []) (σ' := (M, L)) rfl ⟨trivial, trivial, trivial, trivial⟩ ?_
  refine x_lv C [2, 3, 4, 5, 6, 1, 0] rfl ?_
  exact b_X11_loadMany_53 r C ((((16 : Int32)).toInt - (0 : Int32).toInt).toNat + 1) x1 x2 x3 x4 s0 0 M wx2 wx4 (x_rgw (x_rgc (x := 0) (k := 0) (by decide)) (lo' := 0) (hi' := 16) (by decide) (by decide)) hI (Nat.lt_succ_self _) h
set_option maxRecDepth 20000 in
set_option maxHeartbeats 4000000 in
theorem b_X11_loadMany_27 {l : Launch} {L : Nat → Nat → Int64} {V : XJ} (r : St) (C : C_X11_loadMany l r L V) (x1 : Int32) (x2 : Int32) (x3 : Int32) (x4 : Int32) (M : St) (wx2 : xrg 0 63 x2) (wx4 : xrg 8 15 x4) (hI : Inv INVM M) (h : f_X11_loadMany_27 x1 x2 x3 x4 M = r) : V 0 0 27 [(0, .ref 14), (1, .int x1), (2, .int x2), (3, .int x3), (4, .int x4)] [] LAY (M, L) := by
  unfold f_X11_loadMany_27 at h
  refine x_run C e_X11_loadMany_4 e_X11_loadMany_4_k (pc' := 31) (lv' := [(0, .ref 14), (1, .int x1), (2, .int x2), (3, .int x3), (4, .int x4)]) (st' := [.int 3, .int (x2 >>> ((3 : Int32) &&& 31))]) (σ' := (M, L)) rfl ⟨trivial, trivial, trivial, trivial, trivial⟩ ?_
  refine x_icmp_ne C (show decode cX11_loadMany 31 = .ok (.if_icmp .ne 13, 3) from by decide +kernel) (tgt := 44) (by decide) (fun c9 => ?_) (fun c9 => ?_)
  · rw [if_neg c9] at h
    refine x_run C e_X11_loadMany_5 e_X11_loadMany_5_k (pc' := 48) (lv' := [(0, .ref 14), (1, .int x1), (2, .int x2), (3, .int x3), (4, .int x4)]) (st' := [.int (M 14 26)]) (σ' := (M, L)) rfl ⟨trivial, trivial, trivial⟩ ?_
    exact b_X11_loadMany_48 r C x1 x2 x3 x4 (M 14 26) M wx2 wx4 hI h
  · rw [if_pos c9] at h
    have g10 : xrg 3 3 (x2 >>> ((3 : Int32) &&& 31)) := (x_c_eq (x_rgt (x2 >>> ((3 : Int32) &&& 31))) (x_rgc (x := 3) (k := 3) (by decide)) c9).1
    refine x_run C e_X11_loadMany_6 e_X11_loadMany_6_k (pc' := 41) (lv' := [(0, .ref 14), (1, .int x1), (2, .int x2), (3, .int x3), (4, .int x4)]) (st' := [.int (M 15 x4.toNatClampNeg)]) (σ' := (M, L)) rfl ⟨trivial, trivial, trivial, (x_rgv wx4 (by decide) (by decide)), trivial⟩ ?_
    refine x_goto C (show decode cX11_loadMany 41 = .ok (.goto 7, 3) from by decide +kernel) (tgt := 48) (by decide) ?_
    exact b_X11_loadMany_48 r C x1 x2 x3 x4 (M 15 x4.toNatClampNeg) M wx2 wx4 hI h
set_option maxRecDepth 20000 in
set_option maxHeartbeats 4000000 in
theorem k_X11_loadMany (l : Launch) (a1 : Int32) (a2 : Int32) (M : St) (L : Nat → Nat → Int64) (hp2 : xrg 0 63 a2) (hI : Inv INVM M) : XM l yX11_loadMany cX11_loadMany 7 none R_X11_loadMany LAY [.ref 14, .int a1, .int a2] (M, L) (P_X11_loadMany (f_X11_loadMany a1 a2 M) L) := by
  refine XM.of (by decide) (Nat.le_of_ble_eq_true rfl) LAY_in cl_ok fl_X11_ok kc_X11_ok (fun V C => ?_)
  obtain ⟨r, h⟩ : ∃ r, f_X11_loadMany a1 a2 M = r := ⟨_, rfl⟩
  rw [h] at C
  change C_X11_loadMany l r L V at C
  unfold f_X11_loadMany at h
  show V 0 0 0 [(0, .ref 14), (1, .int a1), (2, .int a2)] [] LAY (M, L)
  refine x_run C e_X11_loadMany_1 e_X11_loadMany_1_k (pc' := 1) (lv' := [(0, .ref 14), (1, .int a1), (2, .int a2)]) (st' := [.ref 14]) (σ' := (M, L)) rfl ⟨trivial, trivial⟩ ?_
  refine x_callV C (k := 14) (ci := 8) (rest := []) (avs := []) (k_X11_fetch l  M L hI) yoX11_fetch ml_X11_103 rfl rfl rfl rfl ⟨Nat.zero_le _, Nat.zero_le _⟩ (show decode cX11_loadMany 1 = .ok (.invokevirtual 103, 3) from by decide +kernel) rfl (fun v σ' hPo => ?_)
  obtain ⟨⟨rfl, rfl⟩, g2, hI3⟩ := hPo
  generalize hq1 : f_X11_fetch  M = q1 at h g2 hI3 ⊢
  obtain ⟨r1, M1⟩ := q1
  have h := xb_eq h
  try dsimp only at h g2 hI3
  show V 0 0 4 [(0, .ref 14), (1, .int a1), (2, .int a2)] [.int r1] LAY (M1, L)
  refine x_run C e_X11_loadMany_2 e_X11_loadMany_2_k (pc' := 18) (lv' := [(4, .int (8 + (a2 &&& 7))), (3, .int r1), (0, .ref 14), (1, .int a1), (2, .int a2)]) (st' := [.int 3, .int (a2 >>> ((3 : Int32) &&& 31))]) (σ' := (M1, L)) rfl ⟨trivial, trivial, trivial, trivial, trivial, trivial, trivial, trivial, trivial, trivial, trivial, trivial⟩ ?_
  refine x_icmp_eq C (show decode cX11_loadMany 18 = .ok (.if_icmp .eq 9, 3) from by decide +kernel) (tgt := 27) (by decide) (fun c4 => ?_) (fun c4 => ?_)
  · rw [if_pos c4] at h
    have g5 : xrg 3 3 (a2 >>> ((3 : Int32) &&& 31)) := (x_c_eq (x_rgt (a2 >>> ((3 : Int32) &&& 31))) (x_rgc (x := 3) (k := 3) (by decide)) c4).1
    refine x_lv C [2, 3, 4, 1, 0] rfl ?_
    exact b_X11_loadMany_27 r C a1 a2 r1 (8 + (a2 &&& 7)) M1 hp2 (x_rg_add (x_rgc (x := 8) (k := 8) (by decide)) (x_rg_and (x := a2) (m := 7) (k := 7) (by decide) (by decide)) (by decide) (by decide)) hI3 h
  · rw [if_neg c4] at h
    refine x_run C e_X11_loadMany_3 e_X11_loadMany_3_k (pc' := 24) (lv' := [(4, .int (8 + (a2 &&& 7))), (3, .int r1), (0, .ref 14), (1, .int a1), (2, .int a2)]) (st' := [.int 1, .int a2, .ref 14]) (σ' := (M1, L)) rfl ⟨trivial, trivial, trivial, trivial⟩ ?_
    refine x_callV C (k := 14) (ci := 8) (rest := []) (avs := [.int a2, .int 1]) (k_X11_find l a2 1 M1 L hI3) yoX11_find ml_X11_125 rfl rfl rfl rfl ⟨Nat.zero_le _, Nat.zero_le _⟩ (show decode cX11_loadMany 24 = .ok (.invokevirtual 125, 3) from by decide +kernel) rfl (fun v σ' hPo => ?_)
    obtain ⟨⟨rfl, rfl⟩, hI8⟩ := hPo
    generalize hq6 : f_X11_find a2 1 M1 = q6 at h hI8 ⊢
    have h := xb_eq h
    show V 0 0 27 [(4, .int (8 + (a2 &&& 7))), (3, .int r1), (0, .ref 14), (1, .int a1), (2, .int a2)] [] LAY (q6, L)
    refine x_lv C [2, 3, 4, 1, 0] rfl ?_
    exact b_X11_loadMany_27 r C a1 a2 r1 (8 + (a2 &&& 7)) q6 hp2 (x_rg_add (x_rgc (x := 8) (k := 8) (by decide)) (x_rg_and (x := a2) (m := 7) (k := 7) (by decide) (by decide)) (by decide) (by decide)) hI8 h
-- X11_pull
def e_X11_pull_1 : List xI := [(0, .aload_n 0, 1, .null), (1, .aload_n 0, 1, .null), (2, .getfield 7, 3, .null), (5, .bipush 15, 2, .int 15), (7, .iaload, 1, .null), (8, .iload_n 1, 1, .null), (9, .iconst 1, 1, .int 1)]
theorem e_X11_pull_1_k : e_X11_pull_1.all (fun q => xokB cX11_pull q && xokL q) = true := by decide +kernel
def e_X11_pull_2 : List xI := [(13, .istore_n 2, 1, .null), (14, .aload_n 0, 1, .null), (15, .getfield 7, 3, .null), (18, .bipush 15, 2, .int 15), (20, .dup2, 1, .null), (21, .iaload, 1, .null), (22, .iconst 1, 1, .int 1), (23, .iload_n 1, 1, .null), (24, .ishl, 1, .null), (25, .iadd, 1, .null), (26, .iastore, 1, .null), (27, .iload_n 2, 1, .null)]
theorem e_X11_pull_2_k : e_X11_pull_2.all (fun q => xokB cX11_pull q && xokL q) = true := by decide +kernel
abbrev P_X11_pull (r : Int32 × St) (L : Nat → Nat → Int64) : Option Value → xG → Prop := fun v σ' => PoI r.1 r.2 L v σ' ∧ True ∧ Inv INVM r.2
abbrev R_X11_pull : Room := { frames := 3, cells := 0, slots := 0, locals := 74 }
abbrev C_X11_pull (l : Launch) (r : Int32 × St) (L : Nat → Nat → Int64) (V : XJ) : Prop := XC l yX11_pull.cls yX11_pull.name cX11_pull 3 R_X11_pull 0 0 fl_X11 kc_X11 LAY.length (xfin (some .int) LAY (P_X11_pull r L)) V
def f_X11_pull (a1 : Int32) (M : St) : Int32 × St := (xb (f_X11_read (M 15 15) a1 1 M) fun q1 => (q1.1, (xup q1.2 15 15 ((q1.2 15 15) + ((1 : Int32) <<< (a1 &&& 31))))))
set_option maxRecDepth 20000 in
set_option maxHeartbeats 4000000 in
theorem k_X11_pull (l : Launch) (a1 : Int32) (M : St) (L : Nat → Nat → Int64) (hI : Inv INVM M) : XM l yX11_pull cX11_pull 3 (some .int) R_X11_pull LAY [.ref 14, .int a1] (M, L) (P_X11_pull (f_X11_pull a1 M) L) := by
  refine XM.of (by decide) (Nat.le_of_ble_eq_true rfl) LAY_in cl_ok fl_X11_ok kc_X11_ok (fun V C => ?_)
  obtain ⟨r, h⟩ : ∃ r, f_X11_pull a1 M = r := ⟨_, rfl⟩
  rw [h] at C
  change C_X11_pull l r L V at C
  unfold f_X11_pull at h
  show V 0 0 0 [(0, .ref 14), (1, .int a1)] [] LAY (M, L)
  refine x_run C e_X11_pull_1 e_X11_pull_1_k (pc' := 10) (lv' := [(0, .ref 14), (1, .int a1)]) (st' := [.int 1, .int a1, .int (M 15 15), .ref 14]) (σ' := (M, L)) rfl ⟨trivial, trivial, trivial, trivial, (x_rgv (x_rgc (x := 15) (k := 15) (by decide)) (by decide) (by decide)), trivial, trivial, trivial⟩ ?_
  refine x_callV C (k := 14) (ci := 8) (rest := []) (avs := [.int (M 15 15), .int a1, .int 1]) (k_X11_read l (M 15 15) a1 1 M L hI) yoX11_read ml_X11_95 rfl rfl rfl rfl ⟨Nat.zero_le _, Nat.zero_le _⟩ (show decode cX11_pull 10 = .ok (.invokevirtual 95, 3) from by decide +kernel) rfl (fun v σ' hPo => ?_)
  obtain ⟨⟨rfl, rfl⟩, g2, hI3⟩ := hPo
  generalize hq1 : f_X11_read (M 15 15) a1 1 M = q1 at h g2 hI3 ⊢
  obtain ⟨r1, M1⟩ := q1
  have h := xb_eq h
  try dsimp only at h g2 hI3
  show V 0 0 13 [(0, .ref 14), (1, .int a1)] [.int r1] LAY (M1, L)
  refine x_run C e_X11_pull_2 e_X11_pull_2_k (pc' := 28) (lv' := [(2, .int r1), (0, .ref 14), (1, .int a1)]) (st' := [.int r1]) (σ' := ((xup M1 15 15 ((M1 15 15) + ((1 : Int32) <<< (a1 &&& 31)))), L)) rfl ⟨trivial, trivial, trivial, trivial, trivial, (x_rgv (x_rgc (x := 15) (k := 15) (by decide)) (by decide) (by decide)), trivial, trivial, trivial, trivial, (x_rgv (x_rgc (x := 15) (k := 15) (by decide)) (by decide) (by decide)), trivial, trivial⟩ ?_
  have hI4 : Inv INVM (xup M1 15 15 ((M1 15 15) + ((1 : Int32) <<< (a1 &&& 31)))) := (hI3.arr 15 15 ((M1 15 15) + ((1 : Int32) <<< (a1 &&& 31))) (by decide))
  subst h
  exact x_iret C (show decode cX11_pull 28 = .ok (.ireturn, 1) from by decide +kernel) (x_finI rfl ⟨⟨rfl, rfl⟩, trivial, hI4⟩) (Nat.le_refl 0) (Nat.le_refl 0)
-- X11_rest
def e_X11_rest_1 : List xI := [(0, .iload_n 1, 1, .null), (1, .bipush 48, 2, .int 48)]
theorem e_X11_rest_1_k : e_X11_rest_1.all (fun q => xokB cX11_rest q && xokL q) = true := by decide +kernel
def e_X11_rest_2 : List xI := [(6, .aload_n 0, 1, .null), (7, .iconst 0, 1, .int 0), (8, .putfield 70, 3, .null), (11, .aload_n 0, 1, .null), (12, .iconst 0, 1, .int 0), (13, .putfield 73, 3, .null), (16, .aload_n 0, 1, .null), (17, .iconst 0, 1, .int 0), (18, .putfield 76, 3, .null)]
theorem e_X11_rest_2_k : e_X11_rest_2.all (fun q => xokB cX11_rest q && xokL q) = true := by decide +kernel
def e_X11_rest_3 : List xI := [(21, .iload_n 1, 1, .null), (22, .bipush 50, 2, .int 50)]
theorem e_X11_rest_3_k : e_X11_rest_3.all (fun q => xokB cX11_rest q && xokL q) = true := by decide +kernel
def e_X11_rest_4 : List xI := [(27, .aload_n 0, 1, .null), (28, .aload_n 0, 1, .null)]
theorem e_X11_rest_4_k : e_X11_rest_4.all (fun q => xokB cX11_rest q && xokL q) = true := by decide +kernel
def e_X11_rest_5 : List xI := [(35, .aload_n 0, 1, .null), (36, .iconst 1, 1, .int 1), (37, .putfield 237, 3, .null)]
theorem e_X11_rest_5_k : e_X11_rest_5.all (fun q => xokB cX11_rest q && xokL q) = true := by decide +kernel
def e_X11_rest_6 : List xI := [(40, .iload_n 1, 1, .null), (41, .bipush 51, 2, .int 51)]
theorem e_X11_rest_6_k : e_X11_rest_6.all (fun q => xokB cX11_rest q && xokL q) = true := by decide +kernel
def e_X11_rest_7 : List xI := [(46, .iload_n 1, 1, .null), (47, .bipush 55, 2, .int 55)]
theorem e_X11_rest_7_k : e_X11_rest_7.all (fun q => xokB cX11_rest q && xokL q) = true := by decide +kernel
def e_X11_rest_8 : List xI := [(52, .aload_n 0, 1, .null), (53, .iconst 1, 1, .int 1)]
theorem e_X11_rest_8_k : e_X11_rest_8.all (fun q => xokB cX11_rest q && xokL q) = true := by decide +kernel
def e_X11_rest_9 : List xI := [(57, .istore_n 2, 1, .null), (58, .aload_n 0, 1, .null), (59, .iconst 2, 1, .int 2)]
theorem e_X11_rest_9_k : e_X11_rest_9.all (fun q => xokB cX11_rest q && xokL q) = true := by decide +kernel
def e_X11_rest_10 : List xI := [(63, .istore_n 3, 1, .null), (64, .iload_n 1, 1, .null), (65, .bipush 51, 2, .int 51)]
theorem e_X11_rest_10_k : e_X11_rest_10.all (fun q => xokB cX11_rest q && xokL q) = true := by decide +kernel
def e_X11_rest_11 : List xI := [(78, .aload_n 0, 1, .null), (79, .aload_n 0, 1, .null), (80, .getfield 13, 3, .null), (83, .bipush (-32), 2, .int (-32)), (85, .iand, 1, .null), (86, .iload_n 2, 1, .null), (87, .bipush 31, 2, .int 31), (89, .iand, 1, .null), (90, .ior, 1, .null), (91, .putfield 13, 3, .null)]
theorem e_X11_rest_11_k : e_X11_rest_11.all (fun q => xokB cX11_rest q && xokL q) = true := by decide +kernel
def e_X11_rest_12 : List xI := [(70, .aload_n 0, 1, .null), (71, .iload_n 2, 1, .null)]
theorem e_X11_rest_12_k : e_X11_rest_12.all (fun q => xokB cX11_rest q && xokL q) = true := by decide +kernel
def e_X11_rest_13 : List xI := [(102, .iload_n 1, 1, .null), (103, .bipush 53, 2, .int 53)]
theorem e_X11_rest_13_k : e_X11_rest_13.all (fun q => xokB cX11_rest q && xokL q) = true := by decide +kernel
def e_X11_rest_14 : List xI := [(108, .aload_n 0, 1, .null), (109, .getfield 7, 3, .null), (112, .bipush 17, 2, .int 17), (114, .aload_n 0, 1, .null), (115, .iconst 2, 1, .int 2)]
theorem e_X11_rest_14_k : e_X11_rest_14.all (fun q => xokB cX11_rest q && xokL q) = true := by decide +kernel
def e_X11_rest_15 : List xI := [(119, .iastore, 1, .null)]
theorem e_X11_rest_15_k : e_X11_rest_15.all (fun q => xokB cX11_rest q && xokL q) = true := by decide +kernel
def e_X11_rest_16 : List xI := [(94, .aload_n 0, 1, .null), (95, .getfield 7, 3, .null), (98, .bipush 17, 2, .int 17), (100, .iload_n 3, 1, .null), (101, .iastore, 1, .null)]
theorem e_X11_rest_16_k : e_X11_rest_16.all (fun q => xokB cX11_rest q && xokL q) = true := by decide +kernel
def e_X11_rest_17 : List xI := [(120, .iload_n 1, 1, .null), (121, .bipush 54, 2, .int 54)]
theorem e_X11_rest_17_k : e_X11_rest_17.all (fun q => xokB cX11_rest q && xokL q) = true := by decide +kernel
def e_X11_rest_18 : List xI := [(126, .aload_n 0, 1, .null), (127, .iconst 2, 1, .int 2)]
theorem e_X11_rest_18_k : e_X11_rest_18.all (fun q => xokB cX11_rest q && xokL q) = true := by decide +kernel
def e_X11_rest_19 : List xI := [(134, .aload_n 0, 1, .null), (135, .bipush 7, 2, .int 7), (137, .putfield 228, 3, .null)]
theorem e_X11_rest_19_k : e_X11_rest_19.all (fun q => xokB cX11_rest q && xokL q) = true := by decide +kernel
abbrev P_X11_rest (r : St) (L : Nat → Nat → Int64) : Option Value → xG → Prop := fun v σ' => PoV r L v σ' ∧ Inv INVM r
abbrev R_X11_rest : Room := { frames := 4, cells := 0, slots := 0, locals := 96 }
abbrev C_X11_rest (l : Launch) (r : St) (L : Nat → Nat → Int64) (V : XJ) : Prop := XC l yX11_rest.cls yX11_rest.name cX11_rest 4 R_X11_rest 0 0 fl_X11 kc_X11 LAY.length (xfin none LAY (P_X11_rest r L)) V
def f_X11_rest_120 (x1 : Int32) (M : St) : St := (if x1 = 54 then (if (f_X11_has 2 M) = 0 then M else (xup M 14 23 7)) else M)
def f_X11_rest_102 (x1 : Int32) (M : St) : St := (if x1 = 53 then (xb (f_X11_pull 2 M) fun q32 => f_X11_rest_120 x1 (xup q32.2 15 17 q32.1)) else f_X11_rest_120 x1 M)
def f_X11_rest_94 (x1 : Int32) (x3 : Int32) (M : St) : St := f_X11_rest_102 x1 (xup M 15 17 x3)
def f_X11_rest_52 (x1 : Int32) (M : St) : St := (xb (f_X11_pull 1 M) fun q17 => (xb (f_X11_pull 2 q17.2) fun q20 => (if x1 = 51 then (xb (f_X11_setStatus q17.1 q20.2) fun q27 => f_X11_rest_94 x1 q20.1 q27) else f_X11_rest_94 x1 q20.1 (xup q20.2 14 2 (((q20.2 14 2) &&& (-32)) ||| (q17.1 &&& 31))))))
def f_X11_rest_40 (x1 : Int32) (M : St) : St := (if x1 = 51 then f_X11_rest_52 x1 M else (if x1 = 55 then f_X11_rest_52 x1 M else f_X11_rest_102 x1 M))
def f_X11_rest_21 (x1 : Int32) (M : St) : St := (if x1 = 50 then (xb (f_X11_fetch  M) fun q6 => (xb (f_X11_setStatus q6.1 q6.2) fun q9 => f_X11_rest_40 x1 (xup q9 14 24 1))) else f_X11_rest_40 x1 M)
def f_X11_rest (a1 : Int32) (M : St) : St := (if a1 = 48 then f_X11_rest_21 a1 (xup (xup (xup M 14 9 0) 14 10 0) 14 11 0) else f_X11_rest_21 a1 M)
set_option maxRecDepth 20000 in
set_option maxHeartbeats 4000000 in
theorem b_X11_rest_120 {l : Launch} {L : Nat → Nat → Int64} {V : XJ} (r : St) (C : C_X11_rest l r L V) (x1 : Int32) (M : St) (wx1 : xrg 0 63 x1) (hI : Inv INVM M) (h : f_X11_rest_120 x1 M = r) : V 0 0 120 [(0, .ref 14), (1, .int x1)] [] LAY (M, L) := by
  unfold f_X11_rest_120 at h
  refine x_run C e_X11_rest_17 e_X11_rest_17_k (pc' := 123) (lv' := [(0, .ref 14), (1, .int x1)]) (st' := [.int 54, .int x1]) (σ' := (M, L)) rfl ⟨trivial, trivial, trivial⟩ ?_
  refine x_icmp_ne C (show decode cX11_rest 123 = .ok (.if_icmp .ne 17, 3) from by decide +kernel) (tgt := 140) (by decide) (fun c37 => ?_) (fun c37 => ?_)
  · rw [if_neg c37] at h
    subst h
    exact x_vret C (show decode cX11_rest 140 = .ok (.return_, 1) from by decide +kernel) (x_finV ⟨⟨rfl, rfl⟩, hI⟩) (Nat.le_refl 0) (Nat.le_refl 0)
  · rw [if_pos c37] at h
    have g38 : xrg 54 54 x1 := (x_c_eq wx1 (x_rgc (x := 54) (k := 54) (by decide)) c37).1
    refine x_run C e_X11_rest_18 e_X11_rest_18_k (pc' := 128) (lv' := [(0, .ref 14), (1, .int x1)]) (st' := [.int 2, .ref 14]) (σ' := (M, L)) rfl ⟨trivial, trivial, trivial⟩ ?_
    refine x_callV C (k := 14) (ci := 8) (rest := []) (avs := [.int 2]) (k_X11_has l 2 M L hI) yoX11_has ml_X11_55 rfl rfl rfl rfl ⟨Nat.zero_le _, Nat.zero_le _⟩ (show decode cX11_rest 128 = .ok (.invokevirtual 55, 3) from by decide +kernel) rfl (fun v σ' hPo => ?_)
    obtain ⟨⟨rfl, rfl⟩, g40, hI41⟩ := hPo
    show V 0 0 131 [(0, .ref 14), (1, .int x1)] [.int (f_X11_has 2 M)] LAY (M, L)
    refine x_if_eq C (show decode cX11_rest 131 = .ok (.ifCond .eq 9, 3) from by decide +kernel) (tgt := 140) (by decide) (fun c42 => ?_) (fun c42 => ?_)
    · rw [if_pos c42] at h
      have g43 : xrg 0 0 (f_X11_has 2 M) := (x_c_eq g40 (x_rgc (x := 0) (k := 0) (by decide)) c42).1
      subst h
      exact x_vret C (show decode cX11_rest 140 = .ok (.return_, 1) from by decide +kernel) (x_finV ⟨⟨rfl, rfl⟩, hI⟩) (Nat.le_refl 0) (Nat.le_refl 0)
    · rw [if_neg c42] at h
      have g44 : xrg 1 1 (f_X11_has 2 M) := (x_c_ne g40 (by decide) c42)
      refine x_run C e_X11_rest_19 e_X11_rest_19_k (pc' := 140) (lv' := [(0, .ref 14), (1, .int x1)]) (st' := []) (σ' := ((xup M 14 23 7), L)) rfl ⟨trivial, trivial, trivial, trivial⟩ ?_
      have hI45 : Inv INVM (xup M 14 23 7) := (hI.set 14 23 (x_rgc (x := 7) (k := 7) (by decide)) (by decide))
      subst h
      exact x_vret C (show decode cX11_rest 140 = .ok (.return_, 1) from by decide +kernel) (x_finV ⟨⟨rfl, rfl⟩, hI45⟩) (Nat.le_refl 0) (Nat.le_refl 0)
set_option maxRecDepth 20000 in
set_option maxHeartbeats 4000000 in
theorem b_X11_rest_102 {l : Launch} {L : Nat → Nat → Int64} {V : XJ} (r : St) (C : C_X11_rest l r L V) (x1 : Int32) (M : St) (wx1 : xrg 0 63 x1) (hI : Inv INVM M) (h : f_X11_rest_102 x1 M = r) : V 0 0 102 [(0, .ref 14), (1, .int x1)] [] LAY (M, L) := by
  unfold f_X11_rest_102 at h
  refine x_run C e_X11_rest_13 e_X11_rest_13_k (pc' := 105) (lv' := [(0, .ref 14), (1, .int x1)]) (st' := [.int 53, .int x1]) (σ' := (M, L)) rfl ⟨trivial, trivial, trivial⟩ ?_
  refine x_icmp_ne C (show decode cX11_rest 105 = .ok (.if_icmp .ne 15, 3) from by decide +kernel) (tgt := 120) (by decide) (fun c30 => ?_) (fun c30 => ?_)
  · rw [if_neg c30] at h
    exact b_X11_rest_120 r C x1 M wx1 hI h
  · rw [if_pos c30] at h
    have g31 : xrg 53 53 x1 := (x_c_eq wx1 (x_rgc (x := 53) (k := 53) (by decide)) c30).1
    refine x_run C e_X11_rest_14 e_X11_rest_14_k (pc' := 116) (lv' := [(0, .ref 14), (1, .int x1)]) (st' := [.int 2, .ref 14, .int 17, .ref 15]) (σ' := (M, L)) rfl ⟨trivial, trivial, trivial, trivial, trivial, trivial⟩ ?_
    refine x_callV C (k := 14) (ci := 8) (rest := [.int 17, .ref 15]) (avs := [.int 2]) (k_X11_pull l 2 M L hI) yoX11_pull ml_X11_231 rfl rfl rfl rfl ⟨Nat.zero_le _, Nat.zero_le _⟩ (show decode cX11_rest 116 = .ok (.invokevirtual 231, 3) from by decide +kernel) rfl (fun v σ' hPo => ?_)
    obtain ⟨⟨rfl, rfl⟩, g33, hI34⟩ := hPo
    generalize hq32 : f_X11_pull 2 M = q32 at h g33 hI34 ⊢
    obtain ⟨r32, M32⟩ := q32
    have h := xb_eq h
    try dsimp only at h g33 hI34
    show V 0 0 119 [(0, .ref 14), (1, .int x1)] [.int r32, .int 17, .ref 15] LAY (M32, L)
    refine x_run C e_X11_rest_15 e_X11_rest_15_k (pc' := 120) (lv' := [(0, .ref 14), (1, .int x1)]) (st' := []) (σ' := ((xup M32 15 17 r32), L)) rfl ⟨(x_rgv (x_rgc (x := 17) (k := 17) (by decide)) (by decide) (by decide)), trivial⟩ ?_
    have hI35 : Inv INVM (xup M32 15 17 r32) := (hI34.arr 15 17 r32 (by decide))
    exact b_X11_rest_120 r C x1 (xup M32 15 17 r32) (x_rgw g31 (lo' := 0) (hi' := 63) (by decide) (by decide)) hI35 h
set_option maxRecDepth 20000 in
set_option maxHeartbeats 4000000 in
theorem b_X11_rest_94 {l : Launch} {L : Nat → Nat → Int64} {V : XJ} (r : St) (C : C_X11_rest l r L V) (x1 : Int32) (x3 : Int32) (M : St) (wx1 : xrg 51 55 x1) (hI : Inv INVM M) (h : f_X11_rest_94 x1 x3 M = r) : V 0 0 94 [(0, .ref 14), (1, .int x1), (3, .int x3)] [] LAY (M, L) := by
  unfold f_X11_rest_94 at h
  refine x_run C e_X11_rest_16 e_X11_rest_16_k (pc' := 102) (lv' := [(0, .ref 14), (1, .int x1), (3, .int x3)]) (st' := []) (σ' := ((xup M 15 17 x3), L)) rfl ⟨trivial, trivial, trivial, trivial, (x_rgv (x_rgc (x := 17) (k := 17) (by decide)) (by decide) (by decide)), trivial⟩ ?_
  have hI36 : Inv INVM (xup M 15 17 x3) := (hI.arr 15 17 x3 (by decide))
  refine x_lv C [0, 1] rfl ?_
  exact b_X11_rest_102 r C x1 (xup M 15 17 x3) (x_rgw wx1 (lo' := 0) (hi' := 63) (by decide) (by decide)) hI36 h
set_option maxRecDepth 20000 in
set_option maxHeartbeats 4000000 in
theorem b_X11_rest_52 {l : Launch} {L : Nat → Nat → Int64} {V : XJ} (r : St) (C : C_X11_rest l r L V) (x1 : Int32) (M : St) (wx1 : xrg 51 55 x1) (hI : Inv INVM M) (h : f_X11_rest_52 x1 M = r) : V 0 0 52 [(0, .ref 14), (1, .int x1)] [] LAY (M, L) := by
  unfold f_X11_rest_52 at h
  refine x_run C e_X11_rest_8 e_X11_rest_8_k (pc' := 54) (lv' := [(0, .ref 14), (1, .int x1)]) (st' := [.int 1, .ref 14]) (σ' := (M, L)) rfl ⟨trivial, trivial, trivial⟩ ?_
  refine x_callV C (k := 14) (ci := 8) (rest := []) (avs := [.int 1]) (k_X11_pull l 1 M L hI) yoX11_pull ml_X11_231 rfl rfl rfl rfl ⟨Nat.zero_le _, Nat.zero_le _⟩ (show decode cX11_rest 54 = .ok (.invokevirtual 231, 3) from by decide +kernel) rfl (fun v σ' hPo => ?_)
  obtain ⟨⟨rfl, rfl⟩, g18, hI19⟩ := hPo
  generalize hq17 : f_X11_pull 1 M = q17 at h g18 hI19 ⊢
  obtain ⟨r17, M17⟩ := q17
  have h := xb_eq h
  try dsimp only at h g18 hI19
  show V 0 0 57 [(0, .ref 14), (1, .int x1)] [.int r17] LAY (M17, L)
  refine x_run C e_X11_rest_9 e_X11_rest_9_k (pc' := 60) (lv' := [(2, .int r17), (0, .ref 14), (1, .int x1)]) (st' := [.int 2, .ref 14]) (σ' := (M17, L)) rfl ⟨trivial, trivial, trivial, trivial⟩ ?_
  refine x_callV C (k := 14) (ci := 8) (rest := []) (avs := [.int 2]) (k_X11_pull l 2 M17 L hI19) yoX11_pull ml_X11_231 rfl rfl rfl rfl ⟨Nat.zero_le _, Nat.zero_le _⟩ (show decode cX11_rest 60 = .ok (.invokevirtual 231, 3) from by decide +kernel) rfl (fun v σ' hPo => ?_)
  obtain ⟨⟨rfl, rfl⟩, g21, hI22⟩ := hPo
  generalize hq20 : f_X11_pull 2 M17 = q20 at h g21 hI22 ⊢
  obtain ⟨r20, M20⟩ := q20
  have h := xb_eq h
  try dsimp only at h g21 hI22
  show V 0 0 63 [(2, .int r17), (0, .ref 14), (1, .int x1)] [.int r20] LAY (M20, L)
  refine x_run C e_X11_rest_10 e_X11_rest_10_k (pc' := 67) (lv' := [(3, .int r20), (2, .int r17), (0, .ref 14), (1, .int x1)]) (st' := [.int 51, .int x1]) (σ' := (M20, L)) rfl ⟨trivial, trivial, trivial, trivial⟩ ?_
  refine x_icmp_ne C (show decode cX11_rest 67 = .ok (.if_icmp .ne 11, 3) from by decide +kernel) (tgt := 78) (by decide) (fun c23 => ?_) (fun c23 => ?_)
  · rw [if_neg c23] at h
    have g24 : xrg 52 55 x1 := (x_c_ne wx1 (by decide) c23)
    refine x_run C e_X11_rest_11 e_X11_rest_11_k (pc' := 94) (lv' := [(3, .int r20), (2, .int r17), (0, .ref 14), (1, .int x1)]) (st' := []) (σ' := ((xup M20 14 2 (((M20 14 2) &&& (-32)) ||| (r17 &&& 31))), L)) rfl ⟨trivial, trivial, trivial, trivial, trivial, trivial, trivial, trivial, trivial, trivial, trivial⟩ ?_
    have hI25 : Inv INVM (xup M20 14 2 (((M20 14 2) &&& (-32)) ||| (r17 &&& 31))) := (hI22.fld 14 2 (((M20 14 2) &&& (-32)) ||| (r17 &&& 31)) (by decide))
    refine x_lv C [2, 3, 0] rfl ?_
    exact b_X11_rest_94 r C x1 r20 (xup M20 14 2 (((M20 14 2) &&& (-32)) ||| (r17 &&& 31))) (x_rgw g24 (lo' := 51) (hi' := 55) (by decide) (by decide)) hI25 h
  · rw [if_pos c23] at h
    have g26 : xrg 51 51 x1 := (x_c_eq wx1 (x_rgc (x := 51) (k := 51) (by decide)) c23).1
    refine x_run C e_X11_rest_12 e_X11_rest_12_k (pc' := 72) (lv' := [(3, .int r20), (2, .int r17), (0, .ref 14), (1, .int x1)]) (st' := [.int r17, .ref 14]) (σ' := (M20, L)) rfl ⟨trivial, trivial, trivial⟩ ?_
    refine x_callV C (k := 14) (ci := 8) (rest := []) (avs := [.int r17]) (k_X11_setStatus l r17 M20 L hI22) yoX11_setStatus ml_X11_202 rfl rfl rfl rfl ⟨Nat.zero_le _, Nat.zero_le _⟩ (show decode cX11_rest 72 = .ok (.invokevirtual 202, 3) from by decide +kernel) rfl (fun v σ' hPo => ?_)
    obtain ⟨⟨rfl, rfl⟩, hI29⟩ := hPo
    generalize hq27 : f_X11_setStatus r17 M20 = q27 at h hI29 ⊢
    have h := xb_eq h
    show V 0 0 75 [(3, .int r20), (2, .int r17), (0, .ref 14), (1, .int x1)] [] LAY (q27, L)
    refine x_goto C (show decode cX11_rest 75 = .ok (.goto 19, 3) from by decide +kernel) (tgt := 94) (by decide) ?_
    refine x_lv C [2, 3, 0] rfl ?_
    exact b_X11_rest_94 r C x1 r20 q27 (x_rgw g26 (lo' := 51) (hi' := 55) (by decide) (by decide)) hI29 h
set_option maxRecDepth 20000 in
set_option maxHeartbeats 4000000 in
theorem b_X11_rest_40 {l : Launch} {L : Nat → Nat → Int64} {V : XJ} (r : St) (C : C_X11_rest l r L V) (x1 : Int32) (M : St) (wx1 : xrg 0 63 x1) (hI : Inv INVM M) (h : f_X11_rest_40 x1 M = r) : V 0 0 40 [(0, .ref 14), (1, .int x1)] [] LAY (M, L) := by
  unfold f_X11_rest_40 at h
  refine x_run C e_X11_rest_6 e_X11_rest_6_k (pc' := 43) (lv' := [(0, .ref 14), (1, .int x1)]) (st' := [.int 51, .int x1]) (σ' := (M, L)) rfl ⟨trivial, trivial, trivial⟩ ?_
  refine x_icmp_eq C (show decode cX11_rest 43 = .ok (.if_icmp .eq 9, 3) from by decide +kernel) (tgt := 52) (by decide) (fun c13 => ?_) (fun c13 => ?_)
  · rw [if_pos c13] at h
    have g14 : xrg 51 51 x1 := (x_c_eq wx1 (x_rgc (x := 51) (k := 51) (by decide)) c13).1
    exact b_X11_rest_52 r C x1 M (x_rgw g14 (lo' := 51) (hi' := 55) (by decide) (by decide)) hI h
  · rw [if_neg c13] at h
    refine x_run C e_X11_rest_7 e_X11_rest_7_k (pc' := 49) (lv' := [(0, .ref 14), (1, .int x1)]) (st' := [.int 55, .int x1]) (σ' := (M, L)) rfl ⟨trivial, trivial, trivial⟩ ?_
    refine x_icmp_ne C (show decode cX11_rest 49 = .ok (.if_icmp .ne 53, 3) from by decide +kernel) (tgt := 102) (by decide) (fun c15 => ?_) (fun c15 => ?_)
    · rw [if_neg c15] at h
      exact b_X11_rest_102 r C x1 M wx1 hI h
    · rw [if_pos c15] at h
      have g16 : xrg 55 55 x1 := (x_c_eq wx1 (x_rgc (x := 55) (k := 55) (by decide)) c15).1
      exact b_X11_rest_52 r C x1 M (x_rgw g16 (lo' := 51) (hi' := 55) (by decide) (by decide)) hI h
set_option maxRecDepth 20000 in
set_option maxHeartbeats 4000000 in
theorem b_X11_rest_21 {l : Launch} {L : Nat → Nat → Int64} {V : XJ} (r : St) (C : C_X11_rest l r L V) (x1 : Int32) (M : St) (wx1 : xrg 0 63 x1) (hI : Inv INVM M) (h : f_X11_rest_21 x1 M = r) : V 0 0 21 [(0, .ref 14), (1, .int x1)] [] LAY (M, L) := by
  unfold f_X11_rest_21 at h
  refine x_run C e_X11_rest_3 e_X11_rest_3_k (pc' := 24) (lv' := [(0, .ref 14), (1, .int x1)]) (st' := [.int 50, .int x1]) (σ' := (M, L)) rfl ⟨trivial, trivial, trivial⟩ ?_
  refine x_icmp_ne C (show decode cX11_rest 24 = .ok (.if_icmp .ne 16, 3) from by decide +kernel) (tgt := 40) (by decide) (fun c4 => ?_) (fun c4 => ?_)
  · rw [if_neg c4] at h
    exact b_X11_rest_40 r C x1 M wx1 hI h
  · rw [if_pos c4] at h
    have g5 : xrg 50 50 x1 := (x_c_eq wx1 (x_rgc (x := 50) (k := 50) (by decide)) c4).1
    refine x_run C e_X11_rest_4 e_X11_rest_4_k (pc' := 29) (lv' := [(0, .ref 14), (1, .int x1)]) (st' := [.ref 14, .ref 14]) (σ' := (M, L)) rfl ⟨trivial, trivial, trivial⟩ ?_
    refine x_callV C (k := 14) (ci := 8) (rest := [.ref 14]) (avs := []) (k_X11_fetch l  M L hI) yoX11_fetch ml_X11_103 rfl rfl rfl rfl ⟨Nat.zero_le _, Nat.zero_le _⟩ (show decode cX11_rest 29 = .ok (.invokevirtual 103, 3) from by decide +kernel) rfl (fun v σ' hPo => ?_)
    obtain ⟨⟨rfl, rfl⟩, g7, hI8⟩ := hPo
    generalize hq6 : f_X11_fetch  M = q6 at h g7 hI8 ⊢
    obtain ⟨r6, M6⟩ := q6
    have h := xb_eq h
    try dsimp only at h g7 hI8
    show V 0 0 32 [(0, .ref 14), (1, .int x1)] [.int r6, .ref 14] LAY (M6, L)
    refine x_callV C (k := 14) (ci := 8) (rest := []) (avs := [.int r6]) (k_X11_setStatus l r6 M6 L hI8) yoX11_setStatus ml_X11_202 rfl rfl rfl rfl ⟨Nat.zero_le _, Nat.zero_le _⟩ (show decode cX11_rest 32 = .ok (.invokevirtual 202, 3) from by decide +kernel) rfl (fun v σ' hPo => ?_)
    obtain ⟨⟨rfl, rfl⟩, hI11⟩ := hPo
    generalize hq9 : f_X11_setStatus r6 M6 = q9 at h hI11 ⊢
    have h := xb_eq h
    show V 0 0 35 [(0, .ref 14), (1, .int x1)] [] LAY (q9, L)
    refine x_run C e_X11_rest_5 e_X11_rest_5_k (pc' := 40) (lv' := [(0, .ref 14), (1, .int x1)]) (st' := []) (σ' := ((xup q9 14 24 1), L)) rfl ⟨trivial, trivial, (x_rgb (x_rgw (x_rgc (x := 1) (k := 1) (by decide)) (lo' := 0) (hi' := 1) (by decide) (by decide))), trivial⟩ ?_
    have hI12 : Inv INVM (xup q9 14 24 1) := (hI11.fld 14 24 1 (by decide))
    exact b_X11_rest_40 r C x1 (xup q9 14 24 1) (x_rgw g5 (lo' := 0) (hi' := 63) (by decide) (by decide)) hI12 h
set_option maxRecDepth 20000 in
set_option maxHeartbeats 4000000 in
theorem k_X11_rest (l : Launch) (a1 : Int32) (M : St) (L : Nat → Nat → Int64) (hp1 : xrg 0 63 a1) (hI : Inv INVM M) : XM l yX11_rest cX11_rest 4 none R_X11_rest LAY [.ref 14, .int a1] (M, L) (P_X11_rest (f_X11_rest a1 M) L) := by
  refine XM.of (by decide) (Nat.le_of_ble_eq_true rfl) LAY_in cl_ok fl_X11_ok kc_X11_ok (fun V C => ?_)
  obtain ⟨r, h⟩ : ∃ r, f_X11_rest a1 M = r := ⟨_, rfl⟩
  rw [h] at C
  change C_X11_rest l r L V at C
  unfold f_X11_rest at h
  show V 0 0 0 [(0, .ref 14), (1, .int a1)] [] LAY (M, L)
  refine x_run C e_X11_rest_1 e_X11_rest_1_k (pc' := 3) (lv' := [(0, .ref 14), (1, .int a1)]) (st' := [.int 48, .int a1]) (σ' := (M, L)) rfl ⟨trivial, trivial, trivial⟩ ?_
  refine x_icmp_ne C (show decode cX11_rest 3 = .ok (.if_icmp .ne 18, 3) from by decide +kernel) (tgt := 21) (by decide) (fun c1 => ?_) (fun c1 => ?_)
  · rw [if_neg c1] at h
    exact b_X11_rest_21 r C a1 M hp1 hI h
  · rw [if_pos c1] at h
    have g2 : xrg 48 48 a1 := (x_c_eq hp1 (x_rgc (x := 48) (k := 48) (by decide)) c1).1
    refine x_run C e_X11_rest_2 e_X11_rest_2_k (pc' := 21) (lv' := [(0, .ref 14), (1, .int a1)]) (st' := []) (σ' := ((xup (xup (xup M 14 9 0) 14 10 0) 14 11 0), L)) rfl ⟨trivial, trivial, trivial, trivial, trivial, trivial, trivial, trivial, (x_rgb (x_rgw (x_rgc (x := 0) (k := 0) (by decide)) (lo' := 0) (hi' := 1) (by decide) (by decide))), trivial⟩ ?_
    have hI3 : Inv INVM (xup (xup (xup M 14 9 0) 14 10 0) 14 11 0) := (((hI.fld 14 9 0 (by decide)).set 14 10 (x_rgc (x := 0) (k := 0) (by decide)) (by decide)).fld 14 11 0 (by decide))
    exact b_X11_rest_21 r C a1 (xup (xup (xup M 14 9 0) 14 10 0) 14 11 0) (x_rgw g2 (lo' := 0) (hi' := 63) (by decide) (by decide)) hI3 h
-- X11_system
def e_X11_system_1 : List xI := [(0, .bipush 8, 2, .int 8), (2, .iload_n 1, 1, .null), (3, .bipush 7, 2, .int 7), (5, .iand, 1, .null), (6, .iadd, 1, .null), (7, .istore_n 2, 1, .null), (8, .iconst 0, 1, .int 0), (9, .istore_n 3, 1, .null), (10, .iload_n 1, 1, .null), (11, .iconst 3, 1, .int 3), (12, .ishr, 1, .null)]
theorem e_X11_system_1_k : e_X11_system_1.all (fun q => xokB cX11_system q && xokL q) = true := by decide +kernel
def e_X11_system_2 : List xI := [(63, .aload_n 0, 1, .null)]
theorem e_X11_system_2_k : e_X11_system_2.all (fun q => xokB cX11_system q && xokL q) = true := by decide +kernel
def e_X11_system_3 : List xI := [(67, .i2s, 1, .null), (68, .istore_n 3, 1, .null), (69, .aload_n 0, 1, .null), (70, .iconst 2, 1, .int 2), (71, .aload_n 0, 1, .null), (72, .getfield 7, 3, .null), (75, .iload_n 2, 1, .null), (76, .iaload, 1, .null)]
theorem e_X11_system_3_k : e_X11_system_3.all (fun q => xokB cX11_system q && xokL q) = true := by decide +kernel
def e_X11_system_4 : List xI := [(80, .aload_n 0, 1, .null), (81, .getfield 7, 3, .null), (84, .iload_n 2, 1, .null), (85, .aload_n 0, 1, .null), (86, .getfield 7, 3, .null), (89, .bipush 15, 2, .int 15), (91, .iaload, 1, .null), (92, .iastore, 1, .null), (93, .aload_n 0, 1, .null), (94, .getfield 7, 3, .null), (97, .bipush 15, 2, .int 15), (99, .dup2, 1, .null), (100, .iaload, 1, .null), (101, .iload_n 3, 1, .null), (102, .iadd, 1, .null), (103, .iastore, 1, .null)]
theorem e_X11_system_4_k : e_X11_system_4.all (fun q => xokB cX11_system q && xokL q) = true := by decide +kernel
def e_X11_system_5 : List xI := [(107, .aload_n 0, 1, .null), (108, .getfield 7, 3, .null), (111, .bipush 15, 2, .int 15), (113, .aload_n 0, 1, .null), (114, .getfield 7, 3, .null), (117, .iload_n 2, 1, .null), (118, .iaload, 1, .null), (119, .iastore, 1, .null), (120, .aload_n 0, 1, .null), (121, .getfield 7, 3, .null), (124, .iload_n 2, 1, .null), (125, .aload_n 0, 1, .null), (126, .iconst 2, 1, .int 2)]
theorem e_X11_system_5_k : e_X11_system_5.all (fun q => xokB cX11_system q && xokL q) = true := by decide +kernel
def e_X11_system_6 : List xI := [(130, .iastore, 1, .null)]
theorem e_X11_system_6_k : e_X11_system_6.all (fun q => xokB cX11_system q && xokL q) = true := by decide +kernel
def e_X11_system_7 : List xI := [(134, .aload_n 0, 1, .null), (135, .getfield 7, 3, .null), (138, .bipush 16, 2, .int 16), (140, .aload_n 0, 1, .null), (141, .getfield 7, 3, .null), (144, .iload_n 2, 1, .null), (145, .iaload, 1, .null), (146, .iastore, 1, .null)]
theorem e_X11_system_7_k : e_X11_system_7.all (fun q => xokB cX11_system q && xokL q) = true := by decide +kernel
def e_X11_system_8 : List xI := [(150, .aload_n 0, 1, .null), (151, .getfield 7, 3, .null), (154, .iload_n 2, 1, .null), (155, .aload_n 0, 1, .null), (156, .getfield 7, 3, .null), (159, .bipush 16, 2, .int 16), (161, .iaload, 1, .null), (162, .iastore, 1, .null)]
theorem e_X11_system_8_k : e_X11_system_8.all (fun q => xokB cX11_system q && xokL q) = true := by decide +kernel
def e_X11_system_9 : List xI := [(166, .aload_n 0, 1, .null), (167, .iload_n 1, 1, .null)]
theorem e_X11_system_9_k : e_X11_system_9.all (fun q => xokB cX11_system q && xokL q) = true := by decide +kernel
def e_X11_system_10 : List xI := [(52, .aload_n 0, 1, .null), (53, .bipush 32, 2, .int 32), (55, .iload_n 1, 1, .null), (56, .iadd, 1, .null), (57, .putfield 228, 3, .null)]
theorem e_X11_system_10_k : e_X11_system_10.all (fun q => xokB cX11_system q && xokL q) = true := by decide +kernel
abbrev P_X11_system (r : St) (L : Nat → Nat → Int64) : Option Value → xG → Prop := fun v σ' => PoV r L v σ' ∧ Inv INVM r
abbrev R_X11_system : Room := { frames := 5, cells := 0, slots := 0, locals := 119 }
abbrev C_X11_system (l : Launch) (r : St) (L : Nat → Nat → Int64) (V : XJ) : Prop := XC l yX11_system.cls yX11_system.name cX11_system 4 R_X11_system 0 0 fl_X11 kc_X11 LAY.length (xfin none LAY (P_X11_system r L)) V
def f_X11_system_52 (x1 : Int32) (M : St) : St := (xup M 14 23 (32 + x1))
def f_X11_system (a1 : Int32) (M : St) : St := (if (a1 >>> ((3 : Int32) &&& 31)) = 0 then f_X11_system_52 a1 M else (if (a1 >>> ((3 : Int32) &&& 31)) = 1 then f_X11_system_52 a1 M else (if (a1 >>> ((3 : Int32) &&& 31)) = 2 then (xb (f_X11_fetch  M) fun q7 => (xb (f_X11_push 2 (q7.2 15 (8 + (a1 &&& 7)).toNatClampNeg) q7.2) fun q10 => (xup (xup q10 15 (8 + (a1 &&& 7)).toNatClampNeg (q10 15 15)) 15 15 (((xup q10 15 (8 + (a1 &&& 7)).toNatClampNeg (q10 15 15)) 15 15) + q7.1.toInt16.toInt32)))) else (if (a1 >>> ((3 : Int32) &&& 31)) = 3 then (xb (f_X11_pull 2 (xup M 15 15 (M 15 (8 + (a1 &&& 7)).toNatClampNeg))) fun q17 => (xup q17.2 15 (8 + (a1 &&& 7)).toNatClampNeg q17.1)) else (if (a1 >>> ((3 : Int32) &&& 31)) = 4 then (xup M 15 16 (M 15 (8 + (a1 &&& 7)).toNatClampNeg)) else (if (a1 >>> ((3 : Int32) &&& 31)) = 5 then (xup M 15 (8 + (a1 &&& 7)).toNatClampNeg (M 15 16)) else (xb (f_X11_rest a1 M) fun q27 => q27)))))))
set_option maxRecDepth 20000 in
set_option maxHeartbeats 4000000 in
theorem b_X11_system_52 {l : Launch} {L : Nat → Nat → Int64} {V : XJ} (r : St) (C : C_X11_system l r L V) (x1 : Int32) (M : St) (wx1 : xrg 0 15 x1) (hI : Inv INVM M) (h : f_X11_system_52 x1 M = r) : V 0 0 52 [(0, .ref 14), (1, .int x1)] [] LAY (M, L) := by
  unfold f_X11_system_52 at h
  refine x_run C e_X11_system_10 e_X11_system_10_k (pc' := 60) (lv' := [(0, .ref 14), (1, .int x1)]) (st' := []) (σ' := ((xup M 14 23 (32 + x1)), L)) rfl ⟨trivial, trivial, trivial, trivial, trivial, trivial⟩ ?_
  have hI30 : Inv INVM (xup M 14 23 (32 + x1)) := (hI.set 14 23 (x_rg_add (x_rgc (x := 32) (k := 32) (by decide)) wx1 (by decide) (by decide)) (by decide))
  refine x_goto C (show decode cX11_system 60 = .ok (.goto 111, 3) from by decide +kernel) (tgt := 171) (by decide) ?_
  subst h
  exact x_vret C (show decode cX11_system 171 = .ok (.return_, 1) from by decide +kernel) (x_finV ⟨⟨rfl, rfl⟩, hI30⟩) (Nat.le_refl 0) (Nat.le_refl 0)
set_option maxRecDepth 20000 in
set_option maxHeartbeats 4000000 in
theorem k_X11_system (l : Launch) (a1 : Int32) (M : St) (L : Nat → Nat → Int64) (hp1 : xrg 0 63 a1) (hI : Inv INVM M) : XM l yX11_system cX11_system 4 none R_X11_system LAY [.ref 14, .int a1] (M, L) (P_X11_system (f_X11_system a1 M) L) := by
  refine XM.of (by decide) (Nat.le_of_ble_eq_true rfl) LAY_in cl_ok fl_X11_ok kc_X11_ok (fun V C => ?_)
  obtain ⟨r, h⟩ : ∃ r, f_X11_system a1 M = r := ⟨_, rfl⟩
  rw [h] at C
  change C_X11_system l r L V at C
  unfold f_X11_system at h
  show V 0 0 0 [(0, .ref 14), (1, .int a1)] [] LAY (M, L)
  refine x_run C e_X11_system_1 e_X11_system_1_k (pc' := 13) (lv' := [(3, .int 0), (2, .int (8 + (a1 &&& 7))), (0, .ref 14), (1, .int a1)]) (st' := [.int (a1 >>> ((3 : Int32) &&& 31))]) (σ' := (M, L)) rfl ⟨trivial, trivial, trivial, trivial, trivial, trivial, trivial, trivial, trivial, trivial, trivial, trivial⟩ ?_
  by_cases c1 : (a1 >>> ((3 : Int32) &&& 31)) = 0
  · rw [if_pos c1] at h
    have g2 : xrg 0 7 a1 := x_shr3 hp1 (k := 0) (by decide) c1
    refine x_tin C (show decode cX11_system 13 = .ok (.tableswitch 153 0 5 #[39, 39, 50, 94, 121, 137], 39) from by decide +kernel) 0 c1 (off := 39) (tgt := 52) (by decide) ?_
    refine x_lv C [2, 3] rfl ?_
    exact b_X11_system_52 r C a1 M (x_rgw g2 (lo' := 0) (hi' := 15) (by decide) (by decide)) hI h
  rw [if_neg c1] at h
  by_cases c3 : (a1 >>> ((3 : Int32) &&& 31)) = 1
  · rw [if_pos c3] at h
    have g4 : xrg 8 15 a1 := x_shr3 hp1 (k := 1) (by decide) c3
    refine x_tin C (show decode cX11_system 13 = .ok (.tableswitch 153 0 5 #[39, 39, 50, 94, 121, 137], 39) from by decide +kernel) 1 c3 (off := 39) (tgt := 52) (by decide) ?_
    refine x_lv C [2, 3] rfl ?_
    exact b_X11_system_52 r C a1 M (x_rgw g4 (lo' := 0) (hi' := 15) (by decide) (by decide)) hI h
  rw [if_neg c3] at h
  by_cases c5 : (a1 >>> ((3 : Int32) &&& 31)) = 2
  · rw [if_pos c5] at h
    have g6 : xrg 16 23 a1 := x_shr3 hp1 (k := 2) (by decide) c5
    refine x_tin C (show decode cX11_system 13 = .ok (.tableswitch 153 0 5 #[39, 39, 50, 94, 121, 137], 39) from by decide +kernel) 2 c5 (off := 50) (tgt := 63) (by decide) ?_
    refine x_run C e_X11_system_2 e_X11_system_2_k (pc' := 64) (lv' := [(3, .int 0), (2, .int (8 + (a1 &&& 7))), (0, .ref 14), (1, .int a1)]) (st' := [.ref 14]) (σ' := (M, L)) rfl ⟨trivial, trivial⟩ ?_
    refine x_callV C (k := 14) (ci := 8) (rest := []) (avs := []) (k_X11_fetch l  M L hI) yoX11_fetch ml_X11_103 rfl rfl rfl rfl ⟨Nat.zero_le _, Nat.zero_le _⟩ (show decode cX11_system 64 = .ok (.invokevirtual 103, 3) from by decide +kernel) rfl (fun v σ' hPo => ?_)
    obtain ⟨⟨rfl, rfl⟩, g8, hI9⟩ := hPo
    generalize hq7 : f_X11_fetch  M = q7 at h g8 hI9 ⊢
    obtain ⟨r7, M7⟩ := q7
    have h := xb_eq h
    try dsimp only at h g8 hI9
    show V 0 0 67 [(3, .int 0), (2, .int (8 + (a1 &&& 7))), (0, .ref 14), (1, .int a1)] [.int r7] LAY (M7, L)
    refine x_run C e_X11_system_3 e_X11_system_3_k (pc' := 77) (lv' := [(3, .int r7.toInt16.toInt32), (2, .int (8 + (a1 &&& 7))), (0, .ref 14), (1, .int a1)]) (st' := [.int (M7 15 (8 + (a1 &&& 7)).toNatClampNeg), .int 2, .ref 14]) (σ' := (M7, L)) rfl ⟨trivial, trivial, trivial, trivial, trivial, trivial, trivial, (x_rgv (x_rg_add (x_rgc (x := 8) (k := 8) (by decide)) (x_rg_and (x := a1) (m := 7) (k := 7) (by decide) (by decide)) (by decide) (by decide)) (by decide) (by decide)), trivial⟩ ?_
    refine x_callV C (k := 14) (ci := 8) (rest := []) (avs := [.int 2, .int (M7 15 (8 + (a1 &&& 7)).toNatClampNeg)]) (k_X11_push l 2 (M7 15 (8 + (a1 &&& 7)).toNatClampNeg) M7 L hI9) yoX11_push ml_X11_209 rfl rfl rfl rfl ⟨Nat.zero_le _, Nat.zero_le _⟩ (show decode cX11_system 77 = .ok (.invokevirtual 209, 3) from by decide +kernel) rfl (fun v σ' hPo => ?_)
    obtain ⟨⟨rfl, rfl⟩, hI12⟩ := hPo
    generalize hq10 : f_X11_push 2 (M7 15 (8 + (a1 &&& 7)).toNatClampNeg) M7 = q10 at h hI12 ⊢
    have h := xb_eq h
    show V 0 0 80 [(3, .int r7.toInt16.toInt32), (2, .int (8 + (a1 &&& 7))), (0, .ref 14), (1, .int a1)] [] LAY (q10, L)
    refine x_run C e_X11_system_4 e_X11_system_4_k (pc' := 104) (lv' := [(3, .int r7.toInt16.toInt32), (2, .int (8 + (a1 &&& 7))), (0, .ref 14), (1, .int a1)]) (st' := []) (σ' := ((xup (xup q10 15 (8 + (a1 &&& 7)).toNatClampNeg (q10 15 15)) 15 15 (((xup q10 15 (8 + (a1 &&& 7)).toNatClampNeg (q10 15 15)) 15 15) + r7.toInt16.toInt32)), L)) rfl ⟨trivial, trivial, trivial, trivial, trivial, trivial, (x_rgv (x_rgc (x := 15) (k := 15) (by decide)) (by decide) (by decide)), (x_rgv (x_rg_add (x_rgc (x := 8) (k := 8) (by decide)) (x_rg_and (x := a1) (m := 7) (k := 7) (by decide) (by decide)) (by decide) (by decide)) (by decide) (by decide)), trivial, trivial, trivial, trivial, (x_rgv (x_rgc (x := 15) (k := 15) (by decide)) (by decide) (by decide)), trivial, trivial, (x_rgv (x_rgc (x := 15) (k := 15) (by decide)) (by decide) (by decide)), trivial⟩ ?_
    have hI13 : Inv INVM (xup (xup q10 15 (8 + (a1 &&& 7)).toNatClampNeg (q10 15 15)) 15 15 (((xup q10 15 (8 + (a1 &&& 7)).toNatClampNeg (q10 15 15)) 15 15) + r7.toInt16.toInt32)) := ((hI12.arr 15 ((8 + (a1 &&& 7)).toNatClampNeg) (q10 15 15) (by decide)).arr 15 15 (((xup q10 15 (8 + (a1 &&& 7)).toNatClampNeg (q10 15 15)) 15 15) + r7.toInt16.toInt32) (by decide))
    refine x_goto C (show decode cX11_system 104 = .ok (.goto 67, 3) from by decide +kernel) (tgt := 171) (by decide) ?_
    subst h
    exact x_vret C (show decode cX11_system 171 = .ok (.return_, 1) from by decide +kernel) (x_finV ⟨⟨rfl, rfl⟩, hI13⟩) (Nat.le_refl 0) (Nat.le_refl 0)
  rw [if_neg c5] at h
  by_cases c14 : (a1 >>> ((3 : Int32) &&& 31)) = 3
  · rw [if_pos c14] at h
    have g15 : xrg 24 31 a1 := x_shr3 hp1 (k := 3) (by decide) c14
    refine x_tin C (show decode cX11_system 13 = .ok (.tableswitch 153 0 5 #[39, 39, 50, 94, 121, 137], 39) from by decide +kernel) 3 c14 (off := 94) (tgt := 107) (by decide) ?_
    refine x_run C e_X11_system_5 e_X11_system_5_k (pc' := 127) (lv' := [(3, .int 0), (2, .int (8 + (a1 &&& 7))), (0, .ref 14), (1, .int a1)]) (st' := [.int 2, .ref 14, .int (8 + (a1 &&& 7)), .ref 15]) (σ' := ((xup M 15 15 (M 15 (8 + (a1 &&& 7)).toNatClampNeg)), L)) rfl ⟨trivial, trivial, trivial, trivial, trivial, trivial, (x_rgv (x_rg_add (x_rgc (x := 8) (k := 8) (by decide)) (x_rg_and (x := a1) (m := 7) (k := 7) (by decide) (by decide)) (by decide) (by decide)) (by decide) (by decide)), (x_rgv (x_rgc (x := 15) (k := 15) (by decide)) (by decide) (by decide)), trivial, trivial, trivial, trivial, trivial, trivial⟩ ?_
    have hI16 : Inv INVM (xup M 15 15 (M 15 (8 + (a1 &&& 7)).toNatClampNeg)) := (hI.arr 15 15 (M 15 (8 + (a1 &&& 7)).toNatClampNeg) (by decide))
    refine x_callV C (k := 14) (ci := 8) (rest := [.int (8 + (a1 &&& 7)), .ref 15]) (avs := [.int 2]) (k_X11_pull l 2 (xup M 15 15 (M 15 (8 + (a1 &&& 7)).toNatClampNeg)) L hI16) yoX11_pull ml_X11_231 rfl rfl rfl rfl ⟨Nat.zero_le _, Nat.zero_le _⟩ (show decode cX11_system 127 = .ok (.invokevirtual 231, 3) from by decide +kernel) rfl (fun v σ' hPo => ?_)
    obtain ⟨⟨rfl, rfl⟩, g18, hI19⟩ := hPo
    generalize hq17 : f_X11_pull 2 (xup M 15 15 (M 15 (8 + (a1 &&& 7)).toNatClampNeg)) = q17 at h g18 hI19 ⊢
    obtain ⟨r17, M17⟩ := q17
    have h := xb_eq h
    try dsimp only at h g18 hI19
    show V 0 0 130 [(3, .int 0), (2, .int (8 + (a1 &&& 7))), (0, .ref 14), (1, .int a1)] [.int r17, .int (8 + (a1 &&& 7)), .ref 15] LAY (M17, L)
    refine x_run C e_X11_system_6 e_X11_system_6_k (pc' := 131) (lv' := [(3, .int 0), (2, .int (8 + (a1 &&& 7))), (0, .ref 14), (1, .int a1)]) (st' := []) (σ' := ((xup M17 15 (8 + (a1 &&& 7)).toNatClampNeg r17), L)) rfl ⟨(x_rgv (x_rg_add (x_rgc (x := 8) (k := 8) (by decide)) (x_rg_and (x := a1) (m := 7) (k := 7) (by decide) (by decide)) (by decide) (by decide)) (by decide) (by decide)), trivial⟩ ?_
    have hI20 : Inv INVM (xup M17 15 (8 + (a1 &&& 7)).toNatClampNeg r17) := (hI19.arr 15 ((8 + (a1 &&& 7)).toNatClampNeg) r17 (by decide))
    refine x_goto C (show decode cX11_system 131 = .ok (.goto 40, 3) from by decide +kernel) (tgt := 171) (by decide) ?_
    subst h
    exact x_vret C (show decode cX11_system 171 = .ok (.return_, 1) from by decide +kernel) (x_finV ⟨⟨rfl, rfl⟩, hI20⟩) (Nat.le_refl 0) (Nat.le_refl 0)
  rw [if_neg c14] at h
  by_cases c21 : (a1 >>> ((3 : Int32) &&& 31)) = 4
  · rw [if_pos c21] at h
    have g22 : xrg 32 39 a1 := x_shr3 hp1 (k := 4) (by decide) c21
    refine x_tin C (show decode cX11_system 13 = .ok (.tableswitch 153 0 5 #[39, 39, 50, 94, 121, 137], 39) from by decide +kernel) 4 c21 (off := 121) (tgt := 134) (by decide) ?_
    refine x_run C e_X11_system_7 e_X11_system_7_k (pc' := 147) (lv' := [(3, .int 0), (2, .int (8 + (a1 &&& 7))), (0, .ref 14), (1, .int a1)]) (st' := []) (σ' := ((xup M 15 16 (M 15 (8 + (a1 &&& 7)).toNatClampNeg)), L)) rfl ⟨trivial, trivial, trivial, trivial, trivial, trivial, (x_rgv (x_rg_add (x_rgc (x := 8) (k := 8) (by decide)) (x_rg_and (x := a1) (m := 7) (k := 7) (by decide) (by decide)) (by decide) (by decide)) (by decide) (by decide)), (x_rgv (x_rgc (x := 16) (k := 16) (by decide)) (by decide) (by decide)), trivial⟩ ?_
    have hI23 : Inv INVM (xup M 15 16 (M 15 (8 + (a1 &&& 7)).toNatClampNeg)) := (hI.arr 15 16 (M 15 (8 + (a1 &&& 7)).toNatClampNeg) (by decide))
    refine x_goto C (show decode cX11_system 147 = .ok (.goto 24, 3) from by decide +kernel) (tgt := 171) (by decide) ?_
    subst h
    exact x_vret C (show decode cX11_system 171 = .ok (.return_, 1) from by decide +kernel) (x_finV ⟨⟨rfl, rfl⟩, hI23⟩) (Nat.le_refl 0) (Nat.le_refl 0)
  rw [if_neg c21] at h
  by_cases c24 : (a1 >>> ((3 : Int32) &&& 31)) = 5
  · rw [if_pos c24] at h
    have g25 : xrg 40 47 a1 := x_shr3 hp1 (k := 5) (by decide) c24
    refine x_tin C (show decode cX11_system 13 = .ok (.tableswitch 153 0 5 #[39, 39, 50, 94, 121, 137], 39) from by decide +kernel) 5 c24 (off := 137) (tgt := 150) (by decide) ?_
    refine x_run C e_X11_system_8 e_X11_system_8_k (pc' := 163) (lv' := [(3, .int 0), (2, .int (8 + (a1 &&& 7))), (0, .ref 14), (1, .int a1)]) (st' := []) (σ' := ((xup M 15 (8 + (a1 &&& 7)).toNatClampNeg (M 15 16)), L)) rfl ⟨trivial, trivial, trivial, trivial, trivial, trivial, (x_rgv (x_rgc (x := 16) (k := 16) (by decide)) (by decide) (by decide)), (x_rgv (x_rg_add (x_rgc (x := 8) (k := 8) (by decide)) (x_rg_and (x := a1) (m := 7) (k := 7) (by decide) (by decide)) (by decide) (by decide)) (by decide) (by decide)), trivial⟩ ?_
    have hI26 : Inv INVM (xup M 15 (8 + (a1 &&& 7)).toNatClampNeg (M 15 16)) := (hI.arr 15 ((8 + (a1 &&& 7)).toNatClampNeg) (M 15 16) (by decide))
    refine x_goto C (show decode cX11_system 163 = .ok (.goto 8, 3) from by decide +kernel) (tgt := 171) (by decide) ?_
    subst h
    exact x_vret C (show decode cX11_system 171 = .ok (.return_, 1) from by decide +kernel) (x_finV ⟨⟨rfl, rfl⟩, hI26⟩) (Nat.le_refl 0) (Nat.le_refl 0)
  rw [if_neg c24] at h
  have hz : (a1 >>> ((3 : Int32) &&& 31)).toInt < 0 ∨ 5 < (a1 >>> ((3 : Int32) &&& 31)).toInt := by
    have zc1 := lv_neT (a := 0) c1 (by decide)
    have zc3 := lv_neT (a := 1) c3 (by decide)
    have zc5 := lv_neT (a := 2) c5 (by decide)
    have zc14 := lv_neT (a := 3) c14 (by decide)
    have zc21 := lv_neT (a := 4) c21 (by decide)
    have zc24 := lv_neT (a := 5) c24 (by decide)
    omega
  refine x_tout C (show decode cX11_system 13 = .ok (.tableswitch 153 0 5 #[39, 39, 50, 94, 121, 137], 39) from by decide +kernel) hz (tgt := 166) (by decide) ?_
  refine x_run C e_X11_system_9 e_X11_system_9_k (pc' := 168) (lv' := [(3, .int 0), (2, .int (8 + (a1 &&& 7))), (0, .ref 14), (1, .int a1)]) (st' := [.int a1, .ref 14]) (σ' := (M, L)) rfl ⟨trivial, trivial, trivial⟩ ?_
  refine x_callV C (k := 14) (ci := 8) (rest := []) (avs := [.int a1]) (k_X11_rest l a1 M L hp1 hI) yoX11_rest ml_X11_234 rfl rfl rfl rfl ⟨Nat.zero_le _, Nat.zero_le _⟩ (show decode cX11_system 168 = .ok (.invokevirtual 234, 3) from by decide +kernel) rfl (fun v σ' hPo => ?_)
  obtain ⟨⟨rfl, rfl⟩, hI29⟩ := hPo
  generalize hq27 : f_X11_rest a1 M = q27 at h hI29 ⊢
  have h := xb_eq h
  show V 0 0 171 [(3, .int 0), (2, .int (8 + (a1 &&& 7))), (0, .ref 14), (1, .int a1)] [] LAY (q27, L)
  subst h
  exact x_vret C (show decode cX11_system 171 = .ok (.return_, 1) from by decide +kernel) (x_finV ⟨⟨rfl, rfl⟩, hI29⟩) (Nat.le_refl 0) (Nat.le_refl 0)
-- X11_three
def e_X11_three_1 : List xI := [(0, .iload_n 1, 1, .null), (1, .bipush 19, 2, .int 19)]
theorem e_X11_three_1_k : e_X11_three_1.all (fun q => xokB cX11_three q && xokL q) = true := by decide +kernel
def e_X11_three_2 : List xI := [(6, .iload_n 1, 1, .null), (7, .iconst 3, 1, .int 3), (8, .iand, 1, .null), (9, .iconst 3, 1, .int 3)]
theorem e_X11_three_2_k : e_X11_three_2.all (fun q => xokB cX11_three q && xokL q) = true := by decide +kernel
def e_X11_three_3 : List xI := [(13, .aload_n 0, 1, .null), (14, .iload_n 1, 1, .null), (15, .iconst 2, 1, .int 2), (16, .ishr, 1, .null), (17, .iload_n 1, 1, .null), (18, .iconst 3, 1, .int 3), (19, .iand, 1, .null), (20, .iload_n 2, 1, .null)]
theorem e_X11_three_3_k : e_X11_three_3.all (fun q => xokB cX11_three q && xokL q) = true := by decide +kernel
def e_X11_three_4 : List xI := [(25, .iload_n 1, 1, .null)]
theorem e_X11_three_4_k : e_X11_three_4.all (fun q => xokB cX11_three q && xokL q) = true := by decide +kernel
def e_X11_three_5 : List xI := [(140, .aload_n 0, 1, .null), (141, .iload_n 2, 1, .null), (142, .iconst 1, 1, .int 1)]
theorem e_X11_three_5_k : e_X11_three_5.all (fun q => xokB cX11_three q && xokL q) = true := by decide +kernel
def e_X11_three_6 : List xI := [(146, .aload_n 0, 1, .null), (147, .iconst 1, 1, .int 1), (148, .aload_n 0, 1, .null), (149, .getfield 13, 3, .null)]
theorem e_X11_three_6_k : e_X11_three_6.all (fun q => xokB cX11_three q && xokL q) = true := by decide +kernel
def e_X11_three_7 : List xI := [(158, .aload_n 0, 1, .null), (159, .iload_n 2, 1, .null), (160, .iconst 1, 1, .int 1)]
theorem e_X11_three_7_k : e_X11_three_7.all (fun q => xokB cX11_three q && xokL q) = true := by decide +kernel
def e_X11_three_8 : List xI := [(164, .istore_n 3, 1, .null), (165, .aload_n 0, 1, .null), (166, .aload_n 0, 1, .null), (167, .getfield 13, 3, .null), (170, .bipush (-32), 2, .int (-32)), (172, .iand, 1, .null), (173, .iload_n 3, 1, .null), (174, .bipush 31, 2, .int 31), (176, .iand, 1, .null), (177, .ior, 1, .null), (178, .putfield 13, 3, .null)]
theorem e_X11_three_8_k : e_X11_three_8.all (fun q => xokB cX11_three q && xokL q) = true := by decide +kernel
def e_X11_three_9 : List xI := [(184, .aload_n 0, 1, .null), (185, .aload_n 0, 1, .null), (186, .iload_n 2, 1, .null), (187, .iconst 1, 1, .int 1)]
theorem e_X11_three_9_k : e_X11_three_9.all (fun q => xokB cX11_three q && xokL q) = true := by decide +kernel
def e_X11_three_10 : List xI := [(197, .aload_n 0, 1, .null), (198, .iconst 0, 1, .int 0), (199, .aload_n 0, 1, .null), (200, .aload_n 0, 1, .null), (201, .iload_n 2, 1, .null), (202, .iconst 0, 1, .int 0)]
theorem e_X11_three_10_k : e_X11_three_10.all (fun q => xokB cX11_three q && xokL q) = true := by decide +kernel
def e_X11_three_11 : List xI := [(206, .iconst 0, 1, .int 0), (207, .iconst 1, 1, .int 1)]
theorem e_X11_three_11_k : e_X11_three_11.all (fun q => xokB cX11_three q && xokL q) = true := by decide +kernel
def e_X11_three_12 : List xI := [(217, .aload_n 0, 1, .null), (218, .iload_n 2, 1, .null), (219, .iconst 0, 1, .int 0)]
theorem e_X11_three_12_k : e_X11_three_12.all (fun q => xokB cX11_three q && xokL q) = true := by decide +kernel
def e_X11_three_13 : List xI := [(223, .istore 4, 2, .null), (225, .aload_n 0, 1, .null), (226, .iconst 0, 1, .int 0), (227, .iload 4, 2, .null)]
theorem e_X11_three_13_k : e_X11_three_13.all (fun q => xokB cX11_three q && xokL q) = true := by decide +kernel
def e_X11_three_14 : List xI := [(232, .aload_n 0, 1, .null), (233, .iconst 0, 1, .int 0), (234, .iload 4, 2, .null), (236, .sipush 128, 3, .int 128), (239, .ior, 1, .null)]
theorem e_X11_three_14_k : e_X11_three_14.all (fun q => xokB cX11_three q && xokL q) = true := by decide +kernel
def e_X11_three_15 : List xI := [(246, .aload_n 0, 1, .null), (247, .iload_n 2, 1, .null), (248, .iconst 2, 1, .int 2)]
theorem e_X11_three_15_k : e_X11_three_15.all (fun q => xokB cX11_three q && xokL q) = true := by decide +kernel
def e_X11_three_16 : List xI := [(252, .aload_n 0, 1, .null), (253, .getfield 107, 3, .null), (256, .bipush 16, 2, .int 16)]
theorem e_X11_three_16_k : e_X11_three_16.all (fun q => xokB cX11_three q && xokL q) = true := by decide +kernel
def e_X11_three_17 : List xI := [(273, .aload_n 0, 1, .null), (274, .getfield 7, 3, .null), (277, .aload_n 0, 1, .null), (278, .getfield 107, 3, .null), (281, .aload_n 0, 1, .null), (282, .getfield 7, 3, .null), (285, .aload_n 0, 1, .null), (286, .getfield 107, 3, .null), (289, .iaload, 1, .null), (290, .bipush 16, 2, .int 16), (292, .ishl, 1, .null), (293, .aload_n 0, 1, .null), (294, .getfield 7, 3, .null), (297, .aload_n 0, 1, .null), (298, .getfield 107, 3, .null), (301, .iaload, 1, .null), (302, .bipush 16, 2, .int 16), (304, .iushr, 1, .null), (305, .ior, 1, .null), (306, .iastore, 1, .null), (307, .aload_n 0, 1, .null), (308, .iconst 2, 1, .int 2), (309, .aload_n 0, 1, .null), (310, .getfield 7, 3, .null), (313, .aload_n 0, 1, .null), (314, .getfield 107, 3, .null), (317, .iaload, 1, .null)]
theorem e_X11_three_17_k : e_X11_three_17.all (fun q => xokB cX11_three q && xokL q) = true := by decide +kernel
def e_X11_three_18 : List xI := [(261, .aload_n 0, 1, .null), (262, .iconst 2, 1, .int 2), (263, .aload_n 0, 1, .null), (264, .getfield 110, 3, .null)]
theorem e_X11_three_18_k : e_X11_three_18.all (fun q => xokB cX11_three q && xokL q) = true := by decide +kernel
def e_X11_three_19 : List xI := [(386, .aload_n 0, 1, .null), (387, .iload_n 2, 1, .null)]
theorem e_X11_three_19_k : e_X11_three_19.all (fun q => xokB cX11_three q && xokL q) = true := by decide +kernel
def e_X11_three_20 : List xI := [(324, .aload_n 0, 1, .null), (325, .iload_n 1, 1, .null), (326, .bipush 20, 2, .int 20), (328, .isub, 1, .null), (329, .iload_n 2, 1, .null)]
theorem e_X11_three_20_k : e_X11_three_20.all (fun q => xokB cX11_three q && xokL q) = true := by decide +kernel
def e_X11_three_21 : List xI := [(336, .aload_n 0, 1, .null), (337, .iload_n 1, 1, .null), (338, .bipush 23, 2, .int 23), (340, .isub, 1, .null), (341, .iload_n 2, 1, .null)]
theorem e_X11_three_21_k : e_X11_three_21.all (fun q => xokB cX11_three q && xokL q) = true := by decide +kernel
def e_X11_three_22 : List xI := [(348, .aload_n 0, 1, .null), (349, .iload_n 2, 1, .null), (350, .iconst 2, 1, .int 2)]
theorem e_X11_three_22_k : e_X11_three_22.all (fun q => xokB cX11_three q && xokL q) = true := by decide +kernel
def e_X11_three_23 : List xI := [(354, .iload_n 1, 1, .null), (355, .bipush 26, 2, .int 26)]
theorem e_X11_three_23_k : e_X11_three_23.all (fun q => xokB cX11_three q && xokL q) = true := by decide +kernel
def e_X11_three_24 : List xI := [(360, .aload_n 0, 1, .null), (361, .iconst 2, 1, .int 2), (362, .aload_n 0, 1, .null), (363, .getfield 7, 3, .null), (366, .bipush 17, 2, .int 17), (368, .iaload, 1, .null)]
theorem e_X11_three_24_k : e_X11_three_24.all (fun q => xokB cX11_three q && xokL q) = true := by decide +kernel
def e_X11_three_25 : List xI := [(372, .aload_n 0, 1, .null), (373, .getfield 7, 3, .null), (376, .bipush 17, 2, .int 17), (378, .aload_n 0, 1, .null), (379, .getfield 110, 3, .null), (382, .iastore, 1, .null)]
theorem e_X11_three_25_k : e_X11_three_25.all (fun q => xokB cX11_three q && xokL q) = true := by decide +kernel
abbrev P_X11_three (r : St) (L : Nat → Nat → Int64) : Option Value → xG → Prop := fun v σ' => PoV r L v σ' ∧ Inv INVM r
abbrev R_X11_three : Room := { frames := 8, cells := 0, slots := 0, locals := 194 }
abbrev C_X11_three (l : Launch) (r : St) (L : Nat → Nat → Int64) (V : XJ) : Prop := XC l yX11_three.cls yX11_three.name cX11_three 5 R_X11_three 0 0 fl_X11 kc_X11 LAY.length (xfin none LAY (P_X11_three r L)) V
def f_X11_three_386 (x2 : Int32) (M : St) : St := (xb (f_X11_system x2 M) fun q81 => q81)
def f_X11_three_324 (x1 : Int32) (x2 : Int32) (M : St) : St := (xb (f_X11_extendOrStore (x1 - 20) x2 M) fun q84 => q84)
def f_X11_three_336 (x1 : Int32) (x2 : Int32) (M : St) : St := (xb (f_X11_loadMany (x1 - 23) x2 M) fun q87 => q87)
def f_X11_three_372  (M : St) : St := (xup M 15 17 (M 14 26))
def f_X11_three_348 (x1 : Int32) (x2 : Int32) (M : St) : St := (xb (f_X11_find x2 2 M) fun q90 => (if x1 = 26 then (xb (f_X11_push 2 (q90 15 17) q90) fun q95 => f_X11_three_372  q95) else f_X11_three_372  q90))
def f_X11_three_25 (x1 : Int32) (x2 : Int32) (M : St) : St := (if x1 = 3 then (xb (f_X11_find x2 1 M) fun q11 => (xb (f_X11_store 1 (q11 14 2) q11) fun q14 => q14)) else (if x1 = 4 then f_X11_three_386 x2 M else (if x1 = 5 then f_X11_three_386 x2 M else (if x1 = 6 then f_X11_three_386 x2 M else (if x1 = 7 then (xb (f_X11_loadAt x2 1 M) fun q21 => (xup q21.2 14 2 (((q21.2 14 2) &&& (-32)) ||| (q21.1 &&& 31)))) else (if x1 = 8 then f_X11_three_386 x2 M else (if x1 = 9 then f_X11_three_386 x2 M else (if x1 = 10 then f_X11_three_386 x2 M else (if x1 = 11 then (xb (f_X11_loadAt x2 1 M) fun q29 => (xb (f_X11_setStatus q29.1 q29.2) fun q32 => q32)) else (if x1 = 12 then f_X11_three_386 x2 M else (if x1 = 13 then f_X11_three_386 x2 M else (if x1 = 14 then f_X11_three_386 x2 M else (if x1 = 15 then (xb (f_X11_loadAt x2 0 M) fun q39 => (xb (f_X11_tens q39.1 0 1 q39.2) fun q42 => (xb (f_X11_store 0 q42.1 q42.2) fun q45 => q45))) else (if x1 = 16 then f_X11_three_386 x2 M else (if x1 = 17 then f_X11_three_386 x2 M else (if x1 = 18 then f_X11_three_386 x2 M else (if x1 = 19 then (xb (f_X11_loadAt x2 0 M) fun q52 => (xb (f_X11_test 0 q52.1 q52.2) fun q55 => (xb (f_X11_store 0 (q52.1 ||| 128) q55) fun q58 => q58))) else (if x1 = 20 then (xb (f_X11_find x2 2 M) fun q62 => (if (q62 14 25) = 16 then (xb (f_X11_push 2 (q62 14 26) q62) fun q71 => q71) else (xb (f_X11_test 2 ((xup q62 15 (q62 14 25).toNatClampNeg (((q62 15 (q62 14 25).toNatClampNeg) <<< ((16 : Int32) &&& 31)) ||| (ius (q62 15 (q62 14 25).toNatClampNeg) 16))) 15 (q62 14 25).toNatClampNeg) (xup q62 15 (q62 14 25).toNatClampNeg (((q62 15 (q62 14 25).toNatClampNeg) <<< ((16 : Int32) &&& 31)) ||| (ius (q62 15 (q62 14 25).toNatClampNeg) 16)))) fun q67 => q67))) else (if x1 = 21 then f_X11_three_324 x1 x2 M else (if x1 = 22 then f_X11_three_324 x1 x2 M else (if x1 = 23 then f_X11_three_386 x2 M else (if x1 = 24 then f_X11_three_336 x1 x2 M else (if x1 = 25 then f_X11_three_336 x1 x2 M else (if x1 = 26 then f_X11_three_348 x1 x2 M else (if x1 = 27 then f_X11_three_348 x1 x2 M else f_X11_three_386 x2 M)))))))))))))))))))))))))
def f_X11_three (a1 : Int32) (a2 : Int32) (M : St) : St := (if 19 ≤ a1 then f_X11_three_25 a1 a2 M else (if 3 ≤ (a1 &&& 3) then f_X11_three_25 a1 a2 M else (xb (f_X11_one (a1 >>> ((2 : Int32) &&& 31)) (a1 &&& 3) a2 M) fun q7 => q7)))
set_option maxRecDepth 20000 in
set_option maxHeartbeats 4000000 in
theorem b_X11_three_386 {l : Launch} {L : Nat → Nat → Int64} {V : XJ} (r : St) (C : C_X11_three l r L V) (x2 : Int32) (M : St) (wx2 : xrg 0 63 x2) (hI : Inv INVM M) (h : f_X11_three_386 x2 M = r) : V 0 0 386 [(0, .ref 14), (2, .int x2)] [] LAY (M, L) := by
  unfold f_X11_three_386 at h
  refine x_run C e_X11_three_19 e_X11_three_19_k (pc' := 388) (lv' := [(0, .ref 14), (2, .int x2)]) (st' := [.int x2, .ref 14]) (σ' := (M, L)) rfl ⟨trivial, trivial, trivial⟩ ?_
  refine x_callV C (k := 14) (ci := 8) (rest := []) (avs := [.int x2]) (k_X11_system l x2 M L wx2 hI) yoX11_system ml_X11_218 rfl rfl rfl rfl ⟨Nat.zero_le _, Nat.zero_le _⟩ (show decode cX11_three 388 = .ok (.invokevirtual 218, 3) from by decide +kernel) rfl (fun v σ' hPo => ?_)
  obtain ⟨⟨rfl, rfl⟩, hI83⟩ := hPo
  generalize hq81 : f_X11_system x2 M = q81 at h hI83 ⊢
  have h := xb_eq h
  show V 0 0 391 [(0, .ref 14), (2, .int x2)] [] LAY (q81, L)
  subst h
  exact x_vret C (show decode cX11_three 391 = .ok (.return_, 1) from by decide +kernel) (x_finV ⟨⟨rfl, rfl⟩, hI83⟩) (Nat.le_refl 0) (Nat.le_refl 0)
set_option maxRecDepth 20000 in
set_option maxHeartbeats 4000000 in
theorem b_X11_three_324 {l : Launch} {L : Nat → Nat → Int64} {V : XJ} (r : St) (C : C_X11_three l r L V) (x1 : Int32) (x2 : Int32) (M : St) (wx2 : xrg 0 63 x2) (hI : Inv INVM M) (h : f_X11_three_324 x1 x2 M = r) : V 0 0 324 [(0, .ref 14), (1, .int x1), (2, .int x2)] [] LAY (M, L) := by
  unfold f_X11_three_324 at h
  refine x_run C e_X11_three_20 e_X11_three_20_k (pc' := 330) (lv' := [(0, .ref 14), (1, .int x1), (2, .int x2)]) (st' := [.int x2, .int (x1 - 20), .ref 14]) (σ' := (M, L)) rfl ⟨trivial, trivial, trivial, trivial, trivial, trivial⟩ ?_
  refine x_callV C (k := 14) (ci := 8) (rest := []) (avs := [.int (x1 - 20), .int x2]) (k_X11_extendOrStore l (x1 - 20) x2 M L wx2 hI) yoX11_extendOrStore ml_X11_212 rfl rfl rfl rfl ⟨Nat.zero_le _, Nat.zero_le _⟩ (show decode cX11_three 330 = .ok (.invokevirtual 212, 3) from by decide +kernel) rfl (fun v σ' hPo => ?_)
  obtain ⟨⟨rfl, rfl⟩, hI86⟩ := hPo
  generalize hq84 : f_X11_extendOrStore (x1 - 20) x2 M = q84 at h hI86 ⊢
  have h := xb_eq h
  show V 0 0 333 [(0, .ref 14), (1, .int x1), (2, .int x2)] [] LAY (q84, L)
  refine x_goto C (show decode cX11_three 333 = .ok (.goto 58, 3) from by decide +kernel) (tgt := 391) (by decide) ?_
  subst h
  exact x_vret C (show decode cX11_three 391 = .ok (.return_, 1) from by decide +kernel) (x_finV ⟨⟨rfl, rfl⟩, hI86⟩) (Nat.le_refl 0) (Nat.le_refl 0)
set_option maxRecDepth 20000 in
set_option maxHeartbeats 4000000 in
theorem b_X11_three_336 {l : Launch} {L : Nat → Nat → Int64} {V : XJ} (r : St) (C : C_X11_three l r L V) (x1 : Int32) (x2 : Int32) (M : St) (wx2 : xrg 0 63 x2) (hI : Inv INVM M) (h : f_X11_three_336 x1 x2 M = r) : V 0 0 336 [(0, .ref 14), (1, .int x1), (2, .int x2)] [] LAY (M, L) := by
  unfold f_X11_three_336 at h
  refine x_run C e_X11_three_21 e_X11_three_21_k (pc' := 342) (lv' := [(0, .ref 14), (1, .int x1), (2, .int x2)]) (st' := [.int x2, .int (x1 - 23), .ref 14]) (σ' := (M, L)) rfl ⟨trivial, trivial, trivial, trivial, trivial, trivial⟩ ?_
  refine x_callV C (k := 14) (ci := 8) (rest := []) (avs := [.int (x1 - 23), .int x2]) (k_X11_loadMany l (x1 - 23) x2 M L wx2 hI) yoX11_loadMany ml_X11_215 rfl rfl rfl rfl ⟨Nat.zero_le _, Nat.zero_le _⟩ (show decode cX11_three 342 = .ok (.invokevirtual 215, 3) from by decide +kernel) rfl (fun v σ' hPo => ?_)
  obtain ⟨⟨rfl, rfl⟩, hI89⟩ := hPo
  generalize hq87 : f_X11_loadMany (x1 - 23) x2 M = q87 at h hI89 ⊢
  have h := xb_eq h
  show V 0 0 345 [(0, .ref 14), (1, .int x1), (2, .int x2)] [] LAY (q87, L)
  refine x_goto C (show decode cX11_three 345 = .ok (.goto 46, 3) from by decide +kernel) (tgt := 391) (by decide) ?_
  subst h
  exact x_vret C (show decode cX11_three 391 = .ok (.return_, 1) from by decide +kernel) (x_finV ⟨⟨rfl, rfl⟩, hI89⟩) (Nat.le_refl 0) (Nat.le_refl 0)
set_option maxRecDepth 20000 in
set_option maxHeartbeats 4000000 in
theorem b_X11_three_372 {l : Launch} {L : Nat → Nat → Int64} {V : XJ} (r : St) (C : C_X11_three l r L V)  (M : St) (hI : Inv INVM M) (h : f_X11_three_372  M = r) : V 0 0 372 [(0, .ref 14)] [] LAY (M, L) := by
  unfold f_X11_three_372 at h
  refine x_run C e_X11_three_25 e_X11_three_25_k (pc' := 383) (lv' := [(0, .ref 14)]) (st' := []) (σ' := ((xup M 15 17 (M 14 26)), L)) rfl ⟨trivial, trivial, trivial, trivial, trivial, (x_rgv (x_rgc (x := 17) (k := 17) (by decide)) (by decide) (by decide)), trivial⟩ ?_
  have hI98 : Inv INVM (xup M 15 17 (M 14 26)) := (hI.arr 15 17 (M 14 26) (by decide))
  refine x_goto C (show decode cX11_three 383 = .ok (.goto 8, 3) from by decide +kernel) (tgt := 391) (by decide) ?_
  subst h
  exact x_vret C (show decode cX11_three 391 = .ok (.return_, 1) from by decide +kernel) (x_finV ⟨⟨rfl, rfl⟩, hI98⟩) (Nat.le_refl 0) (Nat.le_refl 0)
set_option maxRecDepth 20000 in
set_option maxHeartbeats 4000000 in
theorem b_X11_three_348 {l : Launch} {L : Nat → Nat → Int64} {V : XJ} (r : St) (C : C_X11_three l r L V) (x1 : Int32) (x2 : Int32) (M : St) (wx2 : xrg 0 63 x2) (hI : Inv INVM M) (h : f_X11_three_348 x1 x2 M = r) : V 0 0 348 [(0, .ref 14), (1, .int x1), (2, .int x2)] [] LAY (M, L) := by
  unfold f_X11_three_348 at h
  refine x_run C e_X11_three_22 e_X11_three_22_k (pc' := 351) (lv' := [(0, .ref 14), (1, .int x1), (2, .int x2)]) (st' := [.int 2, .int x2, .ref 14]) (σ' := (M, L)) rfl ⟨trivial, trivial, trivial, trivial⟩ ?_
  refine x_callV C (k := 14) (ci := 8) (rest := []) (avs := [.int x2, .int 2]) (k_X11_find l x2 2 M L hI) yoX11_find ml_X11_125 rfl rfl rfl rfl ⟨Nat.zero_le _, Nat.zero_le _⟩ (show decode cX11_three 351 = .ok (.invokevirtual 125, 3) from by decide +kernel) rfl (fun v σ' hPo => ?_)
  obtain ⟨⟨rfl, rfl⟩, hI92⟩ := hPo
  generalize hq90 : f_X11_find x2 2 M = q90 at h hI92 ⊢
  have h := xb_eq h
  show V 0 0 354 [(0, .ref 14), (1, .int x1), (2, .int x2)] [] LAY (q90, L)
  refine x_run C e_X11_three_23 e_X11_three_23_k (pc' := 357) (lv' := [(0, .ref 14), (1, .int x1), (2, .int x2)]) (st' := [.int 26, .int x1]) (σ' := (q90, L)) rfl ⟨trivial, trivial, trivial⟩ ?_
  refine x_icmp_ne C (show decode cX11_three 357 = .ok (.if_icmp .ne 15, 3) from by decide +kernel) (tgt := 372) (by decide) (fun c93 => ?_) (fun c93 => ?_)
  · rw [if_neg c93] at h
    refine x_lv C [0] rfl ?_
    exact b_X11_three_372 r C  q90 hI92 h
  · rw [if_pos c93] at h
    have g94 : xrg 26 26 x1 := (x_c_eq (x_rgt x1) (x_rgc (x := 26) (k := 26) (by decide)) c93).1
    refine x_run C e_X11_three_24 e_X11_three_24_k (pc' := 369) (lv' := [(0, .ref 14), (1, .int x1), (2, .int x2)]) (st' := [.int (q90 15 17), .int 2, .ref 14]) (σ' := (q90, L)) rfl ⟨trivial, trivial, trivial, trivial, trivial, (x_rgv (x_rgc (x := 17) (k := 17) (by decide)) (by decide) (by decide)), trivial⟩ ?_
    refine x_callV C (k := 14) (ci := 8) (rest := []) (avs := [.int 2, .int (q90 15 17)]) (k_X11_push l 2 (q90 15 17) q90 L hI92) yoX11_push ml_X11_209 rfl rfl rfl rfl ⟨Nat.zero_le _, Nat.zero_le _⟩ (show decode cX11_three 369 = .ok (.invokevirtual 209, 3) from by decide +kernel) rfl (fun v σ' hPo => ?_)
    obtain ⟨⟨rfl, rfl⟩, hI97⟩ := hPo
    generalize hq95 : f_X11_push 2 (q90 15 17) q90 = q95 at h hI97 ⊢
    have h := xb_eq h
    show V 0 0 372 [(0, .ref 14), (1, .int x1), (2, .int x2)] [] LAY (q95, L)
    refine x_lv C [0] rfl ?_
    exact b_X11_three_372 r C  q95 hI97 h
set_option maxRecDepth 20000 in
set_option maxHeartbeats 4000000 in
theorem b_X11_three_25 {l : Launch} {L : Nat → Nat → Int64} {V : XJ} (r : St) (C : C_X11_three l r L V) (x1 : Int32) (x2 : Int32) (M : St) (wx2 : xrg 0 63 x2) (hI : Inv INVM M) (h : f_X11_three_25 x1 x2 M = r) : V 0 0 25 [(0, .ref 14), (1, .int x1), (2, .int x2)] [] LAY (M, L) := by
  unfold f_X11_three_25 at h
  refine x_run C e_X11_three_4 e_X11_three_4_k (pc' := 26) (lv' := [(0, .ref 14), (1, .int x1), (2, .int x2)]) (st' := [.int x1]) (σ' := (M, L)) rfl ⟨trivial, trivial⟩ ?_
  by_cases c10 : x1 = 3
  · rw [if_pos c10] at h
    refine x_tin C (show decode cX11_three 26 = .ok (.tableswitch 360 3 27 #[114, 360, 360, 360, 132, 360, 360, 360, 158, 360, 360, 360, 171, 360, 360, 360, 191, 220, 298, 298, 360, 310, 310, 322, 322], 114) from by decide +kernel) 3 c10 (off := 114) (tgt := 140) (by decide) ?_
    refine x_run C e_X11_three_5 e_X11_three_5_k (pc' := 143) (lv' := [(0, .ref 14), (1, .int x1), (2, .int x2)]) (st' := [.int 1, .int x2, .ref 14]) (σ' := (M, L)) rfl ⟨trivial, trivial, trivial, trivial⟩ ?_
    refine x_callV C (k := 14) (ci := 8) (rest := []) (avs := [.int x2, .int 1]) (k_X11_find l x2 1 M L hI) yoX11_find ml_X11_125 rfl rfl rfl rfl ⟨Nat.zero_le _, Nat.zero_le _⟩ (show decode cX11_three 143 = .ok (.invokevirtual 125, 3) from by decide +kernel) rfl (fun v σ' hPo => ?_)
    obtain ⟨⟨rfl, rfl⟩, hI13⟩ := hPo
    generalize hq11 : f_X11_find x2 1 M = q11 at h hI13 ⊢
    have h := xb_eq h
    show V 0 0 146 [(0, .ref 14), (1, .int x1), (2, .int x2)] [] LAY (q11, L)
    refine x_run C e_X11_three_6 e_X11_three_6_k (pc' := 152) (lv' := [(0, .ref 14), (1, .int x1), (2, .int x2)]) (st' := [.int (q11 14 2), .int 1, .ref 14]) (σ' := (q11, L)) rfl ⟨trivial, trivial, trivial, trivial, trivial⟩ ?_
    refine x_callV C (k := 14) (ci := 8) (rest := []) (avs := [.int 1, .int (q11 14 2)]) (k_X11_store l 1 (q11 14 2) q11 L hI13) yoX11_store ml_X11_193 rfl rfl rfl rfl ⟨Nat.zero_le _, Nat.zero_le _⟩ (show decode cX11_three 152 = .ok (.invokevirtual 193, 3) from by decide +kernel) rfl (fun v σ' hPo => ?_)
    obtain ⟨⟨rfl, rfl⟩, hI16⟩ := hPo
    generalize hq14 : f_X11_store 1 (q11 14 2) q11 = q14 at h hI16 ⊢
    have h := xb_eq h
    show V 0 0 155 [(0, .ref 14), (1, .int x1), (2, .int x2)] [] LAY (q14, L)
    refine x_goto C (show decode cX11_three 155 = .ok (.goto 236, 3) from by decide +kernel) (tgt := 391) (by decide) ?_
    subst h
    exact x_vret C (show decode cX11_three 391 = .ok (.return_, 1) from by decide +kernel) (x_finV ⟨⟨rfl, rfl⟩, hI16⟩) (Nat.le_refl 0) (Nat.le_refl 0)
  rw [if_neg c10] at h
  by_cases c17 : x1 = 4
  · rw [if_pos c17] at h
    refine x_tin C (show decode cX11_three 26 = .ok (.tableswitch 360 3 27 #[114, 360, 360, 360, 132, 360, 360, 360, 158, 360, 360, 360, 171, 360, 360, 360, 191, 220, 298, 298, 360, 310, 310, 322, 322], 114) from by decide +kernel) 4 c17 (off := 360) (tgt := 386) (by decide) ?_
    refine x_lv C [0, 2] rfl ?_
    exact b_X11_three_386 r C x2 M wx2 hI h
  rw [if_neg c17] at h
  by_cases c18 : x1 = 5
  · rw [if_pos c18] at h
    refine x_tin C (show decode cX11_three 26 = .ok (.tableswitch 360 3 27 #[114, 360, 360, 360, 132, 360, 360, 360, 158, 360, 360, 360, 171, 360, 360, 360, 191, 220, 298, 298, 360, 310, 310, 322, 322], 114) from by decide +kernel) 5 c18 (off := 360) (tgt := 386) (by decide) ?_
    refine x_lv C [0, 2] rfl ?_
    exact b_X11_three_386 r C x2 M wx2 hI h
  rw [if_neg c18] at h
  by_cases c19 : x1 = 6
  · rw [if_pos c19] at h
    refine x_tin C (show decode cX11_three 26 = .ok (.tableswitch 360 3 27 #[114, 360, 360, 360, 132, 360, 360, 360, 158, 360, 360, 360, 171, 360, 360, 360, 191, 220, 298, 298, 360, 310, 310, 322, 322], 114) from by decide +kernel) 6 c19 (off := 360) (tgt := 386) (by decide) ?_
    refine x_lv C [0, 2] rfl ?_
    exact b_X11_three_386 r C x2 M wx2 hI h
  rw [if_neg c19] at h
  by_cases c20 : x1 = 7
  · rw [if_pos c20] at h
    refine x_tin C (show decode cX11_three 26 = .ok (.tableswitch 360 3 27 #[114, 360, 360, 360, 132, 360, 360, 360, 158, 360, 360, 360, 171, 360, 360, 360, 191, 220, 298, 298, 360, 310, 310, 322, 322], 114) from by decide +kernel) 7 c20 (off := 132) (tgt := 158) (by decide) ?_
    refine x_run C e_X11_three_7 e_X11_three_7_k (pc' := 161) (lv' := [(0, .ref 14), (1, .int x1), (2, .int x2)]) (st' := [.int 1, .int x2, .ref 14]) (σ' := (M, L)) rfl ⟨trivial, trivial, trivial, trivial⟩ ?_
    refine x_callV C (k := 14) (ci := 8) (rest := []) (avs := [.int x2, .int 1]) (k_X11_loadAt l x2 1 M L hI) yoX11_loadAt ml_X11_190 rfl rfl rfl rfl ⟨Nat.zero_le _, Nat.zero_le _⟩ (show decode cX11_three 161 = .ok (.invokevirtual 190, 3) from by decide +kernel) rfl (fun v σ' hPo => ?_)
    obtain ⟨⟨rfl, rfl⟩, g22, hI23⟩ := hPo
    generalize hq21 : f_X11_loadAt x2 1 M = q21 at h g22 hI23 ⊢
    obtain ⟨r21, M21⟩ := q21
    have h := xb_eq h
    try dsimp only at h g22 hI23
    show V 0 0 164 [(0, .ref 14), (1, .int x1), (2, .int x2)] [.int r21] LAY (M21, L)
    refine x_run C e_X11_three_8 e_X11_three_8_k (pc' := 181) (lv' := [(3, .int r21), (0, .ref 14), (1, .int x1), (2, .int x2)]) (st' := []) (σ' := ((xup M21 14 2 (((M21 14 2) &&& (-32)) ||| (r21 &&& 31))), L)) rfl ⟨trivial, trivial, trivial, trivial, trivial, trivial, trivial, trivial, trivial, trivial, trivial, trivial⟩ ?_
    have hI24 : Inv INVM (xup M21 14 2 (((M21 14 2) &&& (-32)) ||| (r21 &&& 31))) := (hI23.fld 14 2 (((M21 14 2) &&& (-32)) ||| (r21 &&& 31)) (by decide))
    refine x_goto C (show decode cX11_three 181 = .ok (.goto 210, 3) from by decide +kernel) (tgt := 391) (by decide) ?_
    subst h
    exact x_vret C (show decode cX11_three 391 = .ok (.return_, 1) from by decide +kernel) (x_finV ⟨⟨rfl, rfl⟩, hI24⟩) (Nat.le_refl 0) (Nat.le_refl 0)
  rw [if_neg c20] at h
  by_cases c25 : x1 = 8
  · rw [if_pos c25] at h
    refine x_tin C (show decode cX11_three 26 = .ok (.tableswitch 360 3 27 #[114, 360, 360, 360, 132, 360, 360, 360, 158, 360, 360, 360, 171, 360, 360, 360, 191, 220, 298, 298, 360, 310, 310, 322, 322], 114) from by decide +kernel) 8 c25 (off := 360) (tgt := 386) (by decide) ?_
    refine x_lv C [0, 2] rfl ?_
    exact b_X11_three_386 r C x2 M wx2 hI h
  rw [if_neg c25] at h
  by_cases c26 : x1 = 9
  · rw [if_pos c26] at h
    refine x_tin C (show decode cX11_three 26 = .ok (.tableswitch 360 3 27 #[114, 360, 360, 360, 132, 360, 360, 360, 158, 360, 360, 360, 171, 360, 360, 360, 191, 220, 298, 298, 360, 310, 310, 322, 322], 114) from by decide +kernel) 9 c26 (off := 360) (tgt := 386) (by decide) ?_
    refine x_lv C [0, 2] rfl ?_
    exact b_X11_three_386 r C x2 M wx2 hI h
  rw [if_neg c26] at h
  by_cases c27 : x1 = 10
  · rw [if_pos c27] at h
    refine x_tin C (show decode cX11_three 26 = .ok (.tableswitch 360 3 27 #[114, 360, 360, 360, 132, 360, 360, 360, 158, 360, 360, 360, 171, 360, 360, 360, 191, 220, 298, 298, 360, 310, 310, 322, 322], 114) from by decide +kernel) 10 c27 (off := 360) (tgt := 386) (by decide) ?_
    refine x_lv C [0, 2] rfl ?_
    exact b_X11_three_386 r C x2 M wx2 hI h
  rw [if_neg c27] at h
  by_cases c28 : x1 = 11
  · rw [if_pos c28] at h
    refine x_tin C (show decode cX11_three 26 = .ok (.tableswitch 360 3 27 #[114, 360, 360, 360, 132, 360, 360, 360, 158, 360, 360, 360, 171, 360, 360, 360, 191, 220, 298, 298, 360, 310, 310, 322, 322], 114) from by decide +kernel) 11 c28 (off := 158) (tgt := 184) (by decide) ?_
    refine x_run C e_X11_three_9 e_X11_three_9_k (pc' := 188) (lv' := [(0, .ref 14), (1, .int x1), (2, .int x2)]) (st' := [.int 1, .int x2, .ref 14, .ref 14]) (σ' := (M, L)) rfl ⟨trivial, trivial, trivial, trivial, trivial⟩ ?_
    refine x_callV C (k := 14) (ci := 8) (rest := [.ref 14]) (avs := [.int x2, .int 1]) (k_X11_loadAt l x2 1 M L hI) yoX11_loadAt ml_X11_190 rfl rfl rfl rfl ⟨Nat.zero_le _, Nat.zero_le _⟩ (show decode cX11_three 188 = .ok (.invokevirtual 190, 3) from by decide +kernel) rfl (fun v σ' hPo => ?_)
    obtain ⟨⟨rfl, rfl⟩, g30, hI31⟩ := hPo
    generalize hq29 : f_X11_loadAt x2 1 M = q29 at h g30 hI31 ⊢
    obtain ⟨r29, M29⟩ := q29
    have h := xb_eq h
    try dsimp only at h g30 hI31
    show V 0 0 191 [(0, .ref 14), (1, .int x1), (2, .int x2)] [.int r29, .ref 14] LAY (M29, L)
    refine x_callV C (k := 14) (ci := 8) (rest := []) (avs := [.int r29]) (k_X11_setStatus l r29 M29 L hI31) yoX11_setStatus ml_X11_202 rfl rfl rfl rfl ⟨Nat.zero_le _, Nat.zero_le _⟩ (show decode cX11_three 191 = .ok (.invokevirtual 202, 3) from by decide +kernel) rfl (fun v σ' hPo => ?_)
    obtain ⟨⟨rfl, rfl⟩, hI34⟩ := hPo
    generalize hq32 : f_X11_setStatus r29 M29 = q32 at h hI34 ⊢
    have h := xb_eq h
    show V 0 0 194 [(0, .ref 14), (1, .int x1), (2, .int x2)] [] LAY (q32, L)
    refine x_goto C (show decode cX11_three 194 = .ok (.goto 197, 3) from by decide +kernel) (tgt := 391) (by decide) ?_
    subst h
    exact x_vret C (show decode cX11_three 391 = .ok (.return_, 1) from by decide +kernel) (x_finV ⟨⟨rfl, rfl⟩, hI34⟩) (Nat.le_refl 0) (Nat.le_refl 0)
  rw [if_neg c28] at h
  by_cases c35 : x1 = 12
  · rw [if_pos c35] at h
    refine x_tin C (show decode cX11_three 26 = .ok (.tableswitch 360 3 27 #[114, 360, 360, 360, 132, 360, 360, 360, 158, 360, 360, 360, 171, 360, 360, 360, 191, 220, 298, 298, 360, 310, 310, 322, 322], 114) from by decide +kernel) 12 c35 (off := 360) (tgt := 386) (by decide) ?_
    refine x_lv C [0, 2] rfl ?_
    exact b_X11_three_386 r C x2 M wx2 hI h
  rw [if_neg c35] at h
  by_cases c36 : x1 = 13
  · rw [if_pos c36] at h
    refine x_tin C (show decode cX11_three 26 = .ok (.tableswitch 360 3 27 #[114, 360, 360, 360, 132, 360, 360, 360, 158, 360, 360, 360, 171, 360, 360, 360, 191, 220, 298, 298, 360, 310, 310, 322, 322], 114) from by decide +kernel) 13 c36 (off := 360) (tgt := 386) (by decide) ?_
    refine x_lv C [0, 2] rfl ?_
    exact b_X11_three_386 r C x2 M wx2 hI h
  rw [if_neg c36] at h
  by_cases c37 : x1 = 14
  · rw [if_pos c37] at h
    refine x_tin C (show decode cX11_three 26 = .ok (.tableswitch 360 3 27 #[114, 360, 360, 360, 132, 360, 360, 360, 158, 360, 360, 360, 171, 360, 360, 360, 191, 220, 298, 298, 360, 310, 310, 322, 322], 114) from by decide +kernel) 14 c37 (off := 360) (tgt := 386) (by decide) ?_
    refine x_lv C [0, 2] rfl ?_
    exact b_X11_three_386 r C x2 M wx2 hI h
  rw [if_neg c37] at h
  by_cases c38 : x1 = 15
  · rw [if_pos c38] at h
    refine x_tin C (show decode cX11_three 26 = .ok (.tableswitch 360 3 27 #[114, 360, 360, 360, 132, 360, 360, 360, 158, 360, 360, 360, 171, 360, 360, 360, 191, 220, 298, 298, 360, 310, 310, 322, 322], 114) from by decide +kernel) 15 c38 (off := 171) (tgt := 197) (by decide) ?_
    refine x_run C e_X11_three_10 e_X11_three_10_k (pc' := 203) (lv' := [(0, .ref 14), (1, .int x1), (2, .int x2)]) (st' := [.int 0, .int x2, .ref 14, .ref 14, .int 0, .ref 14]) (σ' := (M, L)) rfl ⟨trivial, trivial, trivial, trivial, trivial, trivial, trivial⟩ ?_
    refine x_callV C (k := 14) (ci := 8) (rest := [.ref 14, .int 0, .ref 14]) (avs := [.int x2, .int 0]) (k_X11_loadAt l x2 0 M L hI) yoX11_loadAt ml_X11_190 rfl rfl rfl rfl ⟨Nat.zero_le _, Nat.zero_le _⟩ (show decode cX11_three 203 = .ok (.invokevirtual 190, 3) from by decide +kernel) rfl (fun v σ' hPo => ?_)
    obtain ⟨⟨rfl, rfl⟩, g40, hI41⟩ := hPo
    generalize hq39 : f_X11_loadAt x2 0 M = q39 at h g40 hI41 ⊢
    obtain ⟨r39, M39⟩ := q39
    have h := xb_eq h
    try dsimp only at h g40 hI41
    show V 0 0 206 [(0, .ref 14), (1, .int x1), (2, .int x2)] [.int r39, .ref 14, .int 0, .ref 14] LAY (M39, L)
    refine x_run C e_X11_three_11 e_X11_three_11_k (pc' := 208) (lv' := [(0, .ref 14), (1, .int x1), (2, .int x2)]) (st' := [.int 1, .int 0, .int r39, .ref 14, .int 0, .ref 14]) (σ' := (M39, L)) rfl ⟨trivial, trivial, trivial⟩ ?_
    refine x_callV C (k := 14) (ci := 8) (rest := [.int 0, .ref 14]) (avs := [.int r39, .int 0, .int 1]) (k_X11_tens l r39 0 1 M39 L hI41) yoX11_tens ml_X11_205 rfl rfl rfl rfl ⟨Nat.zero_le _, Nat.zero_le _⟩ (show decode cX11_three 208 = .ok (.invokevirtual 205, 3) from by decide +kernel) rfl (fun v σ' hPo => ?_)
    obtain ⟨⟨rfl, rfl⟩, g43, hI44⟩ := hPo
    generalize hq42 : f_X11_tens r39 0 1 M39 = q42 at h g43 hI44 ⊢
    obtain ⟨r42, M42⟩ := q42
    have h := xb_eq h
    try dsimp only at h g43 hI44
    show V 0 0 211 [(0, .ref 14), (1, .int x1), (2, .int x2)] [.int r42, .int 0, .ref 14] LAY (M42, L)
    refine x_callV C (k := 14) (ci := 8) (rest := []) (avs := [.int 0, .int r42]) (k_X11_store l 0 r42 M42 L hI44) yoX11_store ml_X11_193 rfl rfl rfl rfl ⟨Nat.zero_le _, Nat.zero_le _⟩ (show decode cX11_three 211 = .ok (.invokevirtual 193, 3) from by decide +kernel) rfl (fun v σ' hPo => ?_)
    obtain ⟨⟨rfl, rfl⟩, hI47⟩ := hPo
    generalize hq45 : f_X11_store 0 r42 M42 = q45 at h hI47 ⊢
    have h := xb_eq h
    show V 0 0 214 [(0, .ref 14), (1, .int x1), (2, .int x2)] [] LAY (q45, L)
    refine x_goto C (show decode cX11_three 214 = .ok (.goto 177, 3) from by decide +kernel) (tgt := 391) (by decide) ?_
    subst h
    exact x_vret C (show decode cX11_three 391 = .ok (.return_, 1) from by decide +kernel) (x_finV ⟨⟨rfl, rfl⟩, hI47⟩) (Nat.le_refl 0) (Nat.le_refl 0)
  rw [if_neg c38] at h
  by_cases c48 : x1 = 16
  · rw [if_pos c48] at h
    refine x_tin C (show decode cX11_three 26 = .ok (.tableswitch 360 3 27 #[114, 360, 360, 360, 132, 360, 360, 360, 158, 360, 360, 360, 171, 360, 360, 360, 191, 220, 298, 298, 360, 310, 310, 322, 322], 114) from by decide +kernel) 16 c48 (off := 360) (tgt := 386) (by decide) ?_
    refine x_lv C [0, 2] rfl ?_
    exact b_X11_three_386 r C x2 M wx2 hI h
  rw [if_neg c48] at h
  by_cases c49 : x1 = 17
  · rw [if_pos c49] at h
    refine x_tin C (show decode cX11_three 26 = .ok (.tableswitch 360 3 27 #[114, 360, 360, 360, 132, 360, 360, 360, 158, 360, 360, 360, 171, 360, 360, 360, 191, 220, 298, 298, 360, 310, 310, 322, 322], 114) from by decide +kernel) 17 c49 (off := 360) (tgt := 386) (by decide) ?_
    refine x_lv C [0, 2] rfl ?_
    exact b_X11_three_386 r C x2 M wx2 hI h
  rw [if_neg c49] at h
  by_cases c50 : x1 = 18
  · rw [if_pos c50] at h
    refine x_tin C (show decode cX11_three 26 = .ok (.tableswitch 360 3 27 #[114, 360, 360, 360, 132, 360, 360, 360, 158, 360, 360, 360, 171, 360, 360, 360, 191, 220, 298, 298, 360, 310, 310, 322, 322], 114) from by decide +kernel) 18 c50 (off := 360) (tgt := 386) (by decide) ?_
    refine x_lv C [0, 2] rfl ?_
    exact b_X11_three_386 r C x2 M wx2 hI h
  rw [if_neg c50] at h
  by_cases c51 : x1 = 19
  · rw [if_pos c51] at h
    refine x_tin C (show decode cX11_three 26 = .ok (.tableswitch 360 3 27 #[114, 360, 360, 360, 132, 360, 360, 360, 158, 360, 360, 360, 171, 360, 360, 360, 191, 220, 298, 298, 360, 310, 310, 322, 322], 114) from by decide +kernel) 19 c51 (off := 191) (tgt := 217) (by decide) ?_
    refine x_run C e_X11_three_12 e_X11_three_12_k (pc' := 220) (lv' := [(0, .ref 14), (1, .int x1), (2, .int x2)]) (st' := [.int 0, .int x2, .ref 14]) (σ' := (M, L)) rfl ⟨trivial, trivial, trivial, trivial⟩ ?_
    refine x_callV C (k := 14) (ci := 8) (rest := []) (avs := [.int x2, .int 0]) (k_X11_loadAt l x2 0 M L hI) yoX11_loadAt ml_X11_190 rfl rfl rfl rfl ⟨Nat.zero_le _, Nat.zero_le _⟩ (show decode cX11_three 220 = .ok (.invokevirtual 190, 3) from by decide +kernel) rfl (fun v σ' hPo => ?_)
    obtain ⟨⟨rfl, rfl⟩, g53, hI54⟩ := hPo
    generalize hq52 : f_X11_loadAt x2 0 M = q52 at h g53 hI54 ⊢
    obtain ⟨r52, M52⟩ := q52
    have h := xb_eq h
    try dsimp only at h g53 hI54
    show V 0 0 223 [(0, .ref 14), (1, .int x1), (2, .int x2)] [.int r52] LAY (M52, L)
    refine x_run C e_X11_three_13 e_X11_three_13_k (pc' := 229) (lv' := [(4, .int r52), (0, .ref 14), (1, .int x1), (2, .int x2)]) (st' := [.int r52, .int 0, .ref 14]) (σ' := (M52, L)) rfl ⟨trivial, trivial, trivial, trivial, trivial⟩ ?_
    refine x_callV C (k := 14) (ci := 8) (rest := []) (avs := [.int 0, .int r52]) (k_X11_test l 0 r52 M52 L hI54) yoX11_test ml_X11_196 rfl rfl rfl rfl ⟨Nat.zero_le _, Nat.zero_le _⟩ (show decode cX11_three 229 = .ok (.invokevirtual 196, 3) from by decide +kernel) rfl (fun v σ' hPo => ?_)
    obtain ⟨⟨rfl, rfl⟩, hI57⟩ := hPo
    generalize hq55 : f_X11_test 0 r52 M52 = q55 at h hI57 ⊢
    have h := xb_eq h
    show V 0 0 232 [(4, .int r52), (0, .ref 14), (1, .int x1), (2, .int x2)] [] LAY (q55, L)
    refine x_run C e_X11_three_14 e_X11_three_14_k (pc' := 240) (lv' := [(4, .int r52), (0, .ref 14), (1, .int x1), (2, .int x2)]) (st' := [.int (r52 ||| 128), .int 0, .ref 14]) (σ' := (q55, L)) rfl ⟨trivial, trivial, trivial, trivial, trivial, trivial⟩ ?_
    refine x_callV C (k := 14) (ci := 8) (rest := []) (avs := [.int 0, .int (r52 ||| 128)]) (k_X11_store l 0 (r52 ||| 128) q55 L hI57) yoX11_store ml_X11_193 rfl rfl rfl rfl ⟨Nat.zero_le _, Nat.zero_le _⟩ (show decode cX11_three 240 = .ok (.invokevirtual 193, 3) from by decide +kernel) rfl (fun v σ' hPo => ?_)
    obtain ⟨⟨rfl, rfl⟩, hI60⟩ := hPo
    generalize hq58 : f_X11_store 0 (r52 ||| 128) q55 = q58 at h hI60 ⊢
    have h := xb_eq h
    show V 0 0 243 [(4, .int r52), (0, .ref 14), (1, .int x1), (2, .int x2)] [] LAY (q58, L)
    refine x_goto C (show decode cX11_three 243 = .ok (.goto 148, 3) from by decide +kernel) (tgt := 391) (by decide) ?_
    subst h
    exact x_vret C (show decode cX11_three 391 = .ok (.return_, 1) from by decide +kernel) (x_finV ⟨⟨rfl, rfl⟩, hI60⟩) (Nat.le_refl 0) (Nat.le_refl 0)
  rw [if_neg c51] at h
  by_cases c61 : x1 = 20
  · rw [if_pos c61] at h
    refine x_tin C (show decode cX11_three 26 = .ok (.tableswitch 360 3 27 #[114, 360, 360, 360, 132, 360, 360, 360, 158, 360, 360, 360, 171, 360, 360, 360, 191, 220, 298, 298, 360, 310, 310, 322, 322], 114) from by decide +kernel) 20 c61 (off := 220) (tgt := 246) (by decide) ?_
    refine x_run C e_X11_three_15 e_X11_three_15_k (pc' := 249) (lv' := [(0, .ref 14), (1, .int x1), (2, .int x2)]) (st' := [.int 2, .int x2, .ref 14]) (σ' := (M, L)) rfl ⟨trivial, trivial, trivial, trivial⟩ ?_
    refine x_callV C (k := 14) (ci := 8) (rest := []) (avs := [.int x2, .int 2]) (k_X11_find l x2 2 M L hI) yoX11_find ml_X11_125 rfl rfl rfl rfl ⟨Nat.zero_le _, Nat.zero_le _⟩ (show decode cX11_three 249 = .ok (.invokevirtual 125, 3) from by decide +kernel) rfl (fun v σ' hPo => ?_)
    obtain ⟨⟨rfl, rfl⟩, hI64⟩ := hPo
    generalize hq62 : f_X11_find x2 2 M = q62 at h hI64 ⊢
    have h := xb_eq h
    show V 0 0 252 [(0, .ref 14), (1, .int x1), (2, .int x2)] [] LAY (q62, L)
    refine x_run C e_X11_three_16 e_X11_three_16_k (pc' := 258) (lv' := [(0, .ref 14), (1, .int x1), (2, .int x2)]) (st' := [.int 16, .int (q62 14 25)]) (σ' := (q62, L)) rfl ⟨trivial, trivial, trivial, trivial⟩ ?_
    refine x_icmp_ne C (show decode cX11_three 258 = .ok (.if_icmp .ne 15, 3) from by decide +kernel) (tgt := 273) (by decide) (fun c65 => ?_) (fun c65 => ?_)
    · rw [if_neg c65] at h
      refine x_run C e_X11_three_17 e_X11_three_17_k (pc' := 318) (lv' := [(0, .ref 14), (1, .int x1), (2, .int x2)]) (st' := [.int ((xup q62 15 (q62 14 25).toNatClampNeg (((q62 15 (q62 14 25).toNatClampNeg) <<< ((16 : Int32) &&& 31)) ||| (ius (q62 15 (q62 14 25).toNatClampNeg) 16))) 15 (q62 14 25).toNatClampNeg), .int 2, .ref 14]) (σ' := ((xup q62 15 (q62 14 25).toNatClampNeg (((q62 15 (q62 14 25).toNatClampNeg) <<< ((16 : Int32) &&& 31)) ||| (ius (q62 15 (q62 14 25).toNatClampNeg) 16))), L)) rfl ⟨trivial, trivial, trivial, trivial, trivial, trivial, trivial, trivial, (x_rgv (hI64.at 2 rfl) (by decide) (by decide)), trivial, trivial, trivial, trivial, trivial, trivial, (x_rgv (hI64.at 2 rfl) (by decide) (by decide)), trivial, trivial, trivial, (x_rgv (hI64.at 2 rfl) (by decide) (by decide)), trivial, trivial, trivial, trivial, trivial, trivial, (x_rgv (hI64.at 2 rfl) (by decide) (by decide)), trivial⟩ ?_
      have hI66 : Inv INVM (xup q62 15 (q62 14 25).toNatClampNeg (((q62 15 (q62 14 25).toNatClampNeg) <<< ((16 : Int32) &&& 31)) ||| (ius (q62 15 (q62 14 25).toNatClampNeg) 16))) := (hI64.arr 15 ((q62 14 25).toNatClampNeg) (((q62 15 (q62 14 25).toNatClampNeg) <<< ((16 : Int32) &&& 31)) ||| (ius (q62 15 (q62 14 25).toNatClampNeg) 16)) (by decide))
      refine x_callV C (k := 14) (ci := 8) (rest := []) (avs := [.int 2, .int ((xup q62 15 (q62 14 25).toNatClampNeg (((q62 15 (q62 14 25).toNatClampNeg) <<< ((16 : Int32) &&& 31)) ||| (ius (q62 15 (q62 14 25).toNatClampNeg) 16))) 15 (q62 14 25).toNatClampNeg)]) (k_X11_test l 2 ((xup q62 15 (q62 14 25).toNatClampNeg (((q62 15 (q62 14 25).toNatClampNeg) <<< ((16 : Int32) &&& 31)) ||| (ius (q62 15 (q62 14 25).toNatClampNeg) 16))) 15 (q62 14 25).toNatClampNeg) (xup q62 15 (q62 14 25).toNatClampNeg (((q62 15 (q62 14 25).toNatClampNeg) <<< ((16 : Int32) &&& 31)) ||| (ius (q62 15 (q62 14 25).toNatClampNeg) 16))) L hI66) yoX11_test ml_X11_196 rfl rfl rfl rfl ⟨Nat.zero_le _, Nat.zero_le _⟩ (show decode cX11_three 318 = .ok (.invokevirtual 196, 3) from by decide +kernel) rfl (fun v σ' hPo => ?_)
      obtain ⟨⟨rfl, rfl⟩, hI69⟩ := hPo
      generalize hq67 : f_X11_test 2 ((xup q62 15 (q62 14 25).toNatClampNeg (((q62 15 (q62 14 25).toNatClampNeg) <<< ((16 : Int32) &&& 31)) ||| (ius (q62 15 (q62 14 25).toNatClampNeg) 16))) 15 (q62 14 25).toNatClampNeg) (xup q62 15 (q62 14 25).toNatClampNeg (((q62 15 (q62 14 25).toNatClampNeg) <<< ((16 : Int32) &&& 31)) ||| (ius (q62 15 (q62 14 25).toNatClampNeg) 16))) = q67 at h hI69 ⊢
      have h := xb_eq h
      show V 0 0 321 [(0, .ref 14), (1, .int x1), (2, .int x2)] [] LAY (q67, L)
      refine x_goto C (show decode cX11_three 321 = .ok (.goto 70, 3) from by decide +kernel) (tgt := 391) (by decide) ?_
      subst h
      exact x_vret C (show decode cX11_three 391 = .ok (.return_, 1) from by decide +kernel) (x_finV ⟨⟨rfl, rfl⟩, hI69⟩) (Nat.le_refl 0) (Nat.le_refl 0)
    · rw [if_pos c65] at h
      have g70 : xrg 16 16 (q62 14 25) := (x_c_eq (hI64.at 2 rfl) (x_rgc (x := 16) (k := 16) (by decide)) c65).1
      refine x_run C e_X11_three_18 e_X11_three_18_k (pc' := 267) (lv' := [(0, .ref 14), (1, .int x1), (2, .int x2)]) (st' := [.int (q62 14 26), .int 2, .ref 14]) (σ' := (q62, L)) rfl ⟨trivial, trivial, trivial, trivial, trivial⟩ ?_
      refine x_callV C (k := 14) (ci := 8) (rest := []) (avs := [.int 2, .int (q62 14 26)]) (k_X11_push l 2 (q62 14 26) q62 L hI64) yoX11_push ml_X11_209 rfl rfl rfl rfl ⟨Nat.zero_le _, Nat.zero_le _⟩ (show decode cX11_three 267 = .ok (.invokevirtual 209, 3) from by decide +kernel) rfl (fun v σ' hPo => ?_)
      obtain ⟨⟨rfl, rfl⟩, hI73⟩ := hPo
      generalize hq71 : f_X11_push 2 (q62 14 26) q62 = q71 at h hI73 ⊢
      have h := xb_eq h
      show V 0 0 270 [(0, .ref 14), (1, .int x1), (2, .int x2)] [] LAY (q71, L)
      refine x_goto C (show decode cX11_three 270 = .ok (.goto 121, 3) from by decide +kernel) (tgt := 391) (by decide) ?_
      subst h
      exact x_vret C (show decode cX11_three 391 = .ok (.return_, 1) from by decide +kernel) (x_finV ⟨⟨rfl, rfl⟩, hI73⟩) (Nat.le_refl 0) (Nat.le_refl 0)
  rw [if_neg c61] at h
  by_cases c74 : x1 = 21
  · rw [if_pos c74] at h
    refine x_tin C (show decode cX11_three 26 = .ok (.tableswitch 360 3 27 #[114, 360, 360, 360, 132, 360, 360, 360, 158, 360, 360, 360, 171, 360, 360, 360, 191, 220, 298, 298, 360, 310, 310, 322, 322], 114) from by decide +kernel) 21 c74 (off := 298) (tgt := 324) (by decide) ?_
    exact b_X11_three_324 r C x1 x2 M wx2 hI h
  rw [if_neg c74] at h
  by_cases c75 : x1 = 22
  · rw [if_pos c75] at h
    refine x_tin C (show decode cX11_three 26 = .ok (.tableswitch 360 3 27 #[114, 360, 360, 360, 132, 360, 360, 360, 158, 360, 360, 360, 171, 360, 360, 360, 191, 220, 298, 298, 360, 310, 310, 322, 322], 114) from by decide +kernel) 22 c75 (off := 298) (tgt := 324) (by decide) ?_
    exact b_X11_three_324 r C x1 x2 M wx2 hI h
  rw [if_neg c75] at h
  by_cases c76 : x1 = 23
  · rw [if_pos c76] at h
    refine x_tin C (show decode cX11_three 26 = .ok (.tableswitch 360 3 27 #[114, 360, 360, 360, 132, 360, 360, 360, 158, 360, 360, 360, 171, 360, 360, 360, 191, 220, 298, 298, 360, 310, 310, 322, 322], 114) from by decide +kernel) 23 c76 (off := 360) (tgt := 386) (by decide) ?_
    refine x_lv C [0, 2] rfl ?_
    exact b_X11_three_386 r C x2 M wx2 hI h
  rw [if_neg c76] at h
  by_cases c77 : x1 = 24
  · rw [if_pos c77] at h
    refine x_tin C (show decode cX11_three 26 = .ok (.tableswitch 360 3 27 #[114, 360, 360, 360, 132, 360, 360, 360, 158, 360, 360, 360, 171, 360, 360, 360, 191, 220, 298, 298, 360, 310, 310, 322, 322], 114) from by decide +kernel) 24 c77 (off := 310) (tgt := 336) (by decide) ?_
    exact b_X11_three_336 r C x1 x2 M wx2 hI h
  rw [if_neg c77] at h
  by_cases c78 : x1 = 25
  · rw [if_pos c78] at h
    refine x_tin C (show decode cX11_three 26 = .ok (.tableswitch 360 3 27 #[114, 360, 360, 360, 132, 360, 360, 360, 158, 360, 360, 360, 171, 360, 360, 360, 191, 220, 298, 298, 360, 310, 310, 322, 322], 114) from by decide +kernel) 25 c78 (off := 310) (tgt := 336) (by decide) ?_
    exact b_X11_three_336 r C x1 x2 M wx2 hI h
  rw [if_neg c78] at h
  by_cases c79 : x1 = 26
  · rw [if_pos c79] at h
    refine x_tin C (show decode cX11_three 26 = .ok (.tableswitch 360 3 27 #[114, 360, 360, 360, 132, 360, 360, 360, 158, 360, 360, 360, 171, 360, 360, 360, 191, 220, 298, 298, 360, 310, 310, 322, 322], 114) from by decide +kernel) 26 c79 (off := 322) (tgt := 348) (by decide) ?_
    exact b_X11_three_348 r C x1 x2 M wx2 hI h
  rw [if_neg c79] at h
  by_cases c80 : x1 = 27
  · rw [if_pos c80] at h
    refine x_tin C (show decode cX11_three 26 = .ok (.tableswitch 360 3 27 #[114, 360, 360, 360, 132, 360, 360, 360, 158, 360, 360, 360, 171, 360, 360, 360, 191, 220, 298, 298, 360, 310, 310, 322, 322], 114) from by decide +kernel) 27 c80 (off := 322) (tgt := 348) (by decide) ?_
    exact b_X11_three_348 r C x1 x2 M wx2 hI h
  rw [if_neg c80] at h
  have hz : x1.toInt < 3 ∨ 27 < x1.toInt := by
    have zc10 := lv_neT (a := 3) c10 (by decide)
    have zc17 := lv_neT (a := 4) c17 (by decide)
    have zc18 := lv_neT (a := 5) c18 (by decide)
    have zc19 := lv_neT (a := 6) c19 (by decide)
    have zc20 := lv_neT (a := 7) c20 (by decide)
    have zc25 := lv_neT (a := 8) c25 (by decide)
    have zc26 := lv_neT (a := 9) c26 (by decide)
    have zc27 := lv_neT (a := 10) c27 (by decide)
    have zc28 := lv_neT (a := 11) c28 (by decide)
    have zc35 := lv_neT (a := 12) c35 (by decide)
    have zc36 := lv_neT (a := 13) c36 (by decide)
    have zc37 := lv_neT (a := 14) c37 (by decide)
    have zc38 := lv_neT (a := 15) c38 (by decide)
    have zc48 := lv_neT (a := 16) c48 (by decide)
    have zc49 := lv_neT (a := 17) c49 (by decide)
    have zc50 := lv_neT (a := 18) c50 (by decide)
    have zc51 := lv_neT (a := 19) c51 (by decide)
    have zc61 := lv_neT (a := 20) c61 (by decide)
    have zc74 := lv_neT (a := 21) c74 (by decide)
    have zc75 := lv_neT (a := 22) c75 (by decide)
    have zc76 := lv_neT (a := 23) c76 (by decide)
    have zc77 := lv_neT (a := 24) c77 (by decide)
    have zc78 := lv_neT (a := 25) c78 (by decide)
    have zc79 := lv_neT (a := 26) c79 (by decide)
    have zc80 := lv_neT (a := 27) c80 (by decide)
    omega
  refine x_tout C (show decode cX11_three 26 = .ok (.tableswitch 360 3 27 #[114, 360, 360, 360, 132, 360, 360, 360, 158, 360, 360, 360, 171, 360, 360, 360, 191, 220, 298, 298, 360, 310, 310, 322, 322], 114) from by decide +kernel) hz (tgt := 386) (by decide) ?_
  refine x_lv C [0, 2] rfl ?_
  exact b_X11_three_386 r C x2 M wx2 hI h
set_option maxRecDepth 20000 in
set_option maxHeartbeats 4000000 in
theorem k_X11_three (l : Launch) (a1 : Int32) (a2 : Int32) (M : St) (L : Nat → Nat → Int64) (hp2 : xrg 0 63 a2) (hI : Inv INVM M) : XM l yX11_three cX11_three 5 none R_X11_three LAY [.ref 14, .int a1, .int a2] (M, L) (P_X11_three (f_X11_three a1 a2 M) L) := by
  refine XM.of (by decide) (Nat.le_of_ble_eq_true rfl) LAY_in cl_ok fl_X11_ok kc_X11_ok (fun V C => ?_)
  obtain ⟨r, h⟩ : ∃ r, f_X11_three a1 a2 M = r := ⟨_, rfl⟩
  rw [h] at C
  change C_X11_three l r L V at C
  unfold f_X11_three at h
  show V 0 0 0 [(0, .ref 14), (1, .int a1), (2, .int a2)] [] LAY (M, L)
  refine x_run C e_X11_three_1 e_X11_three_1_k (pc' := 3) (lv' := [(0, .ref 14), (1, .int a1), (2, .int a2)]) (st' := [.int 19, .int a1]) (σ' := (M, L)) rfl ⟨trivial, trivial, trivial⟩ ?_
  refine x_icmp_ge C (show decode cX11_three 3 = .ok (.if_icmp .ge 22, 3) from by decide +kernel) (tgt := 25) (by decide) (fun c1 => ?_) (fun c1 => ?_)
  · rw [if_pos c1] at h
    have g2 : xrg 19 2147483647 a1 := (x_c_le (x_rgc (x := 19) (k := 19) (by decide)) (x_rgt a1) c1).2
    exact b_X11_three_25 r C a1 a2 M hp2 hI h
  · rw [if_neg c1] at h
    have g3 : xrg (-2147483648) 18 a1 := (x_c_nle (x_rgc (x := 19) (k := 19) (by decide)) (x_rgt a1) c1).2
    refine x_run C e_X11_three_2 e_X11_three_2_k (pc' := 10) (lv' := [(0, .ref 14), (1, .int a1), (2, .int a2)]) (st' := [.int 3, .int (a1 &&& 3)]) (σ' := (M, L)) rfl ⟨trivial, trivial, trivial, trivial, trivial⟩ ?_
    refine x_icmp_ge C (show decode cX11_three 10 = .ok (.if_icmp .ge 15, 3) from by decide +kernel) (tgt := 25) (by decide) (fun c4 => ?_) (fun c4 => ?_)
    · rw [if_pos c4] at h
      have g5 : xrg 3 3 (a1 &&& 3) := (x_c_le (x_rgc (x := 3) (k := 3) (by decide)) (x_rg_and (x := a1) (m := 3) (k := 3) (by decide) (by decide)) c4).2
      exact b_X11_three_25 r C a1 a2 M hp2 hI h
    · rw [if_neg c4] at h
      have g6 : xrg 0 2 (a1 &&& 3) := (x_c_nle (x_rgc (x := 3) (k := 3) (by decide)) (x_rg_and (x := a1) (m := 3) (k := 3) (by decide) (by decide)) c4).2
      refine x_run C e_X11_three_3 e_X11_three_3_k (pc' := 21) (lv' := [(0, .ref 14), (1, .int a1), (2, .int a2)]) (st' := [.int a2, .int (a1 &&& 3), .int (a1 >>> ((2 : Int32) &&& 31)), .ref 14]) (σ' := (M, L)) rfl ⟨trivial, trivial, trivial, trivial, trivial, trivial, trivial, trivial, trivial⟩ ?_
      refine x_callV C (k := 14) (ci := 8) (rest := []) (avs := [.int (a1 >>> ((2 : Int32) &&& 31)), .int (a1 &&& 3), .int a2]) (k_X11_one l (a1 >>> ((2 : Int32) &&& 31)) (a1 &&& 3) a2 M L hI) yoX11_one ml_X11_199 rfl rfl rfl rfl ⟨Nat.zero_le _, Nat.zero_le _⟩ (show decode cX11_three 21 = .ok (.invokevirtual 199, 3) from by decide +kernel) rfl (fun v σ' hPo => ?_)
      obtain ⟨⟨rfl, rfl⟩, hI9⟩ := hPo
      generalize hq7 : f_X11_one (a1 >>> ((2 : Int32) &&& 31)) (a1 &&& 3) a2 M = q7 at h hI9 ⊢
      have h := xb_eq h
      show V 0 0 24 [(0, .ref 14), (1, .int a1), (2, .int a2)] [] LAY (q7, L)
      subst h
      exact x_vret C (show decode cX11_three 24 = .ok (.return_, 1) from by decide +kernel) (x_finV ⟨⟨rfl, rfl⟩, hI9⟩) (Nat.le_refl 0) (Nat.le_refl 0)
-- X11_addOrTake
def e_X11_addOrTake_1 : List xI := [(0, .iload_n 2, 1, .null), (1, .iconst 3, 1, .int 3)]
theorem e_X11_addOrTake_1_k : e_X11_addOrTake_1.all (fun q => xokB cX11_addOrTake q && xokL q) = true := by decide +kernel
def e_X11_addOrTake_2 : List xI := [(77, .iload 4, 2, .null)]
theorem e_X11_addOrTake_2_k : e_X11_addOrTake_2.all (fun q => xokB cX11_addOrTake q && xokL q) = true := by decide +kernel
def e_X11_addOrTake_3 : List xI := [(111, .iload_n 1, 1, .null), (112, .bipush 8, 2, .int 8)]
theorem e_X11_addOrTake_3_k : e_X11_addOrTake_3.all (fun q => xokB cX11_addOrTake q && xokL q) = true := by decide +kernel
def e_X11_addOrTake_4 : List xI := [(146, .iload_n 1, 1, .null), (147, .bipush 16, 2, .int 16)]
theorem e_X11_addOrTake_4_k : e_X11_addOrTake_4.all (fun q => xokB cX11_addOrTake q && xokL q) = true := by decide +kernel
def e_X11_addOrTake_5 : List xI := [(193, .aload_n 0, 1, .null), (194, .iload_n 2, 1, .null), (195, .aload_n 0, 1, .null), (196, .iload_n 2, 1, .null), (197, .aload_n 0, 1, .null), (198, .getfield 7, 3, .null), (201, .iload_n 3, 1, .null), (202, .iaload, 1, .null), (203, .aload_n 0, 1, .null), (204, .iload_n 1, 1, .null), (205, .iload_n 2, 1, .null)]
theorem e_X11_addOrTake_5_k : e_X11_addOrTake_5.all (fun q => xokB cX11_addOrTake q && xokL q) = true := by decide +kernel
def e_X11_addOrTake_6 : List xI := [(209, .iload 5, 2, .null), (211, .iconst 0, 1, .int 0)]
theorem e_X11_addOrTake_6_k : e_X11_addOrTake_6.all (fun q => xokB cX11_addOrTake q && xokL q) = true := by decide +kernel
def e_X11_addOrTake_7 : List xI := [(152, .aload_n 0, 1, .null), (153, .bipush 32, 2, .int 32), (155, .iload_n 1, 1, .null), (156, .bipush 7, 2, .int 7), (158, .iand, 1, .null), (159, .ior, 1, .null), (160, .iload_n 2, 1, .null)]
theorem e_X11_addOrTake_7_k : e_X11_addOrTake_7.all (fun q => xokB cX11_addOrTake q && xokL q) = true := by decide +kernel
def e_X11_addOrTake_8 : List xI := [(164, .istore 6, 2, .null), (166, .aload_n 0, 1, .null), (167, .iload_n 2, 1, .null), (168, .aload_n 0, 1, .null), (169, .iload_n 2, 1, .null), (170, .iload 6, 2, .null), (172, .aload_n 0, 1, .null), (173, .bipush 32, 2, .int 32), (175, .iload_n 3, 1, .null), (176, .ior, 1, .null), (177, .iload_n 2, 1, .null)]
theorem e_X11_addOrTake_8_k : e_X11_addOrTake_8.all (fun q => xokB cX11_addOrTake q && xokL q) = true := by decide +kernel
def e_X11_addOrTake_9 : List xI := [(181, .iload 5, 2, .null), (183, .iconst 1, 1, .int 1)]
theorem e_X11_addOrTake_9_k : e_X11_addOrTake_9.all (fun q => xokB cX11_addOrTake q && xokL q) = true := by decide +kernel
def e_X11_addOrTake_10 : List xI := [(117, .aload_n 0, 1, .null), (118, .iload_n 3, 1, .null), (119, .iload_n 2, 1, .null), (120, .aload_n 0, 1, .null), (121, .iload_n 2, 1, .null), (122, .aload_n 0, 1, .null), (123, .getfield 7, 3, .null), (126, .iload_n 1, 1, .null), (127, .iaload, 1, .null), (128, .aload_n 0, 1, .null), (129, .getfield 7, 3, .null), (132, .iload_n 3, 1, .null), (133, .iaload, 1, .null), (134, .iload 5, 2, .null), (136, .iconst 1, 1, .int 1)]
theorem e_X11_addOrTake_10_k : e_X11_addOrTake_10.all (fun q => xokB cX11_addOrTake q && xokL q) = true := by decide +kernel
def e_X11_addOrTake_11 : List xI := [(82, .aload_n 0, 1, .null), (83, .iload_n 3, 1, .null), (84, .iload_n 2, 1, .null), (85, .aload_n 0, 1, .null), (86, .iload_n 2, 1, .null), (87, .aload_n 0, 1, .null), (88, .iload_n 1, 1, .null), (89, .iload_n 2, 1, .null)]
theorem e_X11_addOrTake_11_k : e_X11_addOrTake_11.all (fun q => xokB cX11_addOrTake q && xokL q) = true := by decide +kernel
def e_X11_addOrTake_12 : List xI := [(93, .aload_n 0, 1, .null), (94, .getfield 7, 3, .null), (97, .iload_n 3, 1, .null), (98, .iaload, 1, .null), (99, .iload 5, 2, .null), (101, .iconst 0, 1, .int 0)]
theorem e_X11_addOrTake_12_k : e_X11_addOrTake_12.all (fun q => xokB cX11_addOrTake q && xokL q) = true := by decide +kernel
def e_X11_addOrTake_13 : List xI := [(5, .aload_n 0, 1, .null), (6, .iload_n 1, 1, .null), (7, .iload 4, 2, .null)]
theorem e_X11_addOrTake_13_k : e_X11_addOrTake_13.all (fun q => xokB cX11_addOrTake q && xokL q) = true := by decide +kernel
def e_X11_addOrTake_14 : List xI := [(16, .iconst 1, 1, .int 1)]
theorem e_X11_addOrTake_14_k : e_X11_addOrTake_14.all (fun q => xokB cX11_addOrTake q && xokL q) = true := by decide +kernel
def e_X11_addOrTake_15 : List xI := [(12, .iconst 2, 1, .int 2)]
theorem e_X11_addOrTake_15_k : e_X11_addOrTake_15.all (fun q => xokB cX11_addOrTake q && xokL q) = true := by decide +kernel
def e_X11_addOrTake_16 : List xI := [(20, .iload 4, 2, .null)]
theorem e_X11_addOrTake_16_k : e_X11_addOrTake_16.all (fun q => xokB cX11_addOrTake q && xokL q) = true := by decide +kernel
def e_X11_addOrTake_17 : List xI := [(29, .iconst 1, 1, .int 1)]
theorem e_X11_addOrTake_17_k : e_X11_addOrTake_17.all (fun q => xokB cX11_addOrTake q && xokL q) = true := by decide +kernel
def e_X11_addOrTake_18 : List xI := [(25, .iconst 2, 1, .int 2)]
theorem e_X11_addOrTake_18_k : e_X11_addOrTake_18.all (fun q => xokB cX11_addOrTake q && xokL q) = true := by decide +kernel
def e_X11_addOrTake_19 : List xI := [(33, .istore 6, 2, .null), (35, .aload_n 0, 1, .null), (36, .getfield 7, 3, .null), (39, .bipush 8, 2, .int 8), (41, .iload_n 3, 1, .null), (42, .iadd, 1, .null), (43, .iload 5, 2, .null)]
theorem e_X11_addOrTake_19_k : e_X11_addOrTake_19.all (fun q => xokB cX11_addOrTake q && xokL q) = true := by decide +kernel
def e_X11_addOrTake_20 : List xI := [(63, .aload_n 0, 1, .null), (64, .getfield 7, 3, .null), (67, .bipush 8, 2, .int 8), (69, .iload_n 3, 1, .null), (70, .iadd, 1, .null), (71, .iaload, 1, .null), (72, .iload 6, 2, .null), (74, .iadd, 1, .null)]
theorem e_X11_addOrTake_20_k : e_X11_addOrTake_20.all (fun q => xokB cX11_addOrTake q && xokL q) = true := by decide +kernel
def e_X11_addOrTake_21 : List xI := [(48, .aload_n 0, 1, .null), (49, .getfield 7, 3, .null), (52, .bipush 8, 2, .int 8), (54, .iload_n 3, 1, .null), (55, .iadd, 1, .null), (56, .iaload, 1, .null), (57, .iload 6, 2, .null), (59, .isub, 1, .null)]
theorem e_X11_addOrTake_21_k : e_X11_addOrTake_21.all (fun q => xokB cX11_addOrTake q && xokL q) = true := by decide +kernel
def e_X11_addOrTake_22 : List xI := [(75, .iastore, 1, .null)]
theorem e_X11_addOrTake_22_k : e_X11_addOrTake_22.all (fun q => xokB cX11_addOrTake q && xokL q) = true := by decide +kernel
abbrev P_X11_addOrTake (r : St) (L : Nat → Nat → Int64) : Option Value → xG → Prop := fun v σ' => PoV r L v σ' ∧ Inv INVM r
abbrev R_X11_addOrTake : Room := { frames := 8, cells := 0, slots := 0, locals := 188 }
abbrev C_X11_addOrTake (l : Launch) (r : St) (L : Nat → Nat → Int64) (V : XJ) : Prop := XC l yX11_addOrTake.cls yX11_addOrTake.name cX11_addOrTake 7 R_X11_addOrTake 0 0 fl_X11 kc_X11 LAY.length (xfin none LAY (P_X11_addOrTake r L)) V
def f_X11_addOrTake_75 (s0 : Int32) (s1 : Int32) (M : St) : St := (xup M 15 s1.toNatClampNeg s0)
def f_X11_addOrTake_30 (x3 : Int32) (x5 : Int32) (s0 : Int32) (s1 : Int32) (M : St) : St := (if x5 = 0 then f_X11_addOrTake_75 ((M 15 (8 + x3).toNatClampNeg) + (f_X11_extend s1 s0)) (8 + x3) M else f_X11_addOrTake_75 ((M 15 (8 + x3).toNatClampNeg) - (f_X11_extend s1 s0)) (8 + x3) M)
def f_X11_addOrTake_17 (x3 : Int32) (x4 : Int32) (x5 : Int32) (s0 : Int32) (s1 : Int32) (M : St) : St := (xb (f_X11_loadAt s1 s0 M) fun q49 => (if x4 = 0 then f_X11_addOrTake_30 x3 x5 1 q49.1 q49.2 else f_X11_addOrTake_30 x3 x5 2 q49.1 q49.2))
def f_X11_addOrTake (a1 : Int32) (a2 : Int32) (a3 : Int32) (a4 : Int32) (a5 : Int32) (M : St) : St := (if a2 = 3 then (if a4 = 0 then f_X11_addOrTake_17 a3 a4 a5 1 a1 M else f_X11_addOrTake_17 a3 a4 a5 2 a1 M) else (if a4 = 0 then (xb (f_X11_loadAt a1 a2 M) fun q37 => (xb (f_X11_sum a2 q37.1 (q37.2 15 a3.toNatClampNeg) a5 0 q37.2) fun q40 => (xb (f_X11_keepIn a3 a2 q40.1 q40.2) fun q43 => q43))) else (if 8 ≤ a1 then (if 16 ≤ a1 then (xb (f_X11_loadAt a1 a2 M) fun q7 => (xb (f_X11_sum a2 (M 15 a3.toNatClampNeg) q7.1 a5 0 q7.2) fun q10 => (xb (f_X11_store a2 q10.1 q10.2) fun q13 => q13))) else (xb (f_X11_loadAt (32 ||| (a1 &&& 7)) a2 M) fun q17 => (xb (f_X11_loadAt (32 ||| a3) a2 q17.2) fun q20 => (xb (f_X11_sum a2 q17.1 q20.1 a5 1 q20.2) fun q23 => (xb (f_X11_store a2 q23.1 q23.2) fun q26 => q26))))) else (xb (f_X11_sum a2 (M 15 a1.toNatClampNeg) (M 15 a3.toNatClampNeg) a5 1 M) fun q30 => (xb (f_X11_keepIn a3 a2 q30.1 q30.2) fun q33 => q33)))))
set_option maxRecDepth 20000 in
set_option maxHeartbeats 4000000 in
theorem b_X11_addOrTake_75 {l : Launch} {L : Nat → Nat → Int64} {V : XJ} (r : St) (C : C_X11_addOrTake l r L V) (s0 : Int32) (s1 : Int32) (M : St) (ws1 : xrg 8 15 s1) (hI : Inv INVM M) (h : f_X11_addOrTake_75 s0 s1 M = r) : V 0 0 75 [] [.int s0, .int s1, .ref 15] LAY (M, L) := by
  unfold f_X11_addOrTake_75 at h
  refine x_run C e_X11_addOrTake_22 e_X11_addOrTake_22_k (pc' := 76) (lv' := []) (st' := []) (σ' := ((xup M 15 s1.toNatClampNeg s0), L)) rfl ⟨(x_rgv ws1 (by decide) (by decide)), trivial⟩ ?_
  have hI59 : Inv INVM (xup M 15 s1.toNatClampNeg s0) := (hI.arr 15 (s1.toNatClampNeg) s0 (by decide))
  subst h
  exact x_vret C (show decode cX11_addOrTake 76 = .ok (.return_, 1) from by decide +kernel) (x_finV ⟨⟨rfl, rfl⟩, hI59⟩) (Nat.le_refl 0) (Nat.le_refl 0)
set_option maxRecDepth 20000 in
set_option maxHeartbeats 4000000 in
theorem b_X11_addOrTake_30 {l : Launch} {L : Nat → Nat → Int64} {V : XJ} (r : St) (C : C_X11_addOrTake l r L V) (x3 : Int32) (x5 : Int32) (s0 : Int32) (s1 : Int32) (M : St) (wx3 : xrg 0 7 x3) (ws0 : xrg 1 2 s0) (hI : Inv INVM M) (h : f_X11_addOrTake_30 x3 x5 s0 s1 M = r) : V 0 0 30 [(0, .ref 14), (3, .int x3), (5, .int x5)] [.int s0, .int s1] LAY (M, L) := by
  unfold f_X11_addOrTake_30 at h
  refine x_callS C (rest := []) (avs := [.int s1, .int s0]) (k_X11_extend l s1 s0 M L) yoX11_extend ml_X11_131 rfl ⟨Nat.zero_le _, Nat.zero_le _⟩ (show decode cX11_addOrTake 30 = .ok (.invokestatic 131, 3) from by decide +kernel) rfl (fun v σ' hPo => ?_)
  obtain ⟨⟨rfl, rfl⟩, g55, -⟩ := hPo
  show V 0 0 33 [(0, .ref 14), (3, .int x3), (5, .int x5)] [.int (f_X11_extend s1 s0)] LAY (M, L)
  refine x_run C e_X11_addOrTake_19 e_X11_addOrTake_19_k (pc' := 45) (lv' := [(6, .int (f_X11_extend s1 s0)), (0, .ref 14), (3, .int x3), (5, .int x5)]) (st' := [.int x5, .int (8 + x3), .ref 15]) (σ' := (M, L)) rfl ⟨trivial, trivial, trivial, trivial, trivial, trivial, trivial, trivial⟩ ?_
  refine x_if_eq C (show decode cX11_addOrTake 45 = .ok (.ifCond .eq 18, 3) from by decide +kernel) (tgt := 63) (by decide) (fun c57 => ?_) (fun c57 => ?_)
  · rw [if_pos c57] at h
    have g58 : xrg 0 0 x5 := (x_c_eq (x_rgt x5) (x_rgc (x := 0) (k := 0) (by decide)) c57).1
    refine x_run C e_X11_addOrTake_20 e_X11_addOrTake_20_k (pc' := 75) (lv' := [(6, .int (f_X11_extend s1 s0)), (0, .ref 14), (3, .int x3), (5, .int x5)]) (st' := [.int ((M 15 (8 + x3).toNatClampNeg) + (f_X11_extend s1 s0)), .int (8 + x3), .ref 15]) (σ' := (M, L)) rfl ⟨trivial, trivial, trivial, trivial, trivial, (x_rgv (x_rg_add (x_rgc (x := 8) (k := 8) (by decide)) wx3 (by decide) (by decide)) (by decide) (by decide)), trivial, trivial, trivial⟩ ?_
    refine x_lv C [] rfl ?_
    exact b_X11_addOrTake_75 r C ((M 15 (8 + x3).toNatClampNeg) + (f_X11_extend s1 s0)) (8 + x3) M (x_rg_add (x_rgc (x := 8) (k := 8) (by decide)) wx3 (by decide) (by decide)) hI h
  · rw [if_neg c57] at h
    refine x_run C e_X11_addOrTake_21 e_X11_addOrTake_21_k (pc' := 60) (lv' := [(6, .int (f_X11_extend s1 s0)), (0, .ref 14), (3, .int x3), (5, .int x5)]) (st' := [.int ((M 15 (8 + x3).toNatClampNeg) - (f_X11_extend s1 s0)), .int (8 + x3), .ref 15]) (σ' := (M, L)) rfl ⟨trivial, trivial, trivial, trivial, trivial, (x_rgv (x_rg_add (x_rgc (x := 8) (k := 8) (by decide)) wx3 (by decide) (by decide)) (by decide) (by decide)), trivial, trivial, trivial⟩ ?_
    refine x_goto C (show decode cX11_addOrTake 60 = .ok (.goto 15, 3) from by decide +kernel) (tgt := 75) (by decide) ?_
    refine x_lv C [] rfl ?_
    exact b_X11_addOrTake_75 r C ((M 15 (8 + x3).toNatClampNeg) - (f_X11_extend s1 s0)) (8 + x3) M (x_rg_add (x_rgc (x := 8) (k := 8) (by decide)) wx3 (by decide) (by decide)) hI h
set_option maxRecDepth 20000 in
set_option maxHeartbeats 4000000 in
theorem b_X11_addOrTake_17 {l : Launch} {L : Nat → Nat → Int64} {V : XJ} (r : St) (C : C_X11_addOrTake l r L V) (x3 : Int32) (x4 : Int32) (x5 : Int32) (s0 : Int32) (s1 : Int32) (M : St) (wx3 : xrg 0 7 x3) (ws0 : xrg 1 2 s0) (ws1 : xrg 0 63 s1) (hI : Inv INVM M) (h : f_X11_addOrTake_17 x3 x4 x5 s0 s1 M = r) : V 0 0 17 [(0, .ref 14), (3, .int x3), (4, .int x4), (5, .int x5)] [.int s0, .int s1, .ref 14] LAY (M, L) := by
  unfold f_X11_addOrTake_17 at h
  refine x_callV C (k := 14) (ci := 8) (rest := []) (avs := [.int s1, .int s0]) (k_X11_loadAt l s1 s0 M L hI) yoX11_loadAt ml_X11_190 rfl rfl rfl rfl ⟨Nat.zero_le _, Nat.zero_le _⟩ (show decode cX11_addOrTake 17 = .ok (.invokevirtual 190, 3) from by decide +kernel) rfl (fun v σ' hPo => ?_)
  obtain ⟨⟨rfl, rfl⟩, g50, hI51⟩ := hPo
  generalize hq49 : f_X11_loadAt s1 s0 M = q49 at h g50 hI51 ⊢
  obtain ⟨r49, M49⟩ := q49
  have h := xb_eq h
  try dsimp only at h g50 hI51
  show V 0 0 20 [(0, .ref 14), (3, .int x3), (4, .int x4), (5, .int x5)] [.int r49] LAY (M49, L)
  refine x_run C e_X11_addOrTake_16 e_X11_addOrTake_16_k (pc' := 22) (lv' := [(0, .ref 14), (3, .int x3), (4, .int x4), (5, .int x5)]) (st' := [.int x4, .int r49]) (σ' := (M49, L)) rfl ⟨trivial, trivial⟩ ?_
  refine x_if_eq C (show decode cX11_addOrTake 22 = .ok (.ifCond .eq 7, 3) from by decide +kernel) (tgt := 29) (by decide) (fun c52 => ?_) (fun c52 => ?_)
  · rw [if_pos c52] at h
    have g53 : xrg 0 0 x4 := (x_c_eq (x_rgt x4) (x_rgc (x := 0) (k := 0) (by decide)) c52).1
    refine x_run C e_X11_addOrTake_17 e_X11_addOrTake_17_k (pc' := 30) (lv' := [(0, .ref 14), (3, .int x3), (4, .int x4), (5, .int x5)]) (st' := [.int 1, .int r49]) (σ' := (M49, L)) rfl ⟨trivial, trivial⟩ ?_
    refine x_lv C [0, 1, 3] rfl ?_
    exact b_X11_addOrTake_30 r C x3 x5 1 r49 M49 wx3 (x_rgw (x_rgc (x := 1) (k := 1) (by decide)) (lo' := 1) (hi' := 2) (by decide) (by decide)) hI51 h
  · rw [if_neg c52] at h
    refine x_run C e_X11_addOrTake_18 e_X11_addOrTake_18_k (pc' := 26) (lv' := [(0, .ref 14), (3, .int x3), (4, .int x4), (5, .int x5)]) (st' := [.int 2, .int r49]) (σ' := (M49, L)) rfl ⟨trivial, trivial⟩ ?_
    refine x_goto C (show decode cX11_addOrTake 26 = .ok (.goto 4, 3) from by decide +kernel) (tgt := 30) (by decide) ?_
    refine x_lv C [0, 1, 3] rfl ?_
    exact b_X11_addOrTake_30 r C x3 x5 2 r49 M49 wx3 (x_rgw (x_rgc (x := 2) (k := 2) (by decide)) (lo' := 1) (hi' := 2) (by decide) (by decide)) hI51 h
set_option maxRecDepth 20000 in
set_option maxHeartbeats 4000000 in
theorem k_X11_addOrTake (l : Launch) (a1 : Int32) (a2 : Int32) (a3 : Int32) (a4 : Int32) (a5 : Int32) (M : St) (L : Nat → Nat → Int64) (hp1 : xrg 0 63 a1) (hp3 : xrg 0 7 a3) (hI : Inv INVM M) : XM l yX11_addOrTake cX11_addOrTake 7 none R_X11_addOrTake LAY [.ref 14, .int a1, .int a2, .int a3, .int a4, .int a5] (M, L) (P_X11_addOrTake (f_X11_addOrTake a1 a2 a3 a4 a5 M) L) := by
  refine XM.of (by decide) (Nat.le_of_ble_eq_true rfl) LAY_in cl_ok fl_X11_ok kc_X11_ok (fun V C => ?_)
  obtain ⟨r, h⟩ : ∃ r, f_X11_addOrTake a1 a2 a3 a4 a5 M = r := ⟨_, rfl⟩
  rw [h] at C
  change C_X11_addOrTake l r L V at C
  unfold f_X11_addOrTake at h
  show V 0 0 0 [(0, .ref 14), (1, .int a1), (2, .int a2), (3, .int a3), (4, .int a4), (5, .int a5)] [] LAY (M, L)
  refine x_run C e_X11_addOrTake_1 e_X11_addOrTake_1_k (pc' := 2) (lv' := [(0, .ref 14), (1, .int a1), (2, .int a2), (3, .int a3), (4, .int a4), (5, .int a5)]) (st' := [.int 3, .int a2]) (σ' := (M, L)) rfl ⟨trivial, trivial, trivial⟩ ?_
  refine x_icmp_ne C (show decode cX11_addOrTake 2 = .ok (.if_icmp .ne 75, 3) from by decide +kernel) (tgt := 77) (by decide) (fun c1 => ?_) (fun c1 => ?_)
  · rw [if_neg c1] at h
    refine x_run C e_X11_addOrTake_2 e_X11_addOrTake_2_k (pc' := 79) (lv' := [(0, .ref 14), (1, .int a1), (2, .int a2), (3, .int a3), (4, .int a4), (5, .int a5)]) (st' := [.int a4]) (σ' := (M, L)) rfl ⟨trivial, trivial⟩ ?_
    refine x_if_ne C (show decode cX11_addOrTake 79 = .ok (.ifCond .ne 32, 3) from by decide +kernel) (tgt := 111) (by decide) (fun c2 => ?_) (fun c2 => ?_)
    · rw [if_neg c2] at h
      refine x_run C e_X11_addOrTake_3 e_X11_addOrTake_3_k (pc' := 114) (lv' := [(0, .ref 14), (1, .int a1), (2, .int a2), (3, .int a3), (4, .int a4), (5, .int a5)]) (st' := [.int 8, .int a1]) (σ' := (M, L)) rfl ⟨trivial, trivial, trivial⟩ ?_
      refine x_icmp_ge C (show decode cX11_addOrTake 114 = .ok (.if_icmp .ge 32, 3) from by decide +kernel) (tgt := 146) (by decide) (fun c3 => ?_) (fun c3 => ?_)
      · rw [if_pos c3] at h
        have g4 : xrg 8 63 a1 := (x_c_le (x_rgc (x := 8) (k := 8) (by decide)) hp1 c3).2
        refine x_run C e_X11_addOrTake_4 e_X11_addOrTake_4_k (pc' := 149) (lv' := [(0, .ref 14), (1, .int a1), (2, .int a2), (3, .int a3), (4, .int a4), (5, .int a5)]) (st' := [.int 16, .int a1]) (σ' := (M, L)) rfl ⟨trivial, trivial, trivial⟩ ?_
        refine x_icmp_ge C (show decode cX11_addOrTake 149 = .ok (.if_icmp .ge 44, 3) from by decide +kernel) (tgt := 193) (by decide) (fun c5 => ?_) (fun c5 => ?_)
        · rw [if_pos c5] at h
          have g6 : xrg 16 63 a1 := (x_c_le (x_rgc (x := 16) (k := 16) (by decide)) g4 c5).2
          refine x_run C e_X11_addOrTake_5 e_X11_addOrTake_5_k (pc' := 206) (lv' := [(0, .ref 14), (1, .int a1), (2, .int a2), (3, .int a3), (4, .int a4), (5, .int a5)]) (st' := [.int a2, .int a1, .ref 14, .int (M 15 a3.toNatClampNeg), .int a2, .ref 14, .int a2, .ref 14]) (σ' := (M, L)) rfl ⟨trivial, trivial, trivial, trivial, trivial, trivial, trivial, (x_rgv hp3 (by decide) (by decide)), trivial, trivial, trivial, trivial⟩ ?_
          refine x_callV C (k := 14) (ci := 8) (rest := [.int (M 15 a3.toNatClampNeg), .int a2, .ref 14, .int a2, .ref 14]) (avs := [.int a1, .int a2]) (k_X11_loadAt l a1 a2 M L hI) yoX11_loadAt ml_X11_190 rfl rfl rfl rfl ⟨Nat.zero_le _, Nat.zero_le _⟩ (show decode cX11_addOrTake 206 = .ok (.invokevirtual 190, 3) from by decide +kernel) rfl (fun v σ' hPo => ?_)
          obtain ⟨⟨rfl, rfl⟩, g8, hI9⟩ := hPo
          generalize hq7 : f_X11_loadAt a1 a2 M = q7 at h g8 hI9 ⊢
          obtain ⟨r7, M7⟩ := q7
          have h := xb_eq h
          try dsimp only at h g8 hI9
          show V 0 0 209 [(0, .ref 14), (1, .int a1), (2, .int a2), (3, .int a3), (4, .int a4), (5, .int a5)] [.int r7, .int (M 15 a3.toNatClampNeg), .int a2, .ref 14, .int a2, .ref 14] LAY (M7, L)
          refine x_run C e_X11_addOrTake_6 e_X11_addOrTake_6_k (pc' := 212) (lv' := [(0, .ref 14), (1, .int a1), (2, .int a2), (3, .int a3), (4, .int a4), (5, .int a5)]) (st' := [.int 0, .int a5, .int r7, .int (M 15 a3.toNatClampNeg), .int a2, .ref 14, .int a2, .ref 14]) (σ' := (M7, L)) rfl ⟨trivial, trivial, trivial⟩ ?_
          refine x_callV C (k := 14) (ci := 8) (rest := [.int a2, .ref 14]) (avs := [.int a2, .int (M 15 a3.toNatClampNeg), .int r7, .int a5, .int 0]) (k_X11_sum l a2 (M 15 a3.toNatClampNeg) r7 a5 0 M7 L hI9) yoX11_sum ml_X11_221 rfl rfl rfl rfl ⟨Nat.zero_le _, Nat.zero_le _⟩ (show decode cX11_addOrTake 212 = .ok (.invokevirtual 221, 3) from by decide +kernel) rfl (fun v σ' hPo => ?_)
          obtain ⟨⟨rfl, rfl⟩, g11, hI12⟩ := hPo
          generalize hq10 : f_X11_sum a2 (M 15 a3.toNatClampNeg) r7 a5 0 M7 = q10 at h g11 hI12 ⊢
          obtain ⟨r10, M10⟩ := q10
          have h := xb_eq h
          try dsimp only at h g11 hI12
          show V 0 0 215 [(0, .ref 14), (1, .int a1), (2, .int a2), (3, .int a3), (4, .int a4), (5, .int a5)] [.int r10, .int a2, .ref 14] LAY (M10, L)
          refine x_callV C (k := 14) (ci := 8) (rest := []) (avs := [.int a2, .int r10]) (k_X11_store l a2 r10 M10 L hI12) yoX11_store ml_X11_193 rfl rfl rfl rfl ⟨Nat.zero_le _, Nat.zero_le _⟩ (show decode cX11_addOrTake 215 = .ok (.invokevirtual 193, 3) from by decide +kernel) rfl (fun v σ' hPo => ?_)
          obtain ⟨⟨rfl, rfl⟩, hI15⟩ := hPo
          generalize hq13 : f_X11_store a2 r10 M10 = q13 at h hI15 ⊢
          have h := xb_eq h
          show V 0 0 218 [(0, .ref 14), (1, .int a1), (2, .int a2), (3, .int a3), (4, .int a4), (5, .int a5)] [] LAY (q13, L)
          subst h
          exact x_vret C (show decode cX11_addOrTake 218 = .ok (.return_, 1) from by decide +kernel) (x_finV ⟨⟨rfl, rfl⟩, hI15⟩) (Nat.le_refl 0) (Nat.le_refl 0)
        · rw [if_neg c5] at h
          have g16 : xrg 8 15 a1 := (x_c_nle (x_rgc (x := 16) (k := 16) (by decide)) g4 c5).2
          refine x_run C e_X11_addOrTake_7 e_X11_addOrTake_7_k (pc' := 161) (lv' := [(0, .ref 14), (1, .int a1), (2, .int a2), (3, .int a3), (4, .int a4), (5, .int a5)]) (st' := [.int a2, .int (32 ||| (a1 &&& 7)), .ref 14]) (σ' := (M, L)) rfl ⟨trivial, trivial, trivial, trivial, trivial, trivial, trivial, trivial⟩ ?_
          refine x_callV C (k := 14) (ci := 8) (rest := []) (avs := [.int (32 ||| (a1 &&& 7)), .int a2]) (k_X11_loadAt l (32 ||| (a1 &&& 7)) a2 M L hI) yoX11_loadAt ml_X11_190 rfl rfl rfl rfl ⟨Nat.zero_le _, Nat.zero_le _⟩ (show decode cX11_addOrTake 161 = .ok (.invokevirtual 190, 3) from by decide +kernel) rfl (fun v σ' hPo => ?_)
          obtain ⟨⟨rfl, rfl⟩, g18, hI19⟩ := hPo
          generalize hq17 : f_X11_loadAt (32 ||| (a1 &&& 7)) a2 M = q17 at h g18 hI19 ⊢
          obtain ⟨r17, M17⟩ := q17
          have h := xb_eq h
          try dsimp only at h g18 hI19
          show V 0 0 164 [(0, .ref 14), (1, .int a1), (2, .int a2), (3, .int a3), (4, .int a4), (5, .int a5)] [.int r17] LAY (M17, L)
          refine x_run C e_X11_addOrTake_8 e_X11_addOrTake_8_k (pc' := 178) (lv' := [(6, .int r17), (0, .ref 14), (1, .int a1), (2, .int a2), (3, .int a3), (4, .int a4), (5, .int a5)]) (st' := [.int a2, .int (32 ||| a3), .ref 14, .int r17, .int a2, .ref 14, .int a2, .ref 14]) (σ' := (M17, L)) rfl ⟨trivial, trivial, trivial, trivial, trivial, trivial, trivial, trivial, trivial, trivial, trivial, trivial⟩ ?_
          refine x_callV C (k := 14) (ci := 8) (rest := [.int r17, .int a2, .ref 14, .int a2, .ref 14]) (avs := [.int (32 ||| a3), .int a2]) (k_X11_loadAt l (32 ||| a3) a2 M17 L hI19) yoX11_loadAt ml_X11_190 rfl rfl rfl rfl ⟨Nat.zero_le _, Nat.zero_le _⟩ (show decode cX11_addOrTake 178 = .ok (.invokevirtual 190, 3) from by decide +kernel) rfl (fun v σ' hPo => ?_)
          obtain ⟨⟨rfl, rfl⟩, g21, hI22⟩ := hPo
          generalize hq20 : f_X11_loadAt (32 ||| a3) a2 M17 = q20 at h g21 hI22 ⊢
          obtain ⟨r20, M20⟩ := q20
          have h := xb_eq h
          try dsimp only at h g21 hI22
          show V 0 0 181 [(6, .int r17), (0, .ref 14), (1, .int a1), (2, .int a2), (3, .int a3), (4, .int a4), (5, .int a5)] [.int r20, .int r17, .int a2, .ref 14, .int a2, .ref 14] LAY (M20, L)
          refine x_run C e_X11_addOrTake_9 e_X11_addOrTake_9_k (pc' := 184) (lv' := [(6, .int r17), (0, .ref 14), (1, .int a1), (2, .int a2), (3, .int a3), (4, .int a4), (5, .int a5)]) (st' := [.int 1, .int a5, .int r20, .int r17, .int a2, .ref 14, .int a2, .ref 14]) (σ' := (M20, L)) rfl ⟨trivial, trivial, trivial⟩ ?_
          refine x_callV C (k := 14) (ci := 8) (rest := [.int a2, .ref 14]) (avs := [.int a2, .int r17, .int r20, .int a5, .int 1]) (k_X11_sum l a2 r17 r20 a5 1 M20 L hI22) yoX11_sum ml_X11_221 rfl rfl rfl rfl ⟨Nat.zero_le _, Nat.zero_le _⟩ (show decode cX11_addOrTake 184 = .ok (.invokevirtual 221, 3) from by decide +kernel) rfl (fun v σ' hPo => ?_)
          obtain ⟨⟨rfl, rfl⟩, g24, hI25⟩ := hPo
          generalize hq23 : f_X11_sum a2 r17 r20 a5 1 M20 = q23 at h g24 hI25 ⊢
          obtain ⟨r23, M23⟩ := q23
          have h := xb_eq h
          try dsimp only at h g24 hI25
          show V 0 0 187 [(6, .int r17), (0, .ref 14), (1, .int a1), (2, .int a2), (3, .int a3), (4, .int a4), (5, .int a5)] [.int r23, .int a2, .ref 14] LAY (M23, L)
          refine x_callV C (k := 14) (ci := 8) (rest := []) (avs := [.int a2, .int r23]) (k_X11_store l a2 r23 M23 L hI25) yoX11_store ml_X11_193 rfl rfl rfl rfl ⟨Nat.zero_le _, Nat.zero_le _⟩ (show decode cX11_addOrTake 187 = .ok (.invokevirtual 193, 3) from by decide +kernel) rfl (fun v σ' hPo => ?_)
          obtain ⟨⟨rfl, rfl⟩, hI28⟩ := hPo
          generalize hq26 : f_X11_store a2 r23 M23 = q26 at h hI28 ⊢
          have h := xb_eq h
          show V 0 0 190 [(6, .int r17), (0, .ref 14), (1, .int a1), (2, .int a2), (3, .int a3), (4, .int a4), (5, .int a5)] [] LAY (q26, L)
          refine x_goto C (show decode cX11_addOrTake 190 = .ok (.goto 28, 3) from by decide +kernel) (tgt := 218) (by decide) ?_
          subst h
          exact x_vret C (show decode cX11_addOrTake 218 = .ok (.return_, 1) from by decide +kernel) (x_finV ⟨⟨rfl, rfl⟩, hI28⟩) (Nat.le_refl 0) (Nat.le_refl 0)
      · rw [if_neg c3] at h
        have g29 : xrg 0 7 a1 := (x_c_nle (x_rgc (x := 8) (k := 8) (by decide)) hp1 c3).2
        refine x_run C e_X11_addOrTake_10 e_X11_addOrTake_10_k (pc' := 137) (lv' := [(0, .ref 14), (1, .int a1), (2, .int a2), (3, .int a3), (4, .int a4), (5, .int a5)]) (st' := [.int 1, .int a5, .int (M 15 a3.toNatClampNeg), .int (M 15 a1.toNatClampNeg), .int a2, .ref 14, .int a2, .int a3, .ref 14]) (σ' := (M, L)) rfl ⟨trivial, trivial, trivial, trivial, trivial, trivial, trivial, trivial, (x_rgv g29 (by decide) (by decide)), trivial, trivial, trivial, (x_rgv hp3 (by decide) (by decide)), trivial, trivial, trivial⟩ ?_
        refine x_callV C (k := 14) (ci := 8) (rest := [.int a2, .int a3, .ref 14]) (avs := [.int a2, .int (M 15 a1.toNatClampNeg), .int (M 15 a3.toNatClampNeg), .int a5, .int 1]) (k_X11_sum l a2 (M 15 a1.toNatClampNeg) (M 15 a3.toNatClampNeg) a5 1 M L hI) yoX11_sum ml_X11_221 rfl rfl rfl rfl ⟨Nat.zero_le _, Nat.zero_le _⟩ (show decode cX11_addOrTake 137 = .ok (.invokevirtual 221, 3) from by decide +kernel) rfl (fun v σ' hPo => ?_)
        obtain ⟨⟨rfl, rfl⟩, g31, hI32⟩ := hPo
        generalize hq30 : f_X11_sum a2 (M 15 a1.toNatClampNeg) (M 15 a3.toNatClampNeg) a5 1 M = q30 at h g31 hI32 ⊢
        obtain ⟨r30, M30⟩ := q30
        have h := xb_eq h
        try dsimp only at h g31 hI32
        show V 0 0 140 [(0, .ref 14), (1, .int a1), (2, .int a2), (3, .int a3), (4, .int a4), (5, .int a5)] [.int r30, .int a2, .int a3, .ref 14] LAY (M30, L)
        refine x_callV C (k := 14) (ci := 8) (rest := []) (avs := [.int a3, .int a2, .int r30]) (k_X11_keepIn l a3 a2 r30 M30 L (x_rgw hp3 (lo' := 0) (hi' := 15) (by decide) (by decide)) hI32) yoX11_keepIn ml_X11_225 rfl rfl rfl rfl ⟨Nat.zero_le _, Nat.zero_le _⟩ (show decode cX11_addOrTake 140 = .ok (.invokevirtual 225, 3) from by decide +kernel) rfl (fun v σ' hPo => ?_)
        obtain ⟨⟨rfl, rfl⟩, hI35⟩ := hPo
        generalize hq33 : f_X11_keepIn a3 a2 r30 M30 = q33 at h hI35 ⊢
        have h := xb_eq h
        show V 0 0 143 [(0, .ref 14), (1, .int a1), (2, .int a2), (3, .int a3), (4, .int a4), (5, .int a5)] [] LAY (q33, L)
        refine x_goto C (show decode cX11_addOrTake 143 = .ok (.goto 75, 3) from by decide +kernel) (tgt := 218) (by decide) ?_
        subst h
        exact x_vret C (show decode cX11_addOrTake 218 = .ok (.return_, 1) from by decide +kernel) (x_finV ⟨⟨rfl, rfl⟩, hI35⟩) (Nat.le_refl 0) (Nat.le_refl 0)
    · rw [if_pos c2] at h
      have g36 : xrg 0 0 a4 := (x_c_eq (x_rgt a4) (x_rgc (x := 0) (k := 0) (by decide)) c2).1
      refine x_run C e_X11_addOrTake_11 e_X11_addOrTake_11_k (pc' := 90) (lv' := [(0, .ref 14), (1, .int a1), (2, .int a2), (3, .int a3), (4, .int a4), (5, .int a5)]) (st' := [.int a2, .int a1, .ref 14, .int a2, .ref 14, .int a2, .int a3, .ref 14]) (σ' := (M, L)) rfl ⟨trivial, trivial, trivial, trivial, trivial, trivial, trivial, trivial, trivial⟩ ?_
      refine x_callV C (k := 14) (ci := 8) (rest := [.int a2, .ref 14, .int a2, .int a3, .ref 14]) (avs := [.int a1, .int a2]) (k_X11_loadAt l a1 a2 M L hI) yoX11_loadAt ml_X11_190 rfl rfl rfl rfl ⟨Nat.zero_le _, Nat.zero_le _⟩ (show decode cX11_addOrTake 90 = .ok (.invokevirtual 190, 3) from by decide +kernel) rfl (fun v σ' hPo => ?_)
      obtain ⟨⟨rfl, rfl⟩, g38, hI39⟩ := hPo
      generalize hq37 : f_X11_loadAt a1 a2 M = q37 at h g38 hI39 ⊢
      obtain ⟨r37, M37⟩ := q37
      have h := xb_eq h
      try dsimp only at h g38 hI39
      show V 0 0 93 [(0, .ref 14), (1, .int a1), (2, .int a2), (3, .int a3), (4, .int a4), (5, .int a5)] [.int r37, .int a2, .ref 14, .int a2, .int a3, .ref 14] LAY (M37, L)
      refine x_run C e_X11_addOrTake_12 e_X11_addOrTake_12_k (pc' := 102) (lv' := [(0, .ref 14), (1, .int a1), (2, .int a2), (3, .int a3), (4, .int a4), (5, .int a5)]) (st' := [.int 0, .int a5, .int (M37 15 a3.toNatClampNeg), .int r37, .int a2, .ref 14, .int a2, .int a3, .ref 14]) (σ' := (M37, L)) rfl ⟨trivial, trivial, trivial, (x_rgv hp3 (by decide) (by decide)), trivial, trivial, trivial⟩ ?_
      refine x_callV C (k := 14) (ci := 8) (rest := [.int a2, .int a3, .ref 14]) (avs := [.int a2, .int r37, .int (M37 15 a3.toNatClampNeg), .int a5, .int 0]) (k_X11_sum l a2 r37 (M37 15 a3.toNatClampNeg) a5 0 M37 L hI39) yoX11_sum ml_X11_221 rfl rfl rfl rfl ⟨Nat.zero_le _, Nat.zero_le _⟩ (show decode cX11_addOrTake 102 = .ok (.invokevirtual 221, 3) from by decide +kernel) rfl (fun v σ' hPo => ?_)
      obtain ⟨⟨rfl, rfl⟩, g41, hI42⟩ := hPo
      generalize hq40 : f_X11_sum a2 r37 (M37 15 a3.toNatClampNeg) a5 0 M37 = q40 at h g41 hI42 ⊢
      obtain ⟨r40, M40⟩ := q40
      have h := xb_eq h
      try dsimp only at h g41 hI42
      show V 0 0 105 [(0, .ref 14), (1, .int a1), (2, .int a2), (3, .int a3), (4, .int a4), (5, .int a5)] [.int r40, .int a2, .int a3, .ref 14] LAY (M40, L)
      refine x_callV C (k := 14) (ci := 8) (rest := []) (avs := [.int a3, .int a2, .int r40]) (k_X11_keepIn l a3 a2 r40 M40 L (x_rgw hp3 (lo' := 0) (hi' := 15) (by decide) (by decide)) hI42) yoX11_keepIn ml_X11_225 rfl rfl rfl rfl ⟨Nat.zero_le _, Nat.zero_le _⟩ (show decode cX11_addOrTake 105 = .ok (.invokevirtual 225, 3) from by decide +kernel) rfl (fun v σ' hPo => ?_)
      obtain ⟨⟨rfl, rfl⟩, hI45⟩ := hPo
      generalize hq43 : f_X11_keepIn a3 a2 r40 M40 = q43 at h hI45 ⊢
      have h := xb_eq h
      show V 0 0 108 [(0, .ref 14), (1, .int a1), (2, .int a2), (3, .int a3), (4, .int a4), (5, .int a5)] [] LAY (q43, L)
      refine x_goto C (show decode cX11_addOrTake 108 = .ok (.goto 110, 3) from by decide +kernel) (tgt := 218) (by decide) ?_
      subst h
      exact x_vret C (show decode cX11_addOrTake 218 = .ok (.return_, 1) from by decide +kernel) (x_finV ⟨⟨rfl, rfl⟩, hI45⟩) (Nat.le_refl 0) (Nat.le_refl 0)
  · rw [if_pos c1] at h
    have g46 : xrg 3 3 a2 := (x_c_eq (x_rgt a2) (x_rgc (x := 3) (k := 3) (by decide)) c1).1
    refine x_run C e_X11_addOrTake_13 e_X11_addOrTake_13_k (pc' := 9) (lv' := [(0, .ref 14), (1, .int a1), (2, .int a2), (3, .int a3), (4, .int a4), (5, .int a5)]) (st' := [.int a4, .int a1, .ref 14]) (σ' := (M, L)) rfl ⟨trivial, trivial, trivial, trivial⟩ ?_
    refine x_if_eq C (show decode cX11_addOrTake 9 = .ok (.ifCond .eq 7, 3) from by decide +kernel) (tgt := 16) (by decide) (fun c47 => ?_) (fun c47 => ?_)
    · rw [if_pos c47] at h
      have g48 : xrg 0 0 a4 := (x_c_eq (x_rgt a4) (x_rgc (x := 0) (k := 0) (by decide)) c47).1
      refine x_run C e_X11_addOrTake_14 e_X11_addOrTake_14_k (pc' := 17) (lv' := [(0, .ref 14), (1, .int a1), (2, .int a2), (3, .int a3), (4, .int a4), (5, .int a5)]) (st' := [.int 1, .int a1, .ref 14]) (σ' := (M, L)) rfl ⟨trivial, trivial⟩ ?_
      refine x_lv C [0, 3, 4, 5] rfl ?_
      exact b_X11_addOrTake_17 r C a3 a4 a5 1 a1 M hp3 (x_rgw (x_rgc (x := 1) (k := 1) (by decide)) (lo' := 1) (hi' := 2) (by decide) (by decide)) hp1 hI h
    · rw [if_neg c47] at h
      refine x_run C e_X11_addOrTake_15 e_X11_addOrTake_15_k (pc' := 13) (lv' := [(0, .ref 14), (1, .int a1), (2, .int a2), (3, .int a3), (4, .int a4), (5, .int a5)]) (st' := [.int 2, .int a1, .ref 14]) (σ' := (M, L)) rfl ⟨trivial, trivial⟩ ?_
      refine x_goto C (show decode cX11_addOrTake 13 = .ok (.goto 4, 3) from by decide +kernel) (tgt := 17) (by decide) ?_
      refine x_lv C [0, 3, 4, 5] rfl ?_
      exact b_X11_addOrTake_17 r C a3 a4 a5 2 a1 M hp3 (x_rgw (x_rgc (x := 2) (k := 2) (by decide)) (lo' := 1) (hi' := 2) (by decide) (by decide)) hp1 hI h
-- X11_compare
def e_X11_compare_1 : List xI := [(0, .iconst 0, 1, .int 0), (1, .istore 5, 2, .null), (3, .iload_n 2, 1, .null), (4, .iconst 3, 1, .int 3)]
theorem e_X11_compare_1_k : e_X11_compare_1.all (fun q => xokB cX11_compare q && xokL q) = true := by decide +kernel
def e_X11_compare_2 : List xI := [(57, .iload 4, 2, .null)]
theorem e_X11_compare_2_k : e_X11_compare_2.all (fun q => xokB cX11_compare q && xokL q) = true := by decide +kernel
def e_X11_compare_3 : List xI := [(86, .iload_n 1, 1, .null), (87, .iconst 3, 1, .int 3), (88, .ishr, 1, .null), (89, .iconst 1, 1, .int 1)]
theorem e_X11_compare_3_k : e_X11_compare_3.all (fun q => xokB cX11_compare q && xokL q) = true := by decide +kernel
def e_X11_compare_4 : List xI := [(130, .aload_n 0, 1, .null), (131, .iload_n 1, 1, .null), (132, .iload_n 2, 1, .null)]
theorem e_X11_compare_4_k : e_X11_compare_4.all (fun q => xokB cX11_compare q && xokL q) = true := by decide +kernel
def e_X11_compare_5 : List xI := [(136, .aload_n 0, 1, .null), (137, .getfield 7, 3, .null), (140, .iload_n 3, 1, .null), (141, .iaload, 1, .null), (142, .ixor, 1, .null), (143, .istore 5, 2, .null), (145, .aload_n 0, 1, .null), (146, .iload_n 2, 1, .null), (147, .iload 5, 2, .null)]
theorem e_X11_compare_5_k : e_X11_compare_5.all (fun q => xokB cX11_compare q && xokL q) = true := by decide +kernel
def e_X11_compare_6 : List xI := [(152, .aload_n 0, 1, .null), (153, .iload_n 2, 1, .null), (154, .iload 5, 2, .null)]
theorem e_X11_compare_6_k : e_X11_compare_6.all (fun q => xokB cX11_compare q && xokL q) = true := by decide +kernel
def e_X11_compare_7 : List xI := [(93, .aload_n 0, 1, .null), (94, .bipush 24, 2, .int 24), (96, .iload_n 1, 1, .null), (97, .bipush 7, 2, .int 7), (99, .iand, 1, .null), (100, .ior, 1, .null), (101, .iload_n 2, 1, .null)]
theorem e_X11_compare_7_k : e_X11_compare_7.all (fun q => xokB cX11_compare q && xokL q) = true := by decide +kernel
def e_X11_compare_8 : List xI := [(105, .istore 6, 2, .null), (107, .aload_n 0, 1, .null), (108, .iload_n 2, 1, .null), (109, .iload 6, 2, .null), (111, .aload_n 0, 1, .null), (112, .bipush 24, 2, .int 24), (114, .iload_n 3, 1, .null), (115, .ior, 1, .null), (116, .iload_n 2, 1, .null)]
theorem e_X11_compare_8_k : e_X11_compare_8.all (fun q => xokB cX11_compare q && xokL q) = true := by decide +kernel
def e_X11_compare_9 : List xI := [(120, .iconst 1, 1, .int 1), (121, .iconst 2, 1, .int 2)]
theorem e_X11_compare_9_k : e_X11_compare_9.all (fun q => xokB cX11_compare q && xokL q) = true := by decide +kernel
def e_X11_compare_10 : List xI := [(125, .istore 5, 2, .null)]
theorem e_X11_compare_10_k : e_X11_compare_10.all (fun q => xokB cX11_compare q && xokL q) = true := by decide +kernel
def e_X11_compare_11 : List xI := [(62, .aload_n 0, 1, .null), (63, .iload_n 2, 1, .null), (64, .aload_n 0, 1, .null), (65, .iload_n 1, 1, .null), (66, .iload_n 2, 1, .null)]
theorem e_X11_compare_11_k : e_X11_compare_11.all (fun q => xokB cX11_compare q && xokL q) = true := by decide +kernel
def e_X11_compare_12 : List xI := [(70, .aload_n 0, 1, .null), (71, .getfield 7, 3, .null), (74, .iload_n 3, 1, .null), (75, .iaload, 1, .null), (76, .iconst 1, 1, .int 1), (77, .iconst 2, 1, .int 2)]
theorem e_X11_compare_12_k : e_X11_compare_12.all (fun q => xokB cX11_compare q && xokL q) = true := by decide +kernel
def e_X11_compare_13 : List xI := [(81, .istore 5, 2, .null)]
theorem e_X11_compare_13_k : e_X11_compare_13.all (fun q => xokB cX11_compare q && xokL q) = true := by decide +kernel
def e_X11_compare_14 : List xI := [(8, .aload_n 0, 1, .null), (9, .iconst 2, 1, .int 2), (10, .aload_n 0, 1, .null), (11, .iload_n 1, 1, .null), (12, .iload 4, 2, .null)]
theorem e_X11_compare_14_k : e_X11_compare_14.all (fun q => xokB cX11_compare q && xokL q) = true := by decide +kernel
def e_X11_compare_15 : List xI := [(21, .iconst 1, 1, .int 1)]
theorem e_X11_compare_15_k : e_X11_compare_15.all (fun q => xokB cX11_compare q && xokL q) = true := by decide +kernel
def e_X11_compare_16 : List xI := [(17, .iconst 2, 1, .int 2)]
theorem e_X11_compare_16_k : e_X11_compare_16.all (fun q => xokB cX11_compare q && xokL q) = true := by decide +kernel
def e_X11_compare_17 : List xI := [(25, .iload 4, 2, .null)]
theorem e_X11_compare_17_k : e_X11_compare_17.all (fun q => xokB cX11_compare q && xokL q) = true := by decide +kernel
def e_X11_compare_18 : List xI := [(34, .iconst 1, 1, .int 1)]
theorem e_X11_compare_18_k : e_X11_compare_18.all (fun q => xokB cX11_compare q && xokL q) = true := by decide +kernel
def e_X11_compare_19 : List xI := [(30, .iconst 2, 1, .int 2)]
theorem e_X11_compare_19_k : e_X11_compare_19.all (fun q => xokB cX11_compare q && xokL q) = true := by decide +kernel
def e_X11_compare_20 : List xI := [(38, .aload_n 0, 1, .null), (39, .getfield 7, 3, .null), (42, .bipush 8, 2, .int 8), (44, .iload_n 3, 1, .null), (45, .iadd, 1, .null), (46, .iaload, 1, .null), (47, .iconst 1, 1, .int 1), (48, .iconst 2, 1, .int 2)]
theorem e_X11_compare_20_k : e_X11_compare_20.all (fun q => xokB cX11_compare q && xokL q) = true := by decide +kernel
def e_X11_compare_21 : List xI := [(52, .istore 5, 2, .null)]
theorem e_X11_compare_21_k : e_X11_compare_21.all (fun q => xokB cX11_compare q && xokL q) = true := by decide +kernel
abbrev P_X11_compare (r : St) (L : Nat → Nat → Int64) : Option Value → xG → Prop := fun v σ' => PoV r L v σ' ∧ Inv INVM r
abbrev R_X11_compare : Room := { frames := 8, cells := 0, slots := 0, locals := 188 }
abbrev C_X11_compare (l : Launch) (r : St) (L : Nat → Nat → Int64) (V : XJ) : Prop := XC l yX11_compare.cls yX11_compare.name cX11_compare 7 R_X11_compare 0 0 fl_X11 kc_X11 LAY.length (xfin none LAY (P_X11_compare r L)) V
def f_X11_compare_35 (x3 : Int32) (s0 : Int32) (s1 : Int32) (s2 : Int32) (M : St) : St := (xb (f_X11_sum s2 (f_X11_extend s1 s0) (M 15 (8 + x3).toNatClampNeg) 1 2 M) fun q41 => q41.2)
def f_X11_compare_22 (x3 : Int32) (x4 : Int32) (s0 : Int32) (s1 : Int32) (s3 : Int32) (M : St) : St := (xb (f_X11_loadAt s1 s0 M) fun q33 => (if x4 = 0 then f_X11_compare_35 x3 1 q33.1 s3 q33.2 else f_X11_compare_35 x3 2 q33.1 s3 q33.2))
def f_X11_compare (a1 : Int32) (a2 : Int32) (a3 : Int32) (a4 : Int32) (M : St) : St := (if a2 = 3 then (if a4 = 0 then f_X11_compare_22 a3 a4 1 a1 2 M else f_X11_compare_22 a3 a4 2 a1 2 M) else (if a4 = 0 then (xb (f_X11_loadAt a1 a2 M) fun q24 => (xb (f_X11_sum a2 q24.1 (q24.2 15 a3.toNatClampNeg) 1 2 q24.2) fun q27 => q27.2)) else (if (a1 >>> ((3 : Int32) &&& 31)) = 1 then (xb (f_X11_loadAt (24 ||| (a1 &&& 7)) a2 M) fun q14 => (xb (f_X11_loadAt (24 ||| a3) a2 q14.2) fun q17 => (xb (f_X11_sum a2 q14.1 q17.1 1 2 q17.2) fun q20 => q20.2))) else (xb (f_X11_loadAt a1 a2 M) fun q4 => (xb (f_X11_store a2 (q4.1 ^^^ (q4.2 15 a3.toNatClampNeg)) q4.2) fun q7 => (xb (f_X11_test a2 (q4.1 ^^^ (q4.2 15 a3.toNatClampNeg)) q7) fun q10 => q10))))))
set_option maxRecDepth 20000 in
set_option maxHeartbeats 4000000 in
theorem b_X11_compare_35 {l : Launch} {L : Nat → Nat → Int64} {V : XJ} (r : St) (C : C_X11_compare l r L V) (x3 : Int32) (s0 : Int32) (s1 : Int32) (s2 : Int32) (M : St) (wx3 : xrg 0 7 x3) (ws0 : xrg 1 2 s0) (ws2 : xrg 2 2 s2) (hI : Inv INVM M) (h : f_X11_compare_35 x3 s0 s1 s2 M = r) : V 0 0 35 [(0, .ref 14), (3, .int x3)] [.int s0, .int s1, .int s2, .ref 14] LAY (M, L) := by
  unfold f_X11_compare_35 at h
  refine x_callS C (rest := [.int s2, .ref 14]) (avs := [.int s1, .int s0]) (k_X11_extend l s1 s0 M L) yoX11_extend ml_X11_131 rfl ⟨Nat.zero_le _, Nat.zero_le _⟩ (show decode cX11_compare 35 = .ok (.invokestatic 131, 3) from by decide +kernel) rfl (fun v σ' hPo => ?_)
  obtain ⟨⟨rfl, rfl⟩, g39, -⟩ := hPo
  show V 0 0 38 [(0, .ref 14), (3, .int x3)] [.int (f_X11_extend s1 s0), .int s2, .ref 14] LAY (M, L)
  refine x_run C e_X11_compare_20 e_X11_compare_20_k (pc' := 49) (lv' := [(0, .ref 14), (3, .int x3)]) (st' := [.int 2, .int 1, .int (M 15 (8 + x3).toNatClampNeg), .int (f_X11_extend s1 s0), .int s2, .ref 14]) (σ' := (M, L)) rfl ⟨trivial, trivial, trivial, trivial, trivial, (x_rgv (x_rg_add (x_rgc (x := 8) (k := 8) (by decide)) wx3 (by decide) (by decide)) (by decide) (by decide)), trivial, trivial, trivial⟩ ?_
  refine x_callV C (k := 14) (ci := 8) (rest := []) (avs := [.int s2, .int (f_X11_extend s1 s0), .int (M 15 (8 + x3).toNatClampNeg), .int 1, .int 2]) (k_X11_sum l s2 (f_X11_extend s1 s0) (M 15 (8 + x3).toNatClampNeg) 1 2 M L hI) yoX11_sum ml_X11_221 rfl rfl rfl rfl ⟨Nat.zero_le _, Nat.zero_le _⟩ (show decode cX11_compare 49 = .ok (.invokevirtual 221, 3) from by decide +kernel) rfl (fun v σ' hPo => ?_)
  obtain ⟨⟨rfl, rfl⟩, g42, hI43⟩ := hPo
  generalize hq41 : f_X11_sum s2 (f_X11_extend s1 s0) (M 15 (8 + x3).toNatClampNeg) 1 2 M = q41 at h g42 hI43 ⊢
  obtain ⟨r41, M41⟩ := q41
  have h := xb_eq h
  try dsimp only at h g42 hI43
  show V 0 0 52 [(0, .ref 14), (3, .int x3)] [.int r41] LAY (M41, L)
  refine x_run C e_X11_compare_21 e_X11_compare_21_k (pc' := 54) (lv' := [(5, .int r41), (0, .ref 14), (3, .int x3)]) (st' := []) (σ' := (M41, L)) rfl ⟨trivial, trivial⟩ ?_
  refine x_goto C (show decode cX11_compare 54 = .ok (.goto 105, 3) from by decide +kernel) (tgt := 159) (by decide) ?_
  subst h
  exact x_vret C (show decode cX11_compare 159 = .ok (.return_, 1) from by decide +kernel) (x_finV ⟨⟨rfl, rfl⟩, hI43⟩) (Nat.le_refl 0) (Nat.le_refl 0)
set_option maxRecDepth 20000 in
set_option maxHeartbeats 4000000 in
theorem b_X11_compare_22 {l : Launch} {L : Nat → Nat → Int64} {V : XJ} (r : St) (C : C_X11_compare l r L V) (x3 : Int32) (x4 : Int32) (s0 : Int32) (s1 : Int32) (s3 : Int32) (M : St) (wx3 : xrg 0 7 x3) (ws0 : xrg 1 2 s0) (ws1 : xrg 0 63 s1) (ws3 : xrg 2 2 s3) (hI : Inv INVM M) (h : f_X11_compare_22 x3 x4 s0 s1 s3 M = r) : V 0 0 22 [(0, .ref 14), (3, .int x3), (4, .int x4)] [.int s0, .int s1, .ref 14, .int s3, .ref 14] LAY (M, L) := by
  unfold f_X11_compare_22 at h
  refine x_callV C (k := 14) (ci := 8) (rest := [.int s3, .ref 14]) (avs := [.int s1, .int s0]) (k_X11_loadAt l s1 s0 M L hI) yoX11_loadAt ml_X11_190 rfl rfl rfl rfl ⟨Nat.zero_le _, Nat.zero_le _⟩ (show decode cX11_compare 22 = .ok (.invokevirtual 190, 3) from by decide +kernel) rfl (fun v σ' hPo => ?_)
  obtain ⟨⟨rfl, rfl⟩, g34, hI35⟩ := hPo
  generalize hq33 : f_X11_loadAt s1 s0 M = q33 at h g34 hI35 ⊢
  obtain ⟨r33, M33⟩ := q33
  have h := xb_eq h
  try dsimp only at h g34 hI35
  show V 0 0 25 [(0, .ref 14), (3, .int x3), (4, .int x4)] [.int r33, .int s3, .ref 14] LAY (M33, L)
  refine x_run C e_X11_compare_17 e_X11_compare_17_k (pc' := 27) (lv' := [(0, .ref 14), (3, .int x3), (4, .int x4)]) (st' := [.int x4, .int r33, .int s3, .ref 14]) (σ' := (M33, L)) rfl ⟨trivial, trivial⟩ ?_
  refine x_if_eq C (show decode cX11_compare 27 = .ok (.ifCond .eq 7, 3) from by decide +kernel) (tgt := 34) (by decide) (fun c36 => ?_) (fun c36 => ?_)
  · rw [if_pos c36] at h
    have g37 : xrg 0 0 x4 := (x_c_eq (x_rgt x4) (x_rgc (x := 0) (k := 0) (by decide)) c36).1
    refine x_run C e_X11_compare_18 e_X11_compare_18_k (pc' := 35) (lv' := [(0, .ref 14), (3, .int x3), (4, .int x4)]) (st' := [.int 1, .int r33, .int s3, .ref 14]) (σ' := (M33, L)) rfl ⟨trivial, trivial⟩ ?_
    refine x_lv C [0, 1] rfl ?_
    exact b_X11_compare_35 r C x3 1 r33 s3 M33 wx3 (x_rgw (x_rgc (x := 1) (k := 1) (by decide)) (lo' := 1) (hi' := 2) (by decide) (by decide)) ws3 hI35 h
  · rw [if_neg c36] at h
    refine x_run C e_X11_compare_19 e_X11_compare_19_k (pc' := 31) (lv' := [(0, .ref 14), (3, .int x3), (4, .int x4)]) (st' := [.int 2, .int r33, .int s3, .ref 14]) (σ' := (M33, L)) rfl ⟨trivial, trivial⟩ ?_
    refine x_goto C (show decode cX11_compare 31 = .ok (.goto 4, 3) from by decide +kernel) (tgt := 35) (by decide) ?_
    refine x_lv C [0, 1] rfl ?_
    exact b_X11_compare_35 r C x3 2 r33 s3 M33 wx3 (x_rgw (x_rgc (x := 2) (k := 2) (by decide)) (lo' := 1) (hi' := 2) (by decide) (by decide)) ws3 hI35 h
set_option maxRecDepth 20000 in
set_option maxHeartbeats 4000000 in
theorem k_X11_compare (l : Launch) (a1 : Int32) (a2 : Int32) (a3 : Int32) (a4 : Int32) (M : St) (L : Nat → Nat → Int64) (hp1 : xrg 0 63 a1) (hp3 : xrg 0 7 a3) (hI : Inv INVM M) : XM l yX11_compare cX11_compare 7 none R_X11_compare LAY [.ref 14, .int a1, .int a2, .int a3, .int a4] (M, L) (P_X11_compare (f_X11_compare a1 a2 a3 a4 M) L) := by
  refine XM.of (by decide) (Nat.le_of_ble_eq_true rfl) LAY_in cl_ok fl_X11_ok kc_X11_ok (fun V C => ?_)
  obtain ⟨r, h⟩ : ∃ r, f_X11_compare a1 a2 a3 a4 M = r := ⟨_, rfl⟩
  rw [h] at C
  change C_X11_compare l r L V at C
  unfold f_X11_compare at h
  show V 0 0 0 [(0, .ref 14), (1, .int a1), (2, .int a2), (3, .int a3), (4, .int a4)] [] LAY (M, L)
  refine x_run C e_X11_compare_1 e_X11_compare_1_k (pc' := 5) (lv' := [(5, .int 0), (0, .ref 14), (1, .int a1), (2, .int a2), (3, .int a3), (4, .int a4)]) (st' := [.int 3, .int a2]) (σ' := (M, L)) rfl ⟨trivial, trivial, trivial, trivial, trivial⟩ ?_
  refine x_icmp_ne C (show decode cX11_compare 5 = .ok (.if_icmp .ne 52, 3) from by decide +kernel) (tgt := 57) (by decide) (fun c1 => ?_) (fun c1 => ?_)
  · rw [if_neg c1] at h
    refine x_run C e_X11_compare_2 e_X11_compare_2_k (pc' := 59) (lv' := [(5, .int 0), (0, .ref 14), (1, .int a1), (2, .int a2), (3, .int a3), (4, .int a4)]) (st' := [.int a4]) (σ' := (M, L)) rfl ⟨trivial, trivial⟩ ?_
    refine x_if_ne C (show decode cX11_compare 59 = .ok (.ifCond .ne 27, 3) from by decide +kernel) (tgt := 86) (by decide) (fun c2 => ?_) (fun c2 => ?_)
    · rw [if_neg c2] at h
      refine x_run C e_X11_compare_3 e_X11_compare_3_k (pc' := 90) (lv' := [(5, .int 0), (0, .ref 14), (1, .int a1), (2, .int a2), (3, .int a3), (4, .int a4)]) (st' := [.int 1, .int (a1 >>> ((3 : Int32) &&& 31))]) (σ' := (M, L)) rfl ⟨trivial, trivial, trivial, trivial, trivial⟩ ?_
      refine x_icmp_ne C (show decode cX11_compare 90 = .ok (.if_icmp .ne 40, 3) from by decide +kernel) (tgt := 130) (by decide) (fun c3 => ?_) (fun c3 => ?_)
      · rw [if_neg c3] at h
        refine x_run C e_X11_compare_4 e_X11_compare_4_k (pc' := 133) (lv' := [(5, .int 0), (0, .ref 14), (1, .int a1), (2, .int a2), (3, .int a3), (4, .int a4)]) (st' := [.int a2, .int a1, .ref 14]) (σ' := (M, L)) rfl ⟨trivial, trivial, trivial, trivial⟩ ?_
        refine x_callV C (k := 14) (ci := 8) (rest := []) (avs := [.int a1, .int a2]) (k_X11_loadAt l a1 a2 M L hI) yoX11_loadAt ml_X11_190 rfl rfl rfl rfl ⟨Nat.zero_le _, Nat.zero_le _⟩ (show decode cX11_compare 133 = .ok (.invokevirtual 190, 3) from by decide +kernel) rfl (fun v σ' hPo => ?_)
        obtain ⟨⟨rfl, rfl⟩, g5, hI6⟩ := hPo
        generalize hq4 : f_X11_loadAt a1 a2 M = q4 at h g5 hI6 ⊢
        obtain ⟨r4, M4⟩ := q4
        have h := xb_eq h
        try dsimp only at h g5 hI6
        show V 0 0 136 [(5, .int 0), (0, .ref 14), (1, .int a1), (2, .int a2), (3, .int a3), (4, .int a4)] [.int r4] LAY (M4, L)
        refine x_run C e_X11_compare_5 e_X11_compare_5_k (pc' := 149) (lv' := [(5, .int (r4 ^^^ (M4 15 a3.toNatClampNeg))), (0, .ref 14), (1, .int a1), (2, .int a2), (3, .int a3), (4, .int a4)]) (st' := [.int (r4 ^^^ (M4 15 a3.toNatClampNeg)), .int a2, .ref 14]) (σ' := (M4, L)) rfl ⟨trivial, trivial, trivial, (x_rgv hp3 (by decide) (by decide)), trivial, trivial, trivial, trivial, trivial, trivial⟩ ?_
        refine x_callV C (k := 14) (ci := 8) (rest := []) (avs := [.int a2, .int (r4 ^^^ (M4 15 a3.toNatClampNeg))]) (k_X11_store l a2 (r4 ^^^ (M4 15 a3.toNatClampNeg)) M4 L hI6) yoX11_store ml_X11_193 rfl rfl rfl rfl ⟨Nat.zero_le _, Nat.zero_le _⟩ (show decode cX11_compare 149 = .ok (.invokevirtual 193, 3) from by decide +kernel) rfl (fun v σ' hPo => ?_)
        obtain ⟨⟨rfl, rfl⟩, hI9⟩ := hPo
        generalize hq7 : f_X11_store a2 (r4 ^^^ (M4 15 a3.toNatClampNeg)) M4 = q7 at h hI9 ⊢
        have h := xb_eq h
        show V 0 0 152 [(5, .int (r4 ^^^ (M4 15 a3.toNatClampNeg))), (0, .ref 14), (1, .int a1), (2, .int a2), (3, .int a3), (4, .int a4)] [] LAY (q7, L)
        refine x_run C e_X11_compare_6 e_X11_compare_6_k (pc' := 156) (lv' := [(5, .int (r4 ^^^ (M4 15 a3.toNatClampNeg))), (0, .ref 14), (1, .int a1), (2, .int a2), (3, .int a3), (4, .int a4)]) (st' := [.int (r4 ^^^ (M4 15 a3.toNatClampNeg)), .int a2, .ref 14]) (σ' := (q7, L)) rfl ⟨trivial, trivial, trivial, trivial⟩ ?_
        refine x_callV C (k := 14) (ci := 8) (rest := []) (avs := [.int a2, .int (r4 ^^^ (M4 15 a3.toNatClampNeg))]) (k_X11_test l a2 (r4 ^^^ (M4 15 a3.toNatClampNeg)) q7 L hI9) yoX11_test ml_X11_196 rfl rfl rfl rfl ⟨Nat.zero_le _, Nat.zero_le _⟩ (show decode cX11_compare 156 = .ok (.invokevirtual 196, 3) from by decide +kernel) rfl (fun v σ' hPo => ?_)
        obtain ⟨⟨rfl, rfl⟩, hI12⟩ := hPo
        generalize hq10 : f_X11_test a2 (r4 ^^^ (M4 15 a3.toNatClampNeg)) q7 = q10 at h hI12 ⊢
        have h := xb_eq h
        show V 0 0 159 [(5, .int (r4 ^^^ (M4 15 a3.toNatClampNeg))), (0, .ref 14), (1, .int a1), (2, .int a2), (3, .int a3), (4, .int a4)] [] LAY (q10, L)
        subst h
        exact x_vret C (show decode cX11_compare 159 = .ok (.return_, 1) from by decide +kernel) (x_finV ⟨⟨rfl, rfl⟩, hI12⟩) (Nat.le_refl 0) (Nat.le_refl 0)
      · rw [if_pos c3] at h
        have g13 : xrg 1 1 (a1 >>> ((3 : Int32) &&& 31)) := (x_c_eq (x_rgt (a1 >>> ((3 : Int32) &&& 31))) (x_rgc (x := 1) (k := 1) (by decide)) c3).1
        refine x_run C e_X11_compare_7 e_X11_compare_7_k (pc' := 102) (lv' := [(5, .int 0), (0, .ref 14), (1, .int a1), (2, .int a2), (3, .int a3), (4, .int a4)]) (st' := [.int a2, .int (24 ||| (a1 &&& 7)), .ref 14]) (σ' := (M, L)) rfl ⟨trivial, trivial, trivial, trivial, trivial, trivial, trivial, trivial⟩ ?_
        refine x_callV C (k := 14) (ci := 8) (rest := []) (avs := [.int (24 ||| (a1 &&& 7)), .int a2]) (k_X11_loadAt l (24 ||| (a1 &&& 7)) a2 M L hI) yoX11_loadAt ml_X11_190 rfl rfl rfl rfl ⟨Nat.zero_le _, Nat.zero_le _⟩ (show decode cX11_compare 102 = .ok (.invokevirtual 190, 3) from by decide +kernel) rfl (fun v σ' hPo => ?_)
        obtain ⟨⟨rfl, rfl⟩, g15, hI16⟩ := hPo
        generalize hq14 : f_X11_loadAt (24 ||| (a1 &&& 7)) a2 M = q14 at h g15 hI16 ⊢
        obtain ⟨r14, M14⟩ := q14
        have h := xb_eq h
        try dsimp only at h g15 hI16
        show V 0 0 105 [(5, .int 0), (0, .ref 14), (1, .int a1), (2, .int a2), (3, .int a3), (4, .int a4)] [.int r14] LAY (M14, L)
        refine x_run C e_X11_compare_8 e_X11_compare_8_k (pc' := 117) (lv' := [(6, .int r14), (5, .int 0), (0, .ref 14), (1, .int a1), (2, .int a2), (3, .int a3), (4, .int a4)]) (st' := [.int a2, .int (24 ||| a3), .ref 14, .int r14, .int a2, .ref 14]) (σ' := (M14, L)) rfl ⟨trivial, trivial, trivial, trivial, trivial, trivial, trivial, trivial, trivial, trivial⟩ ?_
        refine x_callV C (k := 14) (ci := 8) (rest := [.int r14, .int a2, .ref 14]) (avs := [.int (24 ||| a3), .int a2]) (k_X11_loadAt l (24 ||| a3) a2 M14 L hI16) yoX11_loadAt ml_X11_190 rfl rfl rfl rfl ⟨Nat.zero_le _, Nat.zero_le _⟩ (show decode cX11_compare 117 = .ok (.invokevirtual 190, 3) from by decide +kernel) rfl (fun v σ' hPo => ?_)
        obtain ⟨⟨rfl, rfl⟩, g18, hI19⟩ := hPo
        generalize hq17 : f_X11_loadAt (24 ||| a3) a2 M14 = q17 at h g18 hI19 ⊢
        obtain ⟨r17, M17⟩ := q17
        have h := xb_eq h
        try dsimp only at h g18 hI19
        show V 0 0 120 [(6, .int r14), (5, .int 0), (0, .ref 14), (1, .int a1), (2, .int a2), (3, .int a3), (4, .int a4)] [.int r17, .int r14, .int a2, .ref 14] LAY (M17, L)
        refine x_run C e_X11_compare_9 e_X11_compare_9_k (pc' := 122) (lv' := [(6, .int r14), (5, .int 0), (0, .ref 14), (1, .int a1), (2, .int a2), (3, .int a3), (4, .int a4)]) (st' := [.int 2, .int 1, .int r17, .int r14, .int a2, .ref 14]) (σ' := (M17, L)) rfl ⟨trivial, trivial, trivial⟩ ?_
        refine x_callV C (k := 14) (ci := 8) (rest := []) (avs := [.int a2, .int r14, .int r17, .int 1, .int 2]) (k_X11_sum l a2 r14 r17 1 2 M17 L hI19) yoX11_sum ml_X11_221 rfl rfl rfl rfl ⟨Nat.zero_le _, Nat.zero_le _⟩ (show decode cX11_compare 122 = .ok (.invokevirtual 221, 3) from by decide +kernel) rfl (fun v σ' hPo => ?_)
        obtain ⟨⟨rfl, rfl⟩, g21, hI22⟩ := hPo
        generalize hq20 : f_X11_sum a2 r14 r17 1 2 M17 = q20 at h g21 hI22 ⊢
        obtain ⟨r20, M20⟩ := q20
        have h := xb_eq h
        try dsimp only at h g21 hI22
        show V 0 0 125 [(6, .int r14), (5, .int 0), (0, .ref 14), (1, .int a1), (2, .int a2), (3, .int a3), (4, .int a4)] [.int r20] LAY (M20, L)
        refine x_run C e_X11_compare_10 e_X11_compare_10_k (pc' := 127) (lv' := [(5, .int r20), (6, .int r14), (0, .ref 14), (1, .int a1), (2, .int a2), (3, .int a3), (4, .int a4)]) (st' := []) (σ' := (M20, L)) rfl ⟨trivial, trivial⟩ ?_
        refine x_goto C (show decode cX11_compare 127 = .ok (.goto 32, 3) from by decide +kernel) (tgt := 159) (by decide) ?_
        subst h
        exact x_vret C (show decode cX11_compare 159 = .ok (.return_, 1) from by decide +kernel) (x_finV ⟨⟨rfl, rfl⟩, hI22⟩) (Nat.le_refl 0) (Nat.le_refl 0)
    · rw [if_pos c2] at h
      have g23 : xrg 0 0 a4 := (x_c_eq (x_rgt a4) (x_rgc (x := 0) (k := 0) (by decide)) c2).1
      refine x_run C e_X11_compare_11 e_X11_compare_11_k (pc' := 67) (lv' := [(5, .int 0), (0, .ref 14), (1, .int a1), (2, .int a2), (3, .int a3), (4, .int a4)]) (st' := [.int a2, .int a1, .ref 14, .int a2, .ref 14]) (σ' := (M, L)) rfl ⟨trivial, trivial, trivial, trivial, trivial, trivial⟩ ?_
      refine x_callV C (k := 14) (ci := 8) (rest := [.int a2, .ref 14]) (avs := [.int a1, .int a2]) (k_X11_loadAt l a1 a2 M L hI) yoX11_loadAt ml_X11_190 rfl rfl rfl rfl ⟨Nat.zero_le _, Nat.zero_le _⟩ (show decode cX11_compare 67 = .ok (.invokevirtual 190, 3) from by decide +kernel) rfl (fun v σ' hPo => ?_)
      obtain ⟨⟨rfl, rfl⟩, g25, hI26⟩ := hPo
      generalize hq24 : f_X11_loadAt a1 a2 M = q24 at h g25 hI26 ⊢
      obtain ⟨r24, M24⟩ := q24
      have h := xb_eq h
      try dsimp only at h g25 hI26
      show V 0 0 70 [(5, .int 0), (0, .ref 14), (1, .int a1), (2, .int a2), (3, .int a3), (4, .int a4)] [.int r24, .int a2, .ref 14] LAY (M24, L)
      refine x_run C e_X11_compare_12 e_X11_compare_12_k (pc' := 78) (lv' := [(5, .int 0), (0, .ref 14), (1, .int a1), (2, .int a2), (3, .int a3), (4, .int a4)]) (st' := [.int 2, .int 1, .int (M24 15 a3.toNatClampNeg), .int r24, .int a2, .ref 14]) (σ' := (M24, L)) rfl ⟨trivial, trivial, trivial, (x_rgv hp3 (by decide) (by decide)), trivial, trivial, trivial⟩ ?_
      refine x_callV C (k := 14) (ci := 8) (rest := []) (avs := [.int a2, .int r24, .int (M24 15 a3.toNatClampNeg), .int 1, .int 2]) (k_X11_sum l a2 r24 (M24 15 a3.toNatClampNeg) 1 2 M24 L hI26) yoX11_sum ml_X11_221 rfl rfl rfl rfl ⟨Nat.zero_le _, Nat.zero_le _⟩ (show decode cX11_compare 78 = .ok (.invokevirtual 221, 3) from by decide +kernel) rfl (fun v σ' hPo => ?_)
      obtain ⟨⟨rfl, rfl⟩, g28, hI29⟩ := hPo
      generalize hq27 : f_X11_sum a2 r24 (M24 15 a3.toNatClampNeg) 1 2 M24 = q27 at h g28 hI29 ⊢
      obtain ⟨r27, M27⟩ := q27
      have h := xb_eq h
      try dsimp only at h g28 hI29
      show V 0 0 81 [(5, .int 0), (0, .ref 14), (1, .int a1), (2, .int a2), (3, .int a3), (4, .int a4)] [.int r27] LAY (M27, L)
      refine x_run C e_X11_compare_13 e_X11_compare_13_k (pc' := 83) (lv' := [(5, .int r27), (0, .ref 14), (1, .int a1), (2, .int a2), (3, .int a3), (4, .int a4)]) (st' := []) (σ' := (M27, L)) rfl ⟨trivial, trivial⟩ ?_
      refine x_goto C (show decode cX11_compare 83 = .ok (.goto 76, 3) from by decide +kernel) (tgt := 159) (by decide) ?_
      subst h
      exact x_vret C (show decode cX11_compare 159 = .ok (.return_, 1) from by decide +kernel) (x_finV ⟨⟨rfl, rfl⟩, hI29⟩) (Nat.le_refl 0) (Nat.le_refl 0)
  · rw [if_pos c1] at h
    have g30 : xrg 3 3 a2 := (x_c_eq (x_rgt a2) (x_rgc (x := 3) (k := 3) (by decide)) c1).1
    refine x_run C e_X11_compare_14 e_X11_compare_14_k (pc' := 14) (lv' := [(5, .int 0), (0, .ref 14), (1, .int a1), (2, .int a2), (3, .int a3), (4, .int a4)]) (st' := [.int a4, .int a1, .ref 14, .int 2, .ref 14]) (σ' := (M, L)) rfl ⟨trivial, trivial, trivial, trivial, trivial, trivial⟩ ?_
    refine x_if_eq C (show decode cX11_compare 14 = .ok (.ifCond .eq 7, 3) from by decide +kernel) (tgt := 21) (by decide) (fun c31 => ?_) (fun c31 => ?_)
    · rw [if_pos c31] at h
      have g32 : xrg 0 0 a4 := (x_c_eq (x_rgt a4) (x_rgc (x := 0) (k := 0) (by decide)) c31).1
      refine x_run C e_X11_compare_15 e_X11_compare_15_k (pc' := 22) (lv' := [(5, .int 0), (0, .ref 14), (1, .int a1), (2, .int a2), (3, .int a3), (4, .int a4)]) (st' := [.int 1, .int a1, .ref 14, .int 2, .ref 14]) (σ' := (M, L)) rfl ⟨trivial, trivial⟩ ?_
      refine x_lv C [1, 4, 5] rfl ?_
      exact b_X11_compare_22 r C a3 a4 1 a1 2 M hp3 (x_rgw (x_rgc (x := 1) (k := 1) (by decide)) (lo' := 1) (hi' := 2) (by decide) (by decide)) hp1 (x_rgc (x := 2) (k := 2) (by decide)) hI h
    · rw [if_neg c31] at h
      refine x_run C e_X11_compare_16 e_X11_compare_16_k (pc' := 18) (lv' := [(5, .int 0), (0, .ref 14), (1, .int a1), (2, .int a2), (3, .int a3), (4, .int a4)]) (st' := [.int 2, .int a1, .ref 14, .int 2, .ref 14]) (σ' := (M, L)) rfl ⟨trivial, trivial⟩ ?_
      refine x_goto C (show decode cX11_compare 18 = .ok (.goto 4, 3) from by decide +kernel) (tgt := 22) (by decide) ?_
      refine x_lv C [1, 4, 5] rfl ?_
      exact b_X11_compare_22 r C a3 a4 2 a1 2 M hp3 (x_rgw (x_rgc (x := 2) (k := 2) (by decide)) (lo' := 1) (hi' := 2) (by decide) (by decide)) hp1 (x_rgc (x := 2) (k := 2) (by decide)) hI h
-- X11_divide
def e_X11_divide_1 : List xI := [(0, .aload_n 0, 1, .null), (1, .getfield 47, 3, .null)]
theorem e_X11_divide_1_k : e_X11_divide_1.all (fun q => xokB cX11_divide q && xokL q) = true := by decide +kernel
def e_X11_divide_2 : List xI := [(8, .iload 4, 2, .null)]
theorem e_X11_divide_2_k : e_X11_divide_2.all (fun q => xokB cX11_divide q && xokL q) = true := by decide +kernel
def e_X11_divide_3 : List xI := [(19, .lload_n 2, 1, .null), (20, .iload 4, 2, .null), (22, .i2l, 1, .null), (23, .ldiv, 1, .null), (24, .lstore 6, 2, .null), (26, .iload 5, 2, .null)]
theorem e_X11_divide_3_k : e_X11_divide_3.all (fun q => xokB cX11_divide q && xokL q) = true := by decide +kernel
def e_X11_divide_4 : List xI := [(57, .lload 6, 2, .null), (59, .ldc2_w 255, 3, .null), (62, .lcmp, 1, .null)]
theorem e_X11_divide_4_k : e_X11_divide_4.all (fun q => xokB cX11_divide q && xokL q) = true := by decide +kernel
def e_X11_divide_5 : List xI := [(70, .iconst 0, 1, .int 0), (71, .istore 8, 2, .null), (73, .iload 8, 2, .null)]
theorem e_X11_divide_5_k : e_X11_divide_5.all (fun q => xokB cX11_divide q && xokL q) = true := by decide +kernel
def e_X11_divide_6 : List xI := [(78, .aload_n 0, 1, .null), (79, .iconst 2, 1, .int 2), (80, .iconst 1, 1, .int 1)]
theorem e_X11_divide_6_k : e_X11_divide_6.all (fun q => xokB cX11_divide q && xokL q) = true := by decide +kernel
def e_X11_divide_7 : List xI := [(84, .aload_n 0, 1, .null), (85, .iconst 1, 1, .int 1), (86, .iconst 0, 1, .int 0)]
theorem e_X11_divide_7_k : e_X11_divide_7.all (fun q => xokB cX11_divide q && xokL q) = true := by decide +kernel
def e_X11_divide_8 : List xI := [(66, .iconst 1, 1, .int 1)]
theorem e_X11_divide_8_k : e_X11_divide_8.all (fun q => xokB cX11_divide q && xokL q) = true := by decide +kernel
def e_X11_divide_9 : List xI := [(71, .istore 8, 2, .null), (73, .iload 8, 2, .null)]
theorem e_X11_divide_9_k : e_X11_divide_9.all (fun q => xokB cX11_divide q && xokL q) = true := by decide +kernel
def e_X11_divide_10 : List xI := [(91, .aload_n 0, 1, .null), (92, .getfield 7, 3, .null), (95, .iload_n 1, 1, .null), (96, .lload_n 2, 1, .null), (97, .iload 4, 2, .null), (99, .i2l, 1, .null), (100, .lrem, 1, .null), (101, .l2i, 1, .null), (102, .bipush 16, 2, .int 16), (104, .ishl, 1, .null), (105, .lload 6, 2, .null), (107, .l2i, 1, .null), (108, .ldc 45, 2, .null), (110, .iand, 1, .null), (111, .ior, 1, .null), (112, .iastore, 1, .null), (113, .aload_n 0, 1, .null), (114, .iconst 1, 1, .int 1), (115, .aload_n 0, 1, .null), (116, .getfield 7, 3, .null), (119, .iload_n 1, 1, .null), (120, .iaload, 1, .null)]
theorem e_X11_divide_10_k : e_X11_divide_10.all (fun q => xokB cX11_divide q && xokL q) = true := by decide +kernel
def e_X11_divide_11 : List xI := [(31, .lload 6, 2, .null), (33, .ldc2_w 251, 3, .null), (36, .lcmp, 1, .null)]
theorem e_X11_divide_11_k : e_X11_divide_11.all (fun q => xokB cX11_divide q && xokL q) = true := by decide +kernel
def e_X11_divide_12 : List xI := [(53, .iconst 0, 1, .int 0)]
theorem e_X11_divide_12_k : e_X11_divide_12.all (fun q => xokB cX11_divide q && xokL q) = true := by decide +kernel
def e_X11_divide_13 : List xI := [(40, .lload 6, 2, .null), (42, .ldc2_w 253, 3, .null), (45, .lcmp, 1, .null)]
theorem e_X11_divide_13_k : e_X11_divide_13.all (fun q => xokB cX11_divide q && xokL q) = true := by decide +kernel
def e_X11_divide_14 : List xI := [(49, .iconst 1, 1, .int 1)]
theorem e_X11_divide_14_k : e_X11_divide_14.all (fun q => xokB cX11_divide q && xokL q) = true := by decide +kernel
def e_X11_divide_15 : List xI := [(13, .aload_n 0, 1, .null), (14, .iconst 5, 1, .int 5), (15, .putfield 228, 3, .null)]
theorem e_X11_divide_15_k : e_X11_divide_15.all (fun q => xokB cX11_divide q && xokL q) = true := by decide +kernel
abbrev P_X11_divide (r : St) (L : Nat → Nat → Int64) : Option Value → xG → Prop := fun v σ' => PoV r L v σ' ∧ Inv INVM r
abbrev R_X11_divide : Room := { frames := 2, cells := 0, slots := 0, locals := 45 }
abbrev C_X11_divide (l : Launch) (r : St) (L : Nat → Nat → Int64) (V : XJ) : Prop := XC l yX11_divide.cls yX11_divide.name cX11_divide 9 R_X11_divide 0 0 fl_X11 kc_X11 LAY.length (xfin none LAY (P_X11_divide r L)) V
def f_X11_divide (a1 : Int32) (a2 : Int64) (a3 : Int32) (a4 : Int32) (M : St) : St := (if (M 14 20) = 0 then (if a3 = 0 then (xup M 14 23 5) else (if a4 = 0 then (if 0 < (lg_cmp (a2 / a3.toInt64) 65535) then (xb (f_X11_flag 2 1 M) fun q9 => (xb (f_X11_flag 1 0 q9) fun q12 => q12)) else (xb (f_X11_test 1 ((xup M 15 a1.toNatClampNeg (((a2 - a2 / a3.toInt64 * a3.toInt64).toInt32 <<< ((16 : Int32) &&& 31)) ||| ((a2 / a3.toInt64).toInt32 &&& 65535))) 15 a1.toNatClampNeg) (xup M 15 a1.toNatClampNeg (((a2 - a2 / a3.toInt64 * a3.toInt64).toInt32 <<< ((16 : Int32) &&& 31)) ||| ((a2 / a3.toInt64).toInt32 &&& 65535)))) fun q18 => q18)) else (if (lg_cmp (a2 / a3.toInt64) (-32768)) < 0 then (xb (f_X11_flag 2 1 M) fun q24 => (xb (f_X11_flag 1 0 q24) fun q27 => q27)) else (if 0 < (lg_cmp (a2 / a3.toInt64) 32767) then (xb (f_X11_flag 2 1 M) fun q34 => (xb (f_X11_flag 1 0 q34) fun q37 => q37)) else (xb (f_X11_test 1 ((xup M 15 a1.toNatClampNeg (((a2 - a2 / a3.toInt64 * a3.toInt64).toInt32 <<< ((16 : Int32) &&& 31)) ||| ((a2 / a3.toInt64).toInt32 &&& 65535))) 15 a1.toNatClampNeg) (xup M 15 a1.toNatClampNeg (((a2 - a2 / a3.toInt64 * a3.toInt64).toInt32 <<< ((16 : Int32) &&& 31)) ||| ((a2 / a3.toInt64).toInt32 &&& 65535)))) fun q43 => q43))))) else M)
set_option maxRecDepth 20000 in
set_option maxHeartbeats 4000000 in
theorem k_X11_divide (l : Launch) (a1 : Int32) (a2 : Int64) (a3 : Int32) (a4 : Int32) (M : St) (L : Nat → Nat → Int64) (hp1 : xrg 0 7 a1) (hI : Inv INVM M) : XM l yX11_divide cX11_divide 9 none R_X11_divide LAY [.ref 14, .int a1, .long a2, .int a3, .int a4] (M, L) (P_X11_divide (f_X11_divide a1 a2 a3 a4 M) L) := by
  refine XM.of (by decide) (Nat.le_of_ble_eq_true rfl) LAY_in cl_ok fl_X11_ok kc_X11_ok (fun V C => ?_)
  obtain ⟨r, h⟩ : ∃ r, f_X11_divide a1 a2 a3 a4 M = r := ⟨_, rfl⟩
  rw [h] at C
  change C_X11_divide l r L V at C
  unfold f_X11_divide at h
  show V 0 0 0 [(0, .ref 14), (1, .int a1), (2, .long a2), (4, .int a3), (5, .int a4)] [] LAY (M, L)
  refine x_run C e_X11_divide_1 e_X11_divide_1_k (pc' := 4) (lv' := [(0, .ref 14), (1, .int a1), (2, .long a2), (4, .int a3), (5, .int a4)]) (st' := [.int (M 14 20)]) (σ' := (M, L)) rfl ⟨trivial, trivial, trivial⟩ ?_
  refine x_if_eq C (show decode cX11_divide 4 = .ok (.ifCond .eq 4, 3) from by decide +kernel) (tgt := 8) (by decide) (fun c1 => ?_) (fun c1 => ?_)
  · rw [if_pos c1] at h
    have g2 : xrg 0 0 (M 14 20) := (x_c_eq (hI.at 5 rfl) (x_rgc (x := 0) (k := 0) (by decide)) c1).1
    refine x_run C e_X11_divide_2 e_X11_divide_2_k (pc' := 10) (lv' := [(0, .ref 14), (1, .int a1), (2, .long a2), (4, .int a3), (5, .int a4)]) (st' := [.int a3]) (σ' := (M, L)) rfl ⟨trivial, trivial⟩ ?_
    refine x_if_ne C (show decode cX11_divide 10 = .ok (.ifCond .ne 9, 3) from by decide +kernel) (tgt := 19) (by decide) (fun c3 => ?_) (fun c3 => ?_)
    · rw [if_neg c3] at h
      refine x_run C e_X11_divide_3 e_X11_divide_3_k (pc' := 28) (lv' := [(6, .long (a2 / a3.toInt64)), (0, .ref 14), (1, .int a1), (2, .long a2), (4, .int a3), (5, .int a4)]) (st' := [.int a4]) (σ' := (M, L)) rfl ⟨trivial, trivial, trivial, (by first | assumption | exact x_nz (by assumption)), trivial, trivial, trivial⟩ ?_
      refine x_if_eq C (show decode cX11_divide 28 = .ok (.ifCond .eq 29, 3) from by decide +kernel) (tgt := 57) (by decide) (fun c4 => ?_) (fun c4 => ?_)
      · rw [if_pos c4] at h
        have g5 : xrg 0 0 a4 := (x_c_eq (x_rgt a4) (x_rgc (x := 0) (k := 0) (by decide)) c4).1
        refine x_run C e_X11_divide_4 e_X11_divide_4_k (pc' := 63) (lv' := [(6, .long (a2 / a3.toInt64)), (0, .ref 14), (1, .int a1), (2, .long a2), (4, .int a3), (5, .int a4)]) (st' := [.int (lg_cmp (a2 / a3.toInt64) 65535)]) (σ' := (M, L)) rfl ⟨trivial, trivial, trivial, trivial⟩ ?_
        refine x_if_gt C (show decode cX11_divide 63 = .ok (.ifCond .gt 7, 3) from by decide +kernel) (tgt := 70) (by decide) (fun c6 => ?_) (fun c6 => ?_)
        · rw [if_pos c6] at h
          have g7 : xrg 1 2147483647 (lg_cmp (a2 / a3.toInt64) 65535) := (x_c_lt (x_rgc (x := 0) (k := 0) (by decide)) (x_rgt (lg_cmp (a2 / a3.toInt64) 65535)) c6).2
          refine x_run C e_X11_divide_5 e_X11_divide_5_k (pc' := 75) (lv' := [(8, .int 0), (6, .long (a2 / a3.toInt64)), (0, .ref 14), (1, .int a1), (2, .long a2), (4, .int a3), (5, .int a4)]) (st' := [.int 0]) (σ' := (M, L)) rfl ⟨trivial, trivial, trivial, trivial⟩ ?_
          refine x_if_ne C (show decode cX11_divide 75 = .ok (.ifCond .ne 16, 3) from by decide +kernel) (tgt := 91) (by decide) (fun c8 => absurd c8 (by decide)) (fun c8 => ?_)
          refine x_run C e_X11_divide_6 e_X11_divide_6_k (pc' := 81) (lv' := [(8, .int 0), (6, .long (a2 / a3.toInt64)), (0, .ref 14), (1, .int a1), (2, .long a2), (4, .int a3), (5, .int a4)]) (st' := [.int 1, .int 2, .ref 14]) (σ' := (M, L)) rfl ⟨trivial, trivial, trivial, trivial⟩ ?_
          refine x_callV C (k := 14) (ci := 8) (rest := []) (avs := [.int 2, .int 1]) (k_X11_flag l 2 1 M L hI) yoX11_flag ml_X11_135 rfl rfl rfl rfl ⟨Nat.zero_le _, Nat.zero_le _⟩ (show decode cX11_divide 81 = .ok (.invokevirtual 135, 3) from by decide +kernel) rfl (fun v σ' hPo => ?_)
          obtain ⟨⟨rfl, rfl⟩, hI11⟩ := hPo
          generalize hq9 : f_X11_flag 2 1 M = q9 at h hI11 ⊢
          have h := xb_eq h
          show V 0 0 84 [(8, .int 0), (6, .long (a2 / a3.toInt64)), (0, .ref 14), (1, .int a1), (2, .long a2), (4, .int a3), (5, .int a4)] [] LAY (q9, L)
          refine x_run C e_X11_divide_7 e_X11_divide_7_k (pc' := 87) (lv' := [(8, .int 0), (6, .long (a2 / a3.toInt64)), (0, .ref 14), (1, .int a1), (2, .long a2), (4, .int a3), (5, .int a4)]) (st' := [.int 0, .int 1, .ref 14]) (σ' := (q9, L)) rfl ⟨trivial, trivial, trivial, trivial⟩ ?_
          refine x_callV C (k := 14) (ci := 8) (rest := []) (avs := [.int 1, .int 0]) (k_X11_flag l 1 0 q9 L hI11) yoX11_flag ml_X11_135 rfl rfl rfl rfl ⟨Nat.zero_le _, Nat.zero_le _⟩ (show decode cX11_divide 87 = .ok (.invokevirtual 135, 3) from by decide +kernel) rfl (fun v σ' hPo => ?_)
          obtain ⟨⟨rfl, rfl⟩, hI14⟩ := hPo
          generalize hq12 : f_X11_flag 1 0 q9 = q12 at h hI14 ⊢
          have h := xb_eq h
          show V 0 0 90 [(8, .int 0), (6, .long (a2 / a3.toInt64)), (0, .ref 14), (1, .int a1), (2, .long a2), (4, .int a3), (5, .int a4)] [] LAY (q12, L)
          subst h
          exact x_vret C (show decode cX11_divide 90 = .ok (.return_, 1) from by decide +kernel) (x_finV ⟨⟨rfl, rfl⟩, hI14⟩) (Nat.le_refl 0) (Nat.le_refl 0)
        · rw [if_neg c6] at h
          have g15 : xrg (-2147483648) 0 (lg_cmp (a2 / a3.toInt64) 65535) := (x_c_nlt (x_rgc (x := 0) (k := 0) (by decide)) (x_rgt (lg_cmp (a2 / a3.toInt64) 65535)) c6).2
          refine x_run C e_X11_divide_8 e_X11_divide_8_k (pc' := 67) (lv' := [(6, .long (a2 / a3.toInt64)), (0, .ref 14), (1, .int a1), (2, .long a2), (4, .int a3), (5, .int a4)]) (st' := [.int 1]) (σ' := (M, L)) rfl ⟨trivial, trivial⟩ ?_
          refine x_goto C (show decode cX11_divide 67 = .ok (.goto 4, 3) from by decide +kernel) (tgt := 71) (by decide) ?_
          refine x_run C e_X11_divide_9 e_X11_divide_9_k (pc' := 75) (lv' := [(8, .int 1), (6, .long (a2 / a3.toInt64)), (0, .ref 14), (1, .int a1), (2, .long a2), (4, .int a3), (5, .int a4)]) (st' := [.int 1]) (σ' := (M, L)) rfl ⟨trivial, trivial, trivial⟩ ?_
          refine x_if_ne C (show decode cX11_divide 75 = .ok (.ifCond .ne 16, 3) from by decide +kernel) (tgt := 91) (by decide) (fun c16 => ?_) (fun c16 => absurd c16 (by decide))
          refine x_run C e_X11_divide_10 e_X11_divide_10_k (pc' := 121) (lv' := [(8, .int 1), (6, .long (a2 / a3.toInt64)), (0, .ref 14), (1, .int a1), (2, .long a2), (4, .int a3), (5, .int a4)]) (st' := [.int ((xup M 15 a1.toNatClampNeg (((a2 - a2 / a3.toInt64 * a3.toInt64).toInt32 <<< ((16 : Int32) &&& 31)) ||| ((a2 / a3.toInt64).toInt32 &&& 65535))) 15 a1.toNatClampNeg), .int 1, .ref 14]) (σ' := ((xup M 15 a1.toNatClampNeg (((a2 - a2 / a3.toInt64 * a3.toInt64).toInt32 <<< ((16 : Int32) &&& 31)) ||| ((a2 / a3.toInt64).toInt32 &&& 65535))), L)) rfl ⟨trivial, trivial, trivial, trivial, trivial, trivial, (by first | assumption | exact x_nz (by assumption)), trivial, trivial, trivial, trivial, trivial, trivial, trivial, trivial, (x_rgv hp1 (by decide) (by decide)), trivial, trivial, trivial, trivial, trivial, (x_rgv hp1 (by decide) (by decide)), trivial⟩ ?_
          have hI17 : Inv INVM (xup M 15 a1.toNatClampNeg (((a2 - a2 / a3.toInt64 * a3.toInt64).toInt32 <<< ((16 : Int32) &&& 31)) ||| ((a2 / a3.toInt64).toInt32 &&& 65535))) := (hI.arr 15 (a1.toNatClampNeg) (((a2 - a2 / a3.toInt64 * a3.toInt64).toInt32 <<< ((16 : Int32) &&& 31)) ||| ((a2 / a3.toInt64).toInt32 &&& 65535)) (by decide))
          refine x_callV C (k := 14) (ci := 8) (rest := []) (avs := [.int 1, .int ((xup M 15 a1.toNatClampNeg (((a2 - a2 / a3.toInt64 * a3.toInt64).toInt32 <<< ((16 : Int32) &&& 31)) ||| ((a2 / a3.toInt64).toInt32 &&& 65535))) 15 a1.toNatClampNeg)]) (k_X11_test l 1 ((xup M 15 a1.toNatClampNeg (((a2 - a2 / a3.toInt64 * a3.toInt64).toInt32 <<< ((16 : Int32) &&& 31)) ||| ((a2 / a3.toInt64).toInt32 &&& 65535))) 15 a1.toNatClampNeg) (xup M 15 a1.toNatClampNeg (((a2 - a2 / a3.toInt64 * a3.toInt64).toInt32 <<< ((16 : Int32) &&& 31)) ||| ((a2 / a3.toInt64).toInt32 &&& 65535))) L hI17) yoX11_test ml_X11_196 rfl rfl rfl rfl ⟨Nat.zero_le _, Nat.zero_le _⟩ (show decode cX11_divide 121 = .ok (.invokevirtual 196, 3) from by decide +kernel) rfl (fun v σ' hPo => ?_)
          obtain ⟨⟨rfl, rfl⟩, hI20⟩ := hPo
          generalize hq18 : f_X11_test 1 ((xup M 15 a1.toNatClampNeg (((a2 - a2 / a3.toInt64 * a3.toInt64).toInt32 <<< ((16 : Int32) &&& 31)) ||| ((a2 / a3.toInt64).toInt32 &&& 65535))) 15 a1.toNatClampNeg) (xup M 15 a1.toNatClampNeg (((a2 - a2 / a3.toInt64 * a3.toInt64).toInt32 <<< ((16 : Int32) &&& 31)) ||| ((a2 / a3.toInt64).toInt32 &&& 65535))) = q18 at h hI20 ⊢
          have h := xb_eq h
          show V 0 0 124 [(8, .int 1), (6, .long (a2 / a3.toInt64)), (0, .ref 14), (1, .int a1), (2, .long a2), (4, .int a3), (5, .int a4)] [] LAY (q18, L)
          subst h
          exact x_vret C (show decode cX11_divide 124 = .ok (.return_, 1) from by decide +kernel) (x_finV ⟨⟨rfl, rfl⟩, hI20⟩) (Nat.le_refl 0) (Nat.le_refl 0)
      · rw [if_neg c4] at h
        refine x_run C e_X11_divide_11 e_X11_divide_11_k (pc' := 37) (lv' := [(6, .long (a2 / a3.toInt64)), (0, .ref 14), (1, .int a1), (2, .long a2), (4, .int a3), (5, .int a4)]) (st' := [.int (lg_cmp (a2 / a3.toInt64) (-32768))]) (σ' := (M, L)) rfl ⟨trivial, trivial, trivial, trivial⟩ ?_
        refine x_if_lt C (show decode cX11_divide 37 = .ok (.ifCond .lt 16, 3) from by decide +kernel) (tgt := 53) (by decide) (fun c21 => ?_) (fun c21 => ?_)
        · rw [if_pos c21] at h
          have g22 : xrg (-2147483648) (-1) (lg_cmp (a2 / a3.toInt64) (-32768)) := (x_c_lt (x_rgt (lg_cmp (a2 / a3.toInt64) (-32768))) (x_rgc (x := 0) (k := 0) (by decide)) c21).1
          refine x_run C e_X11_divide_12 e_X11_divide_12_k (pc' := 54) (lv' := [(6, .long (a2 / a3.toInt64)), (0, .ref 14), (1, .int a1), (2, .long a2), (4, .int a3), (5, .int a4)]) (st' := [.int 0]) (σ' := (M, L)) rfl ⟨trivial, trivial⟩ ?_
          refine x_goto C (show decode cX11_divide 54 = .ok (.goto 17, 3) from by decide +kernel) (tgt := 71) (by decide) ?_
          refine x_run C e_X11_divide_9 e_X11_divide_9_k (pc' := 75) (lv' := [(8, .int 0), (6, .long (a2 / a3.toInt64)), (0, .ref 14), (1, .int a1), (2, .long a2), (4, .int a3), (5, .int a4)]) (st' := [.int 0]) (σ' := (M, L)) rfl ⟨trivial, trivial, trivial⟩ ?_
          refine x_if_ne C (show decode cX11_divide 75 = .ok (.ifCond .ne 16, 3) from by decide +kernel) (tgt := 91) (by decide) (fun c23 => absurd c23 (by decide)) (fun c23 => ?_)
          refine x_run C e_X11_divide_6 e_X11_divide_6_k (pc' := 81) (lv' := [(8, .int 0), (6, .long (a2 / a3.toInt64)), (0, .ref 14), (1, .int a1), (2, .long a2), (4, .int a3), (5, .int a4)]) (st' := [.int 1, .int 2, .ref 14]) (σ' := (M, L)) rfl ⟨trivial, trivial, trivial, trivial⟩ ?_
          refine x_callV C (k := 14) (ci := 8) (rest := []) (avs := [.int 2, .int 1]) (k_X11_flag l 2 1 M L hI) yoX11_flag ml_X11_135 rfl rfl rfl rfl ⟨Nat.zero_le _, Nat.zero_le _⟩ (show decode cX11_divide 81 = .ok (.invokevirtual 135, 3) from by decide +kernel) rfl (fun v σ' hPo => ?_)
          obtain ⟨⟨rfl, rfl⟩, hI26⟩ := hPo
          generalize hq24 : f_X11_flag 2 1 M = q24 at h hI26 ⊢
          have h := xb_eq h
          show V 0 0 84 [(8, .int 0), (6, .long (a2 / a3.toInt64)), (0, .ref 14), (1, .int a1), (2, .long a2), (4, .int a3), (5, .int a4)] [] LAY (q24, L)
          refine x_run C e_X11_divide_7 e_X11_divide_7_k (pc' := 87) (lv' := [(8, .int 0), (6, .long (a2 / a3.toInt64)), (0, .ref 14), (1, .int a1), (2, .long a2), (4, .int a3), (5, .int a4)]) (st' := [.int 0, .int 1, .ref 14]) (σ' := (q24, L)) rfl ⟨trivial, trivial, trivial, trivial⟩ ?_
          refine x_callV C (k := 14) (ci := 8) (rest := []) (avs := [.int 1, .int 0]) (k_X11_flag l 1 0 q24 L hI26) yoX11_flag ml_X11_135 rfl rfl rfl rfl ⟨Nat.zero_le _, Nat.zero_le _⟩ (show decode cX11_divide 87 = .ok (.invokevirtual 135, 3) from by decide +kernel) rfl (fun v σ' hPo => ?_)
          obtain ⟨⟨rfl, rfl⟩, hI29⟩ := hPo
          generalize hq27 : f_X11_flag 1 0 q24 = q27 at h hI29 ⊢
          have h := xb_eq h
          show V 0 0 90 [(8, .int 0), (6, .long (a2 / a3.toInt64)), (0, .ref 14), (1, .int a1), (2, .long a2), (4, .int a3), (5, .int a4)] [] LAY (q27, L)
          subst h
          exact x_vret C (show decode cX11_divide 90 = .ok (.return_, 1) from by decide +kernel) (x_finV ⟨⟨rfl, rfl⟩, hI29⟩) (Nat.le_refl 0) (Nat.le_refl 0)
        · rw [if_neg c21] at h
          have g30 : xrg 0 2147483647 (lg_cmp (a2 / a3.toInt64) (-32768)) := (x_c_nlt (x_rgt (lg_cmp (a2 / a3.toInt64) (-32768))) (x_rgc (x := 0) (k := 0) (by decide)) c21).1
          refine x_run C e_X11_divide_13 e_X11_divide_13_k (pc' := 46) (lv' := [(6, .long (a2 / a3.toInt64)), (0, .ref 14), (1, .int a1), (2, .long a2), (4, .int a3), (5, .int a4)]) (st' := [.int (lg_cmp (a2 / a3.toInt64) 32767)]) (σ' := (M, L)) rfl ⟨trivial, trivial, trivial, trivial⟩ ?_
          refine x_if_gt C (show decode cX11_divide 46 = .ok (.ifCond .gt 7, 3) from by decide +kernel) (tgt := 53) (by decide) (fun c31 => ?_) (fun c31 => ?_)
          · rw [if_pos c31] at h
            have g32 : xrg 1 2147483647 (lg_cmp (a2 / a3.toInt64) 32767) := (x_c_lt (x_rgc (x := 0) (k := 0) (by decide)) (x_rgt (lg_cmp (a2 / a3.toInt64) 32767)) c31).2
            refine x_run C e_X11_divide_12 e_X11_divide_12_k (pc' := 54) (lv' := [(6, .long (a2 / a3.toInt64)), (0, .ref 14), (1, .int a1), (2, .long a2), (4, .int a3), (5, .int a4)]) (st' := [.int 0]) (σ' := (M, L)) rfl ⟨trivial, trivial⟩ ?_
            refine x_goto C (show decode cX11_divide 54 = .ok (.goto 17, 3) from by decide +kernel) (tgt := 71) (by decide) ?_
            refine x_run C e_X11_divide_9 e_X11_divide_9_k (pc' := 75) (lv' := [(8, .int 0), (6, .long (a2 / a3.toInt64)), (0, .ref 14), (1, .int a1), (2, .long a2), (4, .int a3), (5, .int a4)]) (st' := [.int 0]) (σ' := (M, L)) rfl ⟨trivial, trivial, trivial⟩ ?_
            refine x_if_ne C (show decode cX11_divide 75 = .ok (.ifCond .ne 16, 3) from by decide +kernel) (tgt := 91) (by decide) (fun c33 => absurd c33 (by decide)) (fun c33 => ?_)
            refine x_run C e_X11_divide_6 e_X11_divide_6_k (pc' := 81) (lv' := [(8, .int 0), (6, .long (a2 / a3.toInt64)), (0, .ref 14), (1, .int a1), (2, .long a2), (4, .int a3), (5, .int a4)]) (st' := [.int 1, .int 2, .ref 14]) (σ' := (M, L)) rfl ⟨trivial, trivial, trivial, trivial⟩ ?_
            refine x_callV C (k := 14) (ci := 8) (rest := []) (avs := [.int 2, .int 1]) (k_X11_flag l 2 1 M L hI) yoX11_flag ml_X11_135 rfl rfl rfl rfl ⟨Nat.zero_le _, Nat.zero_le _⟩ (show decode cX11_divide 81 = .ok (.invokevirtual 135, 3) from by decide +kernel) rfl (fun v σ' hPo => ?_)
            obtain ⟨⟨rfl, rfl⟩, hI36⟩ := hPo
            generalize hq34 : f_X11_flag 2 1 M = q34 at h hI36 ⊢
            have h := xb_eq h
            show V 0 0 84 [(8, .int 0), (6, .long (a2 / a3.toInt64)), (0, .ref 14), (1, .int a1), (2, .long a2), (4, .int a3), (5, .int a4)] [] LAY (q34, L)
            refine x_run C e_X11_divide_7 e_X11_divide_7_k (pc' := 87) (lv' := [(8, .int 0), (6, .long (a2 / a3.toInt64)), (0, .ref 14), (1, .int a1), (2, .long a2), (4, .int a3), (5, .int a4)]) (st' := [.int 0, .int 1, .ref 14]) (σ' := (q34, L)) rfl ⟨trivial, trivial, trivial, trivial⟩ ?_
            refine x_callV C (k := 14) (ci := 8) (rest := []) (avs := [.int 1, .int 0]) (k_X11_flag l 1 0 q34 L hI36) yoX11_flag ml_X11_135 rfl rfl rfl rfl ⟨Nat.zero_le _, Nat.zero_le _⟩ (show decode cX11_divide 87 = .ok (.invokevirtual 135, 3) from by decide +kernel) rfl (fun v σ' hPo => ?_)
            obtain ⟨⟨rfl, rfl⟩, hI39⟩ := hPo
            generalize hq37 : f_X11_flag 1 0 q34 = q37 at h hI39 ⊢
            have h := xb_eq h
            show V 0 0 90 [(8, .int 0), (6, .long (a2 / a3.toInt64)), (0, .ref 14), (1, .int a1), (2, .long a2), (4, .int a3), (5, .int a4)] [] LAY (q37, L)
            subst h
            exact x_vret C (show decode cX11_divide 90 = .ok (.return_, 1) from by decide +kernel) (x_finV ⟨⟨rfl, rfl⟩, hI39⟩) (Nat.le_refl 0) (Nat.le_refl 0)
          · rw [if_neg c31] at h
            have g40 : xrg (-2147483648) 0 (lg_cmp (a2 / a3.toInt64) 32767) := (x_c_nlt (x_rgc (x := 0) (k := 0) (by decide)) (x_rgt (lg_cmp (a2 / a3.toInt64) 32767)) c31).2
            refine x_run C e_X11_divide_14 e_X11_divide_14_k (pc' := 50) (lv' := [(6, .long (a2 / a3.toInt64)), (0, .ref 14), (1, .int a1), (2, .long a2), (4, .int a3), (5, .int a4)]) (st' := [.int 1]) (σ' := (M, L)) rfl ⟨trivial, trivial⟩ ?_
            refine x_goto C (show decode cX11_divide 50 = .ok (.goto 21, 3) from by decide +kernel) (tgt := 71) (by decide) ?_
            refine x_run C e_X11_divide_9 e_X11_divide_9_k (pc' := 75) (lv' := [(8, .int 1), (6, .long (a2 / a3.toInt64)), (0, .ref 14), (1, .int a1), (2, .long a2), (4, .int a3), (5, .int a4)]) (st' := [.int 1]) (σ' := (M, L)) rfl ⟨trivial, trivial, trivial⟩ ?_
            refine x_if_ne C (show decode cX11_divide 75 = .ok (.ifCond .ne 16, 3) from by decide +kernel) (tgt := 91) (by decide) (fun c41 => ?_) (fun c41 => absurd c41 (by decide))
            refine x_run C e_X11_divide_10 e_X11_divide_10_k (pc' := 121) (lv' := [(8, .int 1), (6, .long (a2 / a3.toInt64)), (0, .ref 14), (1, .int a1), (2, .long a2), (4, .int a3), (5, .int a4)]) (st' := [.int ((xup M 15 a1.toNatClampNeg (((a2 - a2 / a3.toInt64 * a3.toInt64).toInt32 <<< ((16 : Int32) &&& 31)) ||| ((a2 / a3.toInt64).toInt32 &&& 65535))) 15 a1.toNatClampNeg), .int 1, .ref 14]) (σ' := ((xup M 15 a1.toNatClampNeg (((a2 - a2 / a3.toInt64 * a3.toInt64).toInt32 <<< ((16 : Int32) &&& 31)) ||| ((a2 / a3.toInt64).toInt32 &&& 65535))), L)) rfl ⟨trivial, trivial, trivial, trivial, trivial, trivial, (by first | assumption | exact x_nz (by assumption)), trivial, trivial, trivial, trivial, trivial, trivial, trivial, trivial, (x_rgv hp1 (by decide) (by decide)), trivial, trivial, trivial, trivial, trivial, (x_rgv hp1 (by decide) (by decide)), trivial⟩ ?_
            have hI42 : Inv INVM (xup M 15 a1.toNatClampNeg (((a2 - a2 / a3.toInt64 * a3.toInt64).toInt32 <<< ((16 : Int32) &&& 31)) ||| ((a2 / a3.toInt64).toInt32 &&& 65535))) := (hI.arr 15 (a1.toNatClampNeg) (((a2 - a2 / a3.toInt64 * a3.toInt64).toInt32 <<< ((16 : Int32) &&& 31)) ||| ((a2 / a3.toInt64).toInt32 &&& 65535)) (by decide))
            refine x_callV C (k := 14) (ci := 8) (rest := []) (avs := [.int 1, .int ((xup M 15 a1.toNatClampNeg (((a2 - a2 / a3.toInt64 * a3.toInt64).toInt32 <<< ((16 : Int32) &&& 31)) ||| ((a2 / a3.toInt64).toInt32 &&& 65535))) 15 a1.toNatClampNeg)]) (k_X11_test l 1 ((xup M 15 a1.toNatClampNeg (((a2 - a2 / a3.toInt64 * a3.toInt64).toInt32 <<< ((16 : Int32) &&& 31)) ||| ((a2 / a3.toInt64).toInt32 &&& 65535))) 15 a1.toNatClampNeg) (xup M 15 a1.toNatClampNeg (((a2 - a2 / a3.toInt64 * a3.toInt64).toInt32 <<< ((16 : Int32) &&& 31)) ||| ((a2 / a3.toInt64).toInt32 &&& 65535))) L hI42) yoX11_test ml_X11_196 rfl rfl rfl rfl ⟨Nat.zero_le _, Nat.zero_le _⟩ (show decode cX11_divide 121 = .ok (.invokevirtual 196, 3) from by decide +kernel) rfl (fun v σ' hPo => ?_)
            obtain ⟨⟨rfl, rfl⟩, hI45⟩ := hPo
            generalize hq43 : f_X11_test 1 ((xup M 15 a1.toNatClampNeg (((a2 - a2 / a3.toInt64 * a3.toInt64).toInt32 <<< ((16 : Int32) &&& 31)) ||| ((a2 / a3.toInt64).toInt32 &&& 65535))) 15 a1.toNatClampNeg) (xup M 15 a1.toNatClampNeg (((a2 - a2 / a3.toInt64 * a3.toInt64).toInt32 <<< ((16 : Int32) &&& 31)) ||| ((a2 / a3.toInt64).toInt32 &&& 65535))) = q43 at h hI45 ⊢
            have h := xb_eq h
            show V 0 0 124 [(8, .int 1), (6, .long (a2 / a3.toInt64)), (0, .ref 14), (1, .int a1), (2, .long a2), (4, .int a3), (5, .int a4)] [] LAY (q43, L)
            subst h
            exact x_vret C (show decode cX11_divide 124 = .ok (.return_, 1) from by decide +kernel) (x_finV ⟨⟨rfl, rfl⟩, hI45⟩) (Nat.le_refl 0) (Nat.le_refl 0)
    · rw [if_pos c3] at h
      have g46 : xrg 0 0 a3 := (x_c_eq (x_rgt a3) (x_rgc (x := 0) (k := 0) (by decide)) c3).1
      refine x_run C e_X11_divide_15 e_X11_divide_15_k (pc' := 18) (lv' := [(0, .ref 14), (1, .int a1), (2, .long a2), (4, .int a3), (5, .int a4)]) (st' := []) (σ' := ((xup M 14 23 5), L)) rfl ⟨trivial, trivial, trivial, trivial⟩ ?_
      have hI47 : Inv INVM (xup M 14 23 5) := (hI.set 14 23 (x_rgc (x := 5) (k := 5) (by decide)) (by decide))
      subst h
      exact x_vret C (show decode cX11_divide 18 = .ok (.return_, 1) from by decide +kernel) (x_finV ⟨⟨rfl, rfl⟩, hI47⟩) (Nat.le_refl 0) (Nat.le_refl 0)
  · rw [if_neg c1] at h
    have g48 : xrg 1 3 (M 14 20) := (x_c_ne (hI.at 5 rfl) (by decide) c1)
    subst h
    exact x_vret C (show decode cX11_divide 7 = .ok (.return_, 1) from by decide +kernel) (x_finV ⟨⟨rfl, rfl⟩, hI⟩) (Nat.le_refl 0) (Nat.le_refl 0)
-- X11_inTens
def e_X11_inTens_1 : List xI := [(0, .iload_n 1, 1, .null), (1, .bipush 8, 2, .int 8)]
theorem e_X11_inTens_1_k : e_X11_inTens_1.all (fun q => xokB cX11_inTens q && xokL q) = true := by decide +kernel
def e_X11_inTens_2 : List xI := [(38, .aload_n 0, 1, .null), (39, .bipush 32, 2, .int 32), (41, .iload_n 1, 1, .null), (42, .bipush 7, 2, .int 7), (44, .iand, 1, .null), (45, .ior, 1, .null), (46, .iconst 0, 1, .int 0)]
theorem e_X11_inTens_2_k : e_X11_inTens_2.all (fun q => xokB cX11_inTens q && xokL q) = true := by decide +kernel
def e_X11_inTens_3 : List xI := [(50, .istore 4, 2, .null), (52, .aload_n 0, 1, .null), (53, .iconst 0, 1, .int 0), (54, .aload_n 0, 1, .null), (55, .iload 4, 2, .null), (57, .aload_n 0, 1, .null), (58, .bipush 32, 2, .int 32), (60, .iload_n 2, 1, .null), (61, .ior, 1, .null), (62, .iconst 0, 1, .int 0)]
theorem e_X11_inTens_3_k : e_X11_inTens_3.all (fun q => xokB cX11_inTens q && xokL q) = true := by decide +kernel
def e_X11_inTens_4 : List xI := [(66, .iload_n 3, 1, .null)]
theorem e_X11_inTens_4_k : e_X11_inTens_4.all (fun q => xokB cX11_inTens q && xokL q) = true := by decide +kernel
def e_X11_inTens_5 : List xI := [(6, .aload_n 0, 1, .null), (7, .iload_n 2, 1, .null), (8, .iconst 0, 1, .int 0), (9, .aload_n 0, 1, .null), (10, .aload_n 0, 1, .null), (11, .getfield 7, 3, .null), (14, .iload_n 1, 1, .null), (15, .iaload, 1, .null), (16, .sipush 255, 3, .int 255), (19, .iand, 1, .null), (20, .aload_n 0, 1, .null), (21, .getfield 7, 3, .null), (24, .iload_n 2, 1, .null), (25, .iaload, 1, .null), (26, .sipush 255, 3, .int 255), (29, .iand, 1, .null), (30, .iload_n 3, 1, .null)]
theorem e_X11_inTens_5_k : e_X11_inTens_5.all (fun q => xokB cX11_inTens q && xokL q) = true := by decide +kernel
abbrev P_X11_inTens (r : St) (L : Nat → Nat → Int64) : Option Value → xG → Prop := fun v σ' => PoV r L v σ' ∧ Inv INVM r
abbrev R_X11_inTens : Room := { frames := 8, cells := 0, slots := 0, locals := 188 }
abbrev C_X11_inTens (l : Launch) (r : St) (L : Nat → Nat → Int64) (V : XJ) : Prop := XC l yX11_inTens.cls yX11_inTens.name cX11_inTens 5 R_X11_inTens 0 0 fl_X11 kc_X11 LAY.length (xfin none LAY (P_X11_inTens r L)) V
def f_X11_inTens (a1 : Int32) (a2 : Int32) (a3 : Int32) (M : St) : St := (if 8 ≤ a1 then (xb (f_X11_loadAt (32 ||| (a1 &&& 7)) 0 M) fun q3 => (xb (f_X11_loadAt (32 ||| a2) 0 q3.2) fun q6 => (xb (f_X11_tens q3.1 q6.1 a3 q6.2) fun q9 => (xb (f_X11_store 0 q9.1 q9.2) fun q12 => q12)))) else (xb (f_X11_tens ((M 15 a1.toNatClampNeg) &&& 255) ((M 15 a2.toNatClampNeg) &&& 255) a3 M) fun q16 => (xb (f_X11_keepIn a2 0 q16.1 q16.2) fun q19 => q19)))
set_option maxRecDepth 20000 in
set_option maxHeartbeats 4000000 in
theorem k_X11_inTens (l : Launch) (a1 : Int32) (a2 : Int32) (a3 : Int32) (M : St) (L : Nat → Nat → Int64) (hp1 : xrg 0 63 a1) (hp2 : xrg 0 7 a2) (hI : Inv INVM M) : XM l yX11_inTens cX11_inTens 5 none R_X11_inTens LAY [.ref 14, .int a1, .int a2, .int a3] (M, L) (P_X11_inTens (f_X11_inTens a1 a2 a3 M) L) := by
  refine XM.of (by decide) (Nat.le_of_ble_eq_true rfl) LAY_in cl_ok fl_X11_ok kc_X11_ok (fun V C => ?_)
  obtain ⟨r, h⟩ : ∃ r, f_X11_inTens a1 a2 a3 M = r := ⟨_, rfl⟩
  rw [h] at C
  change C_X11_inTens l r L V at C
  unfold f_X11_inTens at h
  show V 0 0 0 [(0, .ref 14), (1, .int a1), (2, .int a2), (3, .int a3)] [] LAY (M, L)
  refine x_run C e_X11_inTens_1 e_X11_inTens_1_k (pc' := 3) (lv' := [(0, .ref 14), (1, .int a1), (2, .int a2), (3, .int a3)]) (st' := [.int 8, .int a1]) (σ' := (M, L)) rfl ⟨trivial, trivial, trivial⟩ ?_
  refine x_icmp_ge C (show decode cX11_inTens 3 = .ok (.if_icmp .ge 35, 3) from by decide +kernel) (tgt := 38) (by decide) (fun c1 => ?_) (fun c1 => ?_)
  · rw [if_pos c1] at h
    have g2 : xrg 8 63 a1 := (x_c_le (x_rgc (x := 8) (k := 8) (by decide)) hp1 c1).2
    refine x_run C e_X11_inTens_2 e_X11_inTens_2_k (pc' := 47) (lv' := [(0, .ref 14), (1, .int a1), (2, .int a2), (3, .int a3)]) (st' := [.int 0, .int (32 ||| (a1 &&& 7)), .ref 14]) (σ' := (M, L)) rfl ⟨trivial, trivial, trivial, trivial, trivial, trivial, trivial, trivial⟩ ?_
    refine x_callV C (k := 14) (ci := 8) (rest := []) (avs := [.int (32 ||| (a1 &&& 7)), .int 0]) (k_X11_loadAt l (32 ||| (a1 &&& 7)) 0 M L hI) yoX11_loadAt ml_X11_190 rfl rfl rfl rfl ⟨Nat.zero_le _, Nat.zero_le _⟩ (show decode cX11_inTens 47 = .ok (.invokevirtual 190, 3) from by decide +kernel) rfl (fun v σ' hPo => ?_)
    obtain ⟨⟨rfl, rfl⟩, g4, hI5⟩ := hPo
    generalize hq3 : f_X11_loadAt (32 ||| (a1 &&& 7)) 0 M = q3 at h g4 hI5 ⊢
    obtain ⟨r3, M3⟩ := q3
    have h := xb_eq h
    try dsimp only at h g4 hI5
    show V 0 0 50 [(0, .ref 14), (1, .int a1), (2, .int a2), (3, .int a3)] [.int r3] LAY (M3, L)
    refine x_run C e_X11_inTens_3 e_X11_inTens_3_k (pc' := 63) (lv' := [(4, .int r3), (0, .ref 14), (1, .int a1), (2, .int a2), (3, .int a3)]) (st' := [.int 0, .int (32 ||| a2), .ref 14, .int r3, .ref 14, .int 0, .ref 14]) (σ' := (M3, L)) rfl ⟨trivial, trivial, trivial, trivial, trivial, trivial, trivial, trivial, trivial, trivial, trivial⟩ ?_
    refine x_callV C (k := 14) (ci := 8) (rest := [.int r3, .ref 14, .int 0, .ref 14]) (avs := [.int (32 ||| a2), .int 0]) (k_X11_loadAt l (32 ||| a2) 0 M3 L hI5) yoX11_loadAt ml_X11_190 rfl rfl rfl rfl ⟨Nat.zero_le _, Nat.zero_le _⟩ (show decode cX11_inTens 63 = .ok (.invokevirtual 190, 3) from by decide +kernel) rfl (fun v σ' hPo => ?_)
    obtain ⟨⟨rfl, rfl⟩, g7, hI8⟩ := hPo
    generalize hq6 : f_X11_loadAt (32 ||| a2) 0 M3 = q6 at h g7 hI8 ⊢
    obtain ⟨r6, M6⟩ := q6
    have h := xb_eq h
    try dsimp only at h g7 hI8
    show V 0 0 66 [(4, .int r3), (0, .ref 14), (1, .int a1), (2, .int a2), (3, .int a3)] [.int r6, .int r3, .ref 14, .int 0, .ref 14] LAY (M6, L)
    refine x_run C e_X11_inTens_4 e_X11_inTens_4_k (pc' := 67) (lv' := [(4, .int r3), (0, .ref 14), (1, .int a1), (2, .int a2), (3, .int a3)]) (st' := [.int a3, .int r6, .int r3, .ref 14, .int 0, .ref 14]) (σ' := (M6, L)) rfl ⟨trivial, trivial⟩ ?_
    refine x_callV C (k := 14) (ci := 8) (rest := [.int 0, .ref 14]) (avs := [.int r3, .int r6, .int a3]) (k_X11_tens l r3 r6 a3 M6 L hI8) yoX11_tens ml_X11_205 rfl rfl rfl rfl ⟨Nat.zero_le _, Nat.zero_le _⟩ (show decode cX11_inTens 67 = .ok (.invokevirtual 205, 3) from by decide +kernel) rfl (fun v σ' hPo => ?_)
    obtain ⟨⟨rfl, rfl⟩, g10, hI11⟩ := hPo
    generalize hq9 : f_X11_tens r3 r6 a3 M6 = q9 at h g10 hI11 ⊢
    obtain ⟨r9, M9⟩ := q9
    have h := xb_eq h
    try dsimp only at h g10 hI11
    show V 0 0 70 [(4, .int r3), (0, .ref 14), (1, .int a1), (2, .int a2), (3, .int a3)] [.int r9, .int 0, .ref 14] LAY (M9, L)
    refine x_callV C (k := 14) (ci := 8) (rest := []) (avs := [.int 0, .int r9]) (k_X11_store l 0 r9 M9 L hI11) yoX11_store ml_X11_193 rfl rfl rfl rfl ⟨Nat.zero_le _, Nat.zero_le _⟩ (show decode cX11_inTens 70 = .ok (.invokevirtual 193, 3) from by decide +kernel) rfl (fun v σ' hPo => ?_)
    obtain ⟨⟨rfl, rfl⟩, hI14⟩ := hPo
    generalize hq12 : f_X11_store 0 r9 M9 = q12 at h hI14 ⊢
    have h := xb_eq h
    show V 0 0 73 [(4, .int r3), (0, .ref 14), (1, .int a1), (2, .int a2), (3, .int a3)] [] LAY (q12, L)
    subst h
    exact x_vret C (show decode cX11_inTens 73 = .ok (.return_, 1) from by decide +kernel) (x_finV ⟨⟨rfl, rfl⟩, hI14⟩) (Nat.le_refl 0) (Nat.le_refl 0)
  · rw [if_neg c1] at h
    have g15 : xrg 0 7 a1 := (x_c_nle (x_rgc (x := 8) (k := 8) (by decide)) hp1 c1).2
    refine x_run C e_X11_inTens_5 e_X11_inTens_5_k (pc' := 31) (lv' := [(0, .ref 14), (1, .int a1), (2, .int a2), (3, .int a3)]) (st' := [.int a3, .int ((M 15 a2.toNatClampNeg) &&& 255), .int ((M 15 a1.toNatClampNeg) &&& 255), .ref 14, .int 0, .int a2, .ref 14]) (σ' := (M, L)) rfl ⟨trivial, trivial, trivial, trivial, trivial, trivial, trivial, (x_rgv g15 (by decide) (by decide)), trivial, trivial, trivial, trivial, trivial, (x_rgv hp2 (by decide) (by decide)), trivial, trivial, trivial, trivial⟩ ?_
    refine x_callV C (k := 14) (ci := 8) (rest := [.int 0, .int a2, .ref 14]) (avs := [.int ((M 15 a1.toNatClampNeg) &&& 255), .int ((M 15 a2.toNatClampNeg) &&& 255), .int a3]) (k_X11_tens l ((M 15 a1.toNatClampNeg) &&& 255) ((M 15 a2.toNatClampNeg) &&& 255) a3 M L hI) yoX11_tens ml_X11_205 rfl rfl rfl rfl ⟨Nat.zero_le _, Nat.zero_le _⟩ (show decode cX11_inTens 31 = .ok (.invokevirtual 205, 3) from by decide +kernel) rfl (fun v σ' hPo => ?_)
    obtain ⟨⟨rfl, rfl⟩, g17, hI18⟩ := hPo
    generalize hq16 : f_X11_tens ((M 15 a1.toNatClampNeg) &&& 255) ((M 15 a2.toNatClampNeg) &&& 255) a3 M = q16 at h g17 hI18 ⊢
    obtain ⟨r16, M16⟩ := q16
    have h := xb_eq h
    try dsimp only at h g17 hI18
    show V 0 0 34 [(0, .ref 14), (1, .int a1), (2, .int a2), (3, .int a3)] [.int r16, .int 0, .int a2, .ref 14] LAY (M16, L)
    refine x_callV C (k := 14) (ci := 8) (rest := []) (avs := [.int a2, .int 0, .int r16]) (k_X11_keepIn l a2 0 r16 M16 L (x_rgw hp2 (lo' := 0) (hi' := 15) (by decide) (by decide)) hI18) yoX11_keepIn ml_X11_225 rfl rfl rfl rfl ⟨Nat.zero_le _, Nat.zero_le _⟩ (show decode cX11_inTens 34 = .ok (.invokevirtual 225, 3) from by decide +kernel) rfl (fun v σ' hPo => ?_)
    obtain ⟨⟨rfl, rfl⟩, hI21⟩ := hPo
    generalize hq19 : f_X11_keepIn a2 0 r16 M16 = q19 at h hI21 ⊢
    have h := xb_eq h
    show V 0 0 37 [(0, .ref 14), (1, .int a1), (2, .int a2), (3, .int a3)] [] LAY (q19, L)
    subst h
    exact x_vret C (show decode cX11_inTens 37 = .ok (.return_, 1) from by decide +kernel) (x_finV ⟨⟨rfl, rfl⟩, hI21⟩) (Nat.le_refl 0) (Nat.le_refl 0)
-- X11_exchange
def e_X11_exchange_1 : List xI := [(0, .aload_n 0, 1, .null), (1, .getfield 7, 3, .null), (4, .iload_n 1, 1, .null), (5, .iaload, 1, .null), (6, .istore_n 3, 1, .null), (7, .aload_n 0, 1, .null), (8, .getfield 7, 3, .null), (11, .iload_n 1, 1, .null), (12, .aload_n 0, 1, .null), (13, .getfield 7, 3, .null), (16, .iload_n 2, 1, .null), (17, .iaload, 1, .null), (18, .iastore, 1, .null), (19, .aload_n 0, 1, .null), (20, .getfield 7, 3, .null), (23, .iload_n 2, 1, .null), (24, .iload_n 3, 1, .null), (25, .iastore, 1, .null)]
theorem e_X11_exchange_1_k : e_X11_exchange_1.all (fun q => xokB cX11_exchange q && xokL q) = true := by decide +kernel
abbrev P_X11_exchange (r : St) (L : Nat → Nat → Int64) : Option Value → xG → Prop := fun v σ' => PoV r L v σ' ∧ Inv INVM r
abbrev R_X11_exchange : Room := { frames := 0, cells := 0, slots := 0, locals := 0 }
abbrev C_X11_exchange (l : Launch) (r : St) (L : Nat → Nat → Int64) (V : XJ) : Prop := XC l yX11_exchange.cls yX11_exchange.name cX11_exchange 4 R_X11_exchange 0 0 fl_X11 kc_X11 LAY.length (xfin none LAY (P_X11_exchange r L)) V
def f_X11_exchange (a1 : Int32) (a2 : Int32) (M : St) : St := (xup (xup M 15 a1.toNatClampNeg (M 15 a2.toNatClampNeg)) 15 a2.toNatClampNeg (M 15 a1.toNatClampNeg))
set_option maxRecDepth 20000 in
set_option maxHeartbeats 4000000 in
theorem k_X11_exchange (l : Launch) (a1 : Int32) (a2 : Int32) (M : St) (L : Nat → Nat → Int64) (hp1 : xrg 0 15 a1) (hp2 : xrg 0 15 a2) (hI : Inv INVM M) : XM l yX11_exchange cX11_exchange 4 none R_X11_exchange LAY [.ref 14, .int a1, .int a2] (M, L) (P_X11_exchange (f_X11_exchange a1 a2 M) L) := by
  refine XM.of (by decide) (Nat.le_of_ble_eq_true rfl) LAY_in cl_ok fl_X11_ok kc_X11_ok (fun V C => ?_)
  obtain ⟨r, h⟩ : ∃ r, f_X11_exchange a1 a2 M = r := ⟨_, rfl⟩
  rw [h] at C
  change C_X11_exchange l r L V at C
  unfold f_X11_exchange at h
  show V 0 0 0 [(0, .ref 14), (1, .int a1), (2, .int a2)] [] LAY (M, L)
  refine x_run C e_X11_exchange_1 e_X11_exchange_1_k (pc' := 26) (lv' := [(3, .int (M 15 a1.toNatClampNeg)), (0, .ref 14), (1, .int a1), (2, .int a2)]) (st' := []) (σ' := ((xup (xup M 15 a1.toNatClampNeg (M 15 a2.toNatClampNeg)) 15 a2.toNatClampNeg (M 15 a1.toNatClampNeg)), L)) rfl ⟨trivial, trivial, trivial, (x_rgv hp1 (by decide) (by decide)), trivial, trivial, trivial, trivial, trivial, trivial, trivial, (x_rgv hp2 (by decide) (by decide)), (x_rgv hp1 (by decide) (by decide)), trivial, trivial, trivial, trivial, (x_rgv hp2 (by decide) (by decide)), trivial⟩ ?_
  have hI1 : Inv INVM (xup (xup M 15 a1.toNatClampNeg (M 15 a2.toNatClampNeg)) 15 a2.toNatClampNeg (M 15 a1.toNatClampNeg)) := ((hI.arr 15 (a1.toNatClampNeg) (M 15 a2.toNatClampNeg) (by decide)).arr 15 (a2.toNatClampNeg) (M 15 a1.toNatClampNeg) (by decide))
  subst h
  exact x_vret C (show decode cX11_exchange 26 = .ok (.return_, 1) from by decide +kernel) (x_finV ⟨⟨rfl, rfl⟩, hI1⟩) (Nat.le_refl 0) (Nat.le_refl 0)
-- X11_logic
def e_X11_logic_1 : List xI := [(0, .iload_n 2, 1, .null), (1, .iconst 3, 1, .int 3)]
theorem e_X11_logic_1_k : e_X11_logic_1.all (fun q => xokB cX11_logic q && xokL q) = true := by decide +kernel
def e_X11_logic_2 : List xI := [(116, .iload 4, 2, .null)]
theorem e_X11_logic_2_k : e_X11_logic_2.all (fun q => xokB cX11_logic q && xokL q) = true := by decide +kernel
def e_X11_logic_3 : List xI := [(121, .iload_n 1, 1, .null), (122, .bipush 16, 2, .int 16)]
theorem e_X11_logic_3_k : e_X11_logic_3.all (fun q => xokB cX11_logic q && xokL q) = true := by decide +kernel
def e_X11_logic_4 : List xI := [(127, .iload_n 2, 1, .null)]
theorem e_X11_logic_4_k : e_X11_logic_4.all (fun q => xokB cX11_logic q && xokL q) = true := by decide +kernel
def e_X11_logic_5 : List xI := [(150, .aload_n 0, 1, .null), (151, .iload_n 2, 1, .null), (152, .iconst 1, 1, .int 1)]
theorem e_X11_logic_5_k : e_X11_logic_5.all (fun q => xokB cX11_logic q && xokL q) = true := by decide +kernel
def e_X11_logic_6 : List xI := [(156, .iload_n 1, 1, .null), (157, .bipush 8, 2, .int 8)]
theorem e_X11_logic_6_k : e_X11_logic_6.all (fun q => xokB cX11_logic q && xokL q) = true := by decide +kernel
def e_X11_logic_7 : List xI := [(162, .iload_n 3, 1, .null)]
theorem e_X11_logic_7_k : e_X11_logic_7.all (fun q => xokB cX11_logic q && xokL q) = true := by decide +kernel
def e_X11_logic_8 : List xI := [(131, .aload_n 0, 1, .null), (132, .iload_n 1, 1, .null), (133, .iload_n 3, 1, .null), (134, .iload 5, 2, .null)]
theorem e_X11_logic_8_k : e_X11_logic_8.all (fun q => xokB cX11_logic q && xokL q) = true := by decide +kernel
def e_X11_logic_9 : List xI := [(143, .iconst 0, 1, .int 0)]
theorem e_X11_logic_9_k : e_X11_logic_9.all (fun q => xokB cX11_logic q && xokL q) = true := by decide +kernel
def e_X11_logic_10 : List xI := [(139, .iconst 1, 1, .int 1)]
theorem e_X11_logic_10_k : e_X11_logic_10.all (fun q => xokB cX11_logic q && xokL q) = true := by decide +kernel
def e_X11_logic_11 : List xI := [(5, .aload_n 0, 1, .null), (6, .iload_n 1, 1, .null), (7, .iconst 1, 1, .int 1)]
theorem e_X11_logic_11_k : e_X11_logic_11.all (fun q => xokB cX11_logic q && xokL q) = true := by decide +kernel
def e_X11_logic_12 : List xI := [(11, .istore 6, 2, .null), (13, .iload 5, 2, .null)]
theorem e_X11_logic_12_k : e_X11_logic_12.all (fun q => xokB cX11_logic q && xokL q) = true := by decide +kernel
def e_X11_logic_13 : List xI := [(69, .aload_n 0, 1, .null), (70, .iload_n 3, 1, .null), (71, .iload 4, 2, .null)]
theorem e_X11_logic_13_k : e_X11_logic_13.all (fun q => xokB cX11_logic q && xokL q) = true := by decide +kernel
def e_X11_logic_14 : List xI := [(86, .aload_n 0, 1, .null), (87, .getfield 7, 3, .null), (90, .iload_n 3, 1, .null), (91, .iaload, 1, .null), (92, .i2l, 1, .null), (93, .ldc2_w 139, 3, .null), (96, .land, 1, .null)]
theorem e_X11_logic_14_k : e_X11_logic_14.all (fun q => xokB cX11_logic q && xokL q) = true := by decide +kernel
def e_X11_logic_15 : List xI := [(76, .aload_n 0, 1, .null), (77, .getfield 7, 3, .null), (80, .iload_n 3, 1, .null), (81, .iaload, 1, .null), (82, .i2l, 1, .null)]
theorem e_X11_logic_15_k : e_X11_logic_15.all (fun q => xokB cX11_logic q && xokL q) = true := by decide +kernel
def e_X11_logic_16 : List xI := [(18, .aload_n 0, 1, .null), (19, .getfield 7, 3, .null), (22, .iload_n 3, 1, .null), (23, .iload 4, 2, .null)]
theorem e_X11_logic_16_k : e_X11_logic_16.all (fun q => xokB cX11_logic q && xokL q) = true := by decide +kernel
def e_X11_logic_17 : List xI := [(42, .aload_n 0, 1, .null), (43, .getfield 7, 3, .null), (46, .iload_n 3, 1, .null), (47, .iaload, 1, .null), (48, .ldc 45, 2, .null), (50, .iand, 1, .null), (51, .iload 6, 2, .null), (53, .imul, 1, .null)]
theorem e_X11_logic_17_k : e_X11_logic_17.all (fun q => xokB cX11_logic q && xokL q) = true := by decide +kernel
def e_X11_logic_18 : List xI := [(28, .aload_n 0, 1, .null), (29, .getfield 7, 3, .null), (32, .iload_n 3, 1, .null), (33, .iaload, 1, .null), (34, .i2s, 1, .null), (35, .iload 6, 2, .null), (37, .i2s, 1, .null), (38, .imul, 1, .null)]
theorem e_X11_logic_18_k : e_X11_logic_18.all (fun q => xokB cX11_logic q && xokL q) = true := by decide +kernel
def e_X11_logic_19 : List xI := [(205, .aload_n 0, 1, .null), (206, .iload_n 1, 1, .null), (207, .iload_n 2, 1, .null)]
theorem e_X11_logic_19_k : e_X11_logic_19.all (fun q => xokB cX11_logic q && xokL q) = true := by decide +kernel
def e_X11_logic_20 : List xI := [(211, .istore 6, 2, .null), (213, .iload 5, 2, .null)]
theorem e_X11_logic_20_k : e_X11_logic_20.all (fun q => xokB cX11_logic q && xokL q) = true := by decide +kernel
def e_X11_logic_21 : List xI := [(230, .iload 6, 2, .null), (232, .aload_n 0, 1, .null), (233, .getfield 7, 3, .null), (236, .iload_n 3, 1, .null), (237, .iaload, 1, .null), (238, .ior, 1, .null)]
theorem e_X11_logic_21_k : e_X11_logic_21.all (fun q => xokB cX11_logic q && xokL q) = true := by decide +kernel
def e_X11_logic_22 : List xI := [(218, .iload 6, 2, .null), (220, .aload_n 0, 1, .null), (221, .getfield 7, 3, .null), (224, .iload_n 3, 1, .null), (225, .iaload, 1, .null), (226, .iand, 1, .null)]
theorem e_X11_logic_22_k : e_X11_logic_22.all (fun q => xokB cX11_logic q && xokL q) = true := by decide +kernel
def e_X11_logic_23 : List xI := [(166, .iload_n 2, 1, .null), (167, .iconst 1, 1, .int 1)]
theorem e_X11_logic_23_k : e_X11_logic_23.all (fun q => xokB cX11_logic q && xokL q) = true := by decide +kernel
def e_X11_logic_24 : List xI := [(178, .iload_n 3, 1, .null)]
theorem e_X11_logic_24_k : e_X11_logic_24.all (fun q => xokB cX11_logic q && xokL q) = true := by decide +kernel
def e_X11_logic_25 : List xI := [(171, .bipush 8, 2, .int 8), (173, .iload_n 3, 1, .null), (174, .iadd, 1, .null)]
theorem e_X11_logic_25_k : e_X11_logic_25.all (fun q => xokB cX11_logic q && xokL q) = true := by decide +kernel
def e_X11_logic_26 : List xI := [(179, .iload_n 2, 1, .null), (180, .iconst 1, 1, .int 1)]
theorem e_X11_logic_26_k : e_X11_logic_26.all (fun q => xokB cX11_logic q && xokL q) = true := by decide +kernel
def e_X11_logic_27 : List xI := [(184, .iload_n 1, 1, .null), (185, .bipush 8, 2, .int 8)]
theorem e_X11_logic_27_k : e_X11_logic_27.all (fun q => xokB cX11_logic q && xokL q) = true := by decide +kernel
def e_X11_logic_28 : List xI := [(190, .iload_n 1, 1, .null)]
theorem e_X11_logic_28_k : e_X11_logic_28.all (fun q => xokB cX11_logic q && xokL q) = true := by decide +kernel
def e_X11_logic_29 : List xI := [(97, .iload 4, 2, .null)]
theorem e_X11_logic_29_k : e_X11_logic_29.all (fun q => xokB cX11_logic q && xokL q) = true := by decide +kernel
def e_X11_logic_30 : List xI := [(108, .iload 6, 2, .null)]
theorem e_X11_logic_30_k : e_X11_logic_30.all (fun q => xokB cX11_logic q && xokL q) = true := by decide +kernel
def e_X11_logic_31 : List xI := [(102, .iload 6, 2, .null), (104, .i2s, 1, .null)]
theorem e_X11_logic_31_k : e_X11_logic_31.all (fun q => xokB cX11_logic q && xokL q) = true := by decide +kernel
def e_X11_logic_32 : List xI := [(54, .iastore, 1, .null), (55, .aload_n 0, 1, .null), (56, .iconst 2, 1, .int 2), (57, .aload_n 0, 1, .null), (58, .getfield 7, 3, .null), (61, .iload_n 3, 1, .null), (62, .iaload, 1, .null)]
theorem e_X11_logic_32_k : e_X11_logic_32.all (fun q => xokB cX11_logic q && xokL q) = true := by decide +kernel
def e_X11_logic_33 : List xI := [(239, .istore 7, 2, .null), (241, .iload 4, 2, .null)]
theorem e_X11_logic_33_k : e_X11_logic_33.all (fun q => xokB cX11_logic q && xokL q) = true := by decide +kernel
def e_X11_logic_34 : List xI := [(256, .aload_n 0, 1, .null), (257, .iload_n 3, 1, .null), (258, .iload_n 2, 1, .null), (259, .iload 7, 2, .null)]
theorem e_X11_logic_34_k : e_X11_logic_34.all (fun q => xokB cX11_logic q && xokL q) = true := by decide +kernel
def e_X11_logic_35 : List xI := [(246, .aload_n 0, 1, .null), (247, .iload_n 2, 1, .null), (248, .iload 7, 2, .null)]
theorem e_X11_logic_35_k : e_X11_logic_35.all (fun q => xokB cX11_logic q && xokL q) = true := by decide +kernel
def e_X11_logic_36 : List xI := [(194, .bipush 8, 2, .int 8), (196, .iload_n 1, 1, .null), (197, .bipush 7, 2, .int 7), (199, .iand, 1, .null), (200, .iadd, 1, .null)]
theorem e_X11_logic_36_k : e_X11_logic_36.all (fun q => xokB cX11_logic q && xokL q) = true := by decide +kernel
def e_X11_logic_37 : List xI := [(110, .iload 4, 2, .null)]
theorem e_X11_logic_37_k : e_X11_logic_37.all (fun q => xokB cX11_logic q && xokL q) = true := by decide +kernel
def e_X11_logic_38 : List xI := [(264, .aload_n 0, 1, .null), (265, .iload_n 2, 1, .null), (266, .iload 7, 2, .null)]
theorem e_X11_logic_38_k : e_X11_logic_38.all (fun q => xokB cX11_logic q && xokL q) = true := by decide +kernel
abbrev P_X11_logic (r : St) (L : Nat → Nat → Int64) : Option Value → xG → Prop := fun v σ' => PoV r L v σ' ∧ Inv INVM r
abbrev R_X11_logic : Room := { frames := 9, cells := 0, slots := 0, locals := 212 }
abbrev C_X11_logic (l : Launch) (r : St) (L : Nat → Nat → Int64) (V : XJ) : Prop := XC l yX11_logic.cls yX11_logic.name cX11_logic 8 R_X11_logic 0 0 fl_X11 kc_X11 LAY.length (xfin none LAY (P_X11_logic r L)) V
def f_X11_logic_264 (x2 : Int32) (x7 : Int32) (M : St) : St := (xb (f_X11_test x2 x7 M) fun q61 => q61)
def f_X11_logic_239 (x2 : Int32) (x3 : Int32) (x4 : Int32) (s0 : Int32) (M : St) : St := (if x4 = 0 then (xb (f_X11_keepIn x3 x2 s0 M) fun q49 => f_X11_logic_264 x2 s0 q49) else (xb (f_X11_store x2 s0 M) fun q52 => f_X11_logic_264 x2 s0 q52))
def f_X11_logic_205 (x1 : Int32) (x2 : Int32) (x3 : Int32) (x4 : Int32) (x5 : Int32) (M : St) : St := (xb (f_X11_loadAt x1 x2 M) fun q26 => (if x5 = 0 then f_X11_logic_239 x2 x3 x4 (q26.1 ||| (q26.2 15 x3.toNatClampNeg)) q26.2 else f_X11_logic_239 x2 x3 x4 (q26.1 &&& (q26.2 15 x3.toNatClampNeg)) q26.2))
def f_X11_logic_201 (s0 : Int32) (s1 : Int32) (M : St) : St := (xb (f_X11_exchange s1 s0 M) fun q55 => q55)
def f_X11_logic_194 (x1 : Int32) (s0 : Int32) (M : St) : St := f_X11_logic_201 (8 + (x1 &&& 7)) s0 M
def f_X11_logic_179 (x1 : Int32) (x2 : Int32) (s0 : Int32) (M : St) : St := (if x2 = 1 then (if 8 ≤ x1 then f_X11_logic_194 x1 s0 M else f_X11_logic_201 x1 s0 M) else f_X11_logic_194 x1 s0 M)
def f_X11_logic_166 (x1 : Int32) (x2 : Int32) (x3 : Int32) (M : St) : St := (if x2 = 1 then f_X11_logic_179 x1 x2 (8 + x3) M else f_X11_logic_179 x1 x2 x3 M)
def f_X11_logic_144 (s0 : Int32) (s1 : Int32) (s2 : Int32) (M : St) : St := (xb (f_X11_inTens s2 s1 s0 M) fun q38 => q38)
def f_X11_logic_110 (x4 : Int32) (s0 : Int32) (s1 : Int64) (s2 : Int32) (M : St) : St := (xb (f_X11_divide s2 s1 s0 x4 M) fun q58 => q58)
def f_X11_logic_97 (x4 : Int32) (x6 : Int32) (s0 : Int64) (s1 : Int32) (M : St) : St := (if x4 = 0 then f_X11_logic_110 x4 x6 s0 s1 M else f_X11_logic_110 x4 x6.toInt16.toInt32 s0 s1 M)
def f_X11_logic_54 (x3 : Int32) (s0 : Int32) (s1 : Int32) (M : St) : St := (xb (f_X11_test 2 ((xup M 15 s1.toNatClampNeg s0) 15 x3.toNatClampNeg) (xup M 15 s1.toNatClampNeg s0)) fun q44 => q44)
def f_X11_logic (a1 : Int32) (a2 : Int32) (a3 : Int32) (a4 : Int32) (a5 : Int32) (M : St) : St := (if a2 = 3 then (xb (f_X11_loadAt a1 1 M) fun q17 => (if a5 = 0 then (if a4 = 0 then f_X11_logic_97 a4 q17.1 ((q17.2 15 a3.toNatClampNeg).toInt64 &&& 4294967295) a3 q17.2 else f_X11_logic_97 a4 q17.1 (q17.2 15 a3.toNatClampNeg).toInt64 a3 q17.2) else (if a4 = 0 then f_X11_logic_54 a3 (((q17.2 15 a3.toNatClampNeg) &&& 65535) * q17.1) a3 q17.2 else f_X11_logic_54 a3 ((q17.2 15 a3.toNatClampNeg).toInt16.toInt32 * q17.1.toInt16.toInt32) a3 q17.2))) else (if a4 = 0 then f_X11_logic_205 a1 a2 a3 a4 a5 M else (if 16 ≤ a1 then f_X11_logic_205 a1 a2 a3 a4 a5 M else (if a2 = 0 then (if a5 = 0 then f_X11_logic_144 1 a3 a1 M else f_X11_logic_144 0 a3 a1 M) else (if a2 = 1 then (if 8 ≤ a1 then f_X11_logic_166 a1 a2 a3 M else f_X11_logic_179 a1 a2 a3 M) else f_X11_logic_166 a1 a2 a3 M)))))
set_option maxRecDepth 20000 in
set_option maxHeartbeats 4000000 in
theorem b_X11_logic_264 {l : Launch} {L : Nat → Nat → Int64} {V : XJ} (r : St) (C : C_X11_logic l r L V) (x2 : Int32) (x7 : Int32) (M : St) (hI : Inv INVM M) (h : f_X11_logic_264 x2 x7 M = r) : V 0 0 264 [(0, .ref 14), (2, .int x2), (7, .int x7)] [] LAY (M, L) := by
  unfold f_X11_logic_264 at h
  refine x_run C e_X11_logic_38 e_X11_logic_38_k (pc' := 268) (lv' := [(0, .ref 14), (2, .int x2), (7, .int x7)]) (st' := [.int x7, .int x2, .ref 14]) (σ' := (M, L)) rfl ⟨trivial, trivial, trivial, trivial⟩ ?_
  refine x_callV C (k := 14) (ci := 8) (rest := []) (avs := [.int x2, .int x7]) (k_X11_test l x2 x7 M L hI) yoX11_test ml_X11_196 rfl rfl rfl rfl ⟨Nat.zero_le _, Nat.zero_le _⟩ (show decode cX11_logic 268 = .ok (.invokevirtual 196, 3) from by decide +kernel) rfl (fun v σ' hPo => ?_)
  obtain ⟨⟨rfl, rfl⟩, hI63⟩ := hPo
  generalize hq61 : f_X11_test x2 x7 M = q61 at h hI63 ⊢
  have h := xb_eq h
  show V 0 0 271 [(0, .ref 14), (2, .int x2), (7, .int x7)] [] LAY (q61, L)
  subst h
  exact x_vret C (show decode cX11_logic 271 = .ok (.return_, 1) from by decide +kernel) (x_finV ⟨⟨rfl, rfl⟩, hI63⟩) (Nat.le_refl 0) (Nat.le_refl 0)
set_option maxRecDepth 20000 in
set_option maxHeartbeats 4000000 in
theorem b_X11_logic_239 {l : Launch} {L : Nat → Nat → Int64} {V : XJ} (r : St) (C : C_X11_logic l r L V) (x2 : Int32) (x3 : Int32) (x4 : Int32) (s0 : Int32) (M : St) (wx3 : xrg 0 7 x3) (hI : Inv INVM M) (h : f_X11_logic_239 x2 x3 x4 s0 M = r) : V 0 0 239 [(0, .ref 14), (2, .int x2), (3, .int x3), (4, .int x4)] [.int s0] LAY (M, L) := by
  unfold f_X11_logic_239 at h
  refine x_run C e_X11_logic_33 e_X11_logic_33_k (pc' := 243) (lv' := [(7, .int s0), (0, .ref 14), (2, .int x2), (3, .int x3), (4, .int x4)]) (st' := [.int x4]) (σ' := (M, L)) rfl ⟨trivial, trivial, trivial⟩ ?_
  refine x_if_eq C (show decode cX11_logic 243 = .ok (.ifCond .eq 13, 3) from by decide +kernel) (tgt := 256) (by decide) (fun c47 => ?_) (fun c47 => ?_)
  · rw [if_pos c47] at h
    have g48 : xrg 0 0 x4 := (x_c_eq (x_rgt x4) (x_rgc (x := 0) (k := 0) (by decide)) c47).1
    refine x_run C e_X11_logic_34 e_X11_logic_34_k (pc' := 261) (lv' := [(7, .int s0), (0, .ref 14), (2, .int x2), (3, .int x3), (4, .int x4)]) (st' := [.int s0, .int x2, .int x3, .ref 14]) (σ' := (M, L)) rfl ⟨trivial, trivial, trivial, trivial, trivial⟩ ?_
    refine x_callV C (k := 14) (ci := 8) (rest := []) (avs := [.int x3, .int x2, .int s0]) (k_X11_keepIn l x3 x2 s0 M L (x_rgw wx3 (lo' := 0) (hi' := 15) (by decide) (by decide)) hI) yoX11_keepIn ml_X11_225 rfl rfl rfl rfl ⟨Nat.zero_le _, Nat.zero_le _⟩ (show decode cX11_logic 261 = .ok (.invokevirtual 225, 3) from by decide +kernel) rfl (fun v σ' hPo => ?_)
    obtain ⟨⟨rfl, rfl⟩, hI51⟩ := hPo
    generalize hq49 : f_X11_keepIn x3 x2 s0 M = q49 at h hI51 ⊢
    have h := xb_eq h
    show V 0 0 264 [(7, .int s0), (0, .ref 14), (2, .int x2), (3, .int x3), (4, .int x4)] [] LAY (q49, L)
    refine x_lv C [1, 2, 0] rfl ?_
    exact b_X11_logic_264 r C x2 s0 q49 hI51 h
  · rw [if_neg c47] at h
    refine x_run C e_X11_logic_35 e_X11_logic_35_k (pc' := 250) (lv' := [(7, .int s0), (0, .ref 14), (2, .int x2), (3, .int x3), (4, .int x4)]) (st' := [.int s0, .int x2, .ref 14]) (σ' := (M, L)) rfl ⟨trivial, trivial, trivial, trivial⟩ ?_
    refine x_callV C (k := 14) (ci := 8) (rest := []) (avs := [.int x2, .int s0]) (k_X11_store l x2 s0 M L hI) yoX11_store ml_X11_193 rfl rfl rfl rfl ⟨Nat.zero_le _, Nat.zero_le _⟩ (show decode cX11_logic 250 = .ok (.invokevirtual 193, 3) from by decide +kernel) rfl (fun v σ' hPo => ?_)
    obtain ⟨⟨rfl, rfl⟩, hI54⟩ := hPo
    generalize hq52 : f_X11_store x2 s0 M = q52 at h hI54 ⊢
    have h := xb_eq h
    show V 0 0 253 [(7, .int s0), (0, .ref 14), (2, .int x2), (3, .int x3), (4, .int x4)] [] LAY (q52, L)
    refine x_goto C (show decode cX11_logic 253 = .ok (.goto 11, 3) from by decide +kernel) (tgt := 264) (by decide) ?_
    refine x_lv C [1, 2, 0] rfl ?_
    exact b_X11_logic_264 r C x2 s0 q52 hI54 h
set_option maxRecDepth 20000 in
set_option maxHeartbeats 4000000 in
theorem b_X11_logic_205 {l : Launch} {L : Nat → Nat → Int64} {V : XJ} (r : St) (C : C_X11_logic l r L V) (x1 : Int32) (x2 : Int32) (x3 : Int32) (x4 : Int32) (x5 : Int32) (M : St) (wx1 : xrg 0 63 x1) (wx3 : xrg 0 7 x3) (hI : Inv INVM M) (h : f_X11_logic_205 x1 x2 x3 x4 x5 M = r) : V 0 0 205 [(0, .ref 14), (1, .int x1), (2, .int x2), (3, .int x3), (4, .int x4), (5, .int x5)] [] LAY (M, L) := by
  unfold f_X11_logic_205 at h
  refine x_run C e_X11_logic_19 e_X11_logic_19_k (pc' := 208) (lv' := [(0, .ref 14), (1, .int x1), (2, .int x2), (3, .int x3), (4, .int x4), (5, .int x5)]) (st' := [.int x2, .int x1, .ref 14]) (σ' := (M, L)) rfl ⟨trivial, trivial, trivial, trivial⟩ ?_
  refine x_callV C (k := 14) (ci := 8) (rest := []) (avs := [.int x1, .int x2]) (k_X11_loadAt l x1 x2 M L hI) yoX11_loadAt ml_X11_190 rfl rfl rfl rfl ⟨Nat.zero_le _, Nat.zero_le _⟩ (show decode cX11_logic 208 = .ok (.invokevirtual 190, 3) from by decide +kernel) rfl (fun v σ' hPo => ?_)
  obtain ⟨⟨rfl, rfl⟩, g27, hI28⟩ := hPo
  generalize hq26 : f_X11_loadAt x1 x2 M = q26 at h g27 hI28 ⊢
  obtain ⟨r26, M26⟩ := q26
  have h := xb_eq h
  try dsimp only at h g27 hI28
  show V 0 0 211 [(0, .ref 14), (1, .int x1), (2, .int x2), (3, .int x3), (4, .int x4), (5, .int x5)] [.int r26] LAY (M26, L)
  refine x_run C e_X11_logic_20 e_X11_logic_20_k (pc' := 215) (lv' := [(6, .int r26), (0, .ref 14), (1, .int x1), (2, .int x2), (3, .int x3), (4, .int x4), (5, .int x5)]) (st' := [.int x5]) (σ' := (M26, L)) rfl ⟨trivial, trivial, trivial⟩ ?_
  refine x_if_eq C (show decode cX11_logic 215 = .ok (.ifCond .eq 15, 3) from by decide +kernel) (tgt := 230) (by decide) (fun c29 => ?_) (fun c29 => ?_)
  · rw [if_pos c29] at h
    have g30 : xrg 0 0 x5 := (x_c_eq (x_rgt x5) (x_rgc (x := 0) (k := 0) (by decide)) c29).1
    refine x_run C e_X11_logic_21 e_X11_logic_21_k (pc' := 239) (lv' := [(6, .int r26), (0, .ref 14), (1, .int x1), (2, .int x2), (3, .int x3), (4, .int x4), (5, .int x5)]) (st' := [.int (r26 ||| (M26 15 x3.toNatClampNeg))]) (σ' := (M26, L)) rfl ⟨trivial, trivial, trivial, trivial, (x_rgv wx3 (by decide) (by decide)), trivial, trivial⟩ ?_
    refine x_lv C [1, 3, 4, 5] rfl ?_
    exact b_X11_logic_239 r C x2 x3 x4 (r26 ||| (M26 15 x3.toNatClampNeg)) M26 wx3 hI28 h
  · rw [if_neg c29] at h
    refine x_run C e_X11_logic_22 e_X11_logic_22_k (pc' := 227) (lv' := [(6, .int r26), (0, .ref 14), (1, .int x1), (2, .int x2), (3, .int x3), (4, .int x4), (5, .int x5)]) (st' := [.int (r26 &&& (M26 15 x3.toNatClampNeg))]) (σ' := (M26, L)) rfl ⟨trivial, trivial, trivial, trivial, (x_rgv wx3 (by decide) (by decide)), trivial, trivial⟩ ?_
    refine x_goto C (show decode cX11_logic 227 = .ok (.goto 12, 3) from by decide +kernel) (tgt := 239) (by decide) ?_
    refine x_lv C [1, 3, 4, 5] rfl ?_
    exact b_X11_logic_239 r C x2 x3 x4 (r26 &&& (M26 15 x3.toNatClampNeg)) M26 wx3 hI28 h
set_option maxRecDepth 20000 in
set_option maxHeartbeats 4000000 in
theorem b_X11_logic_201 {l : Launch} {L : Nat → Nat → Int64} {V : XJ} (r : St) (C : C_X11_logic l r L V) (s0 : Int32) (s1 : Int32) (M : St) (ws0 : xrg 0 15 s0) (ws1 : xrg 0 15 s1) (hI : Inv INVM M) (h : f_X11_logic_201 s0 s1 M = r) : V 0 0 201 [] [.int s0, .int s1, .ref 14] LAY (M, L) := by
  unfold f_X11_logic_201 at h
  refine x_callV C (k := 14) (ci := 8) (rest := []) (avs := [.int s1, .int s0]) (k_X11_exchange l s1 s0 M L ws1 ws0 hI) yoX11_exchange ml_X11_248 rfl rfl rfl rfl ⟨Nat.zero_le _, Nat.zero_le _⟩ (show decode cX11_logic 201 = .ok (.invokevirtual 248, 3) from by decide +kernel) rfl (fun v σ' hPo => ?_)
  obtain ⟨⟨rfl, rfl⟩, hI57⟩ := hPo
  generalize hq55 : f_X11_exchange s1 s0 M = q55 at h hI57 ⊢
  have h := xb_eq h
  show V 0 0 204 [] [] LAY (q55, L)
  subst h
  exact x_vret C (show decode cX11_logic 204 = .ok (.return_, 1) from by decide +kernel) (x_finV ⟨⟨rfl, rfl⟩, hI57⟩) (Nat.le_refl 0) (Nat.le_refl 0)
set_option maxRecDepth 20000 in
set_option maxHeartbeats 4000000 in
theorem b_X11_logic_194 {l : Launch} {L : Nat → Nat → Int64} {V : XJ} (r : St) (C : C_X11_logic l r L V) (x1 : Int32) (s0 : Int32) (M : St) (wx1 : xrg 0 15 x1) (ws0 : xrg 0 15 s0) (hI : Inv INVM M) (h : f_X11_logic_194 x1 s0 M = r) : V 0 0 194 [(1, .int x1)] [.int s0, .ref 14] LAY (M, L) := by
  unfold f_X11_logic_194 at h
  refine x_run C e_X11_logic_36 e_X11_logic_36_k (pc' := 201) (lv' := [(1, .int x1)]) (st' := [.int (8 + (x1 &&& 7)), .int s0, .ref 14]) (σ' := (M, L)) rfl ⟨trivial, trivial, trivial, trivial, trivial, trivial⟩ ?_
  refine x_lv C [] rfl ?_
  exact b_X11_logic_201 r C (8 + (x1 &&& 7)) s0 M (x_rgw (x_rg_add (x_rgc (x := 8) (k := 8) (by decide)) (x_rg_and (x := x1) (m := 7) (k := 7) (by decide) (by decide)) (by decide) (by decide)) (lo' := 0) (hi' := 15) (by decide) (by decide)) ws0 hI h
set_option maxRecDepth 20000 in
set_option maxHeartbeats 4000000 in
theorem b_X11_logic_179 {l : Launch} {L : Nat → Nat → Int64} {V : XJ} (r : St) (C : C_X11_logic l r L V) (x1 : Int32) (x2 : Int32) (s0 : Int32) (M : St) (wx1 : xrg 0 15 x1) (ws0 : xrg 0 15 s0) (hI : Inv INVM M) (h : f_X11_logic_179 x1 x2 s0 M = r) : V 0 0 179 [(1, .int x1), (2, .int x2)] [.int s0, .ref 14] LAY (M, L) := by
  unfold f_X11_logic_179 at h
  refine x_run C e_X11_logic_26 e_X11_logic_26_k (pc' := 181) (lv' := [(1, .int x1), (2, .int x2)]) (st' := [.int 1, .int x2, .int s0, .ref 14]) (σ' := (M, L)) rfl ⟨trivial, trivial, trivial⟩ ?_
  refine x_icmp_ne C (show decode cX11_logic 181 = .ok (.if_icmp .ne 13, 3) from by decide +kernel) (tgt := 194) (by decide) (fun c33 => ?_) (fun c33 => ?_)
  · rw [if_neg c33] at h
    refine x_lv C [0] rfl ?_
    exact b_X11_logic_194 r C x1 s0 M wx1 ws0 hI h
  · rw [if_pos c33] at h
    have g34 : xrg 1 1 x2 := (x_c_eq (x_rgt x2) (x_rgc (x := 1) (k := 1) (by decide)) c33).1
    refine x_run C e_X11_logic_27 e_X11_logic_27_k (pc' := 187) (lv' := [(1, .int x1), (2, .int x2)]) (st' := [.int 8, .int x1, .int s0, .ref 14]) (σ' := (M, L)) rfl ⟨trivial, trivial, trivial⟩ ?_
    refine x_icmp_ge C (show decode cX11_logic 187 = .ok (.if_icmp .ge 7, 3) from by decide +kernel) (tgt := 194) (by decide) (fun c35 => ?_) (fun c35 => ?_)
    · rw [if_pos c35] at h
      have g36 : xrg 8 15 x1 := (x_c_le (x_rgc (x := 8) (k := 8) (by decide)) wx1 c35).2
      refine x_lv C [0] rfl ?_
      exact b_X11_logic_194 r C x1 s0 M (x_rgw g36 (lo' := 0) (hi' := 15) (by decide) (by decide)) ws0 hI h
    · rw [if_neg c35] at h
      have g37 : xrg 0 7 x1 := (x_c_nle (x_rgc (x := 8) (k := 8) (by decide)) wx1 c35).2
      refine x_run C e_X11_logic_28 e_X11_logic_28_k (pc' := 191) (lv' := [(1, .int x1), (2, .int x2)]) (st' := [.int x1, .int s0, .ref 14]) (σ' := (M, L)) rfl ⟨trivial, trivial⟩ ?_
      refine x_goto C (show decode cX11_logic 191 = .ok (.goto 10, 3) from by decide +kernel) (tgt := 201) (by decide) ?_
      refine x_lv C [] rfl ?_
      exact b_X11_logic_201 r C x1 s0 M (x_rgw g37 (lo' := 0) (hi' := 15) (by decide) (by decide)) ws0 hI h
set_option maxRecDepth 20000 in
set_option maxHeartbeats 4000000 in
theorem b_X11_logic_166 {l : Launch} {L : Nat → Nat → Int64} {V : XJ} (r : St) (C : C_X11_logic l r L V) (x1 : Int32) (x2 : Int32) (x3 : Int32) (M : St) (wx1 : xrg 0 15 x1) (wx3 : xrg 0 7 x3) (hI : Inv INVM M) (h : f_X11_logic_166 x1 x2 x3 M = r) : V 0 0 166 [(1, .int x1), (2, .int x2), (3, .int x3)] [.ref 14] LAY (M, L) := by
  unfold f_X11_logic_166 at h
  refine x_run C e_X11_logic_23 e_X11_logic_23_k (pc' := 168) (lv' := [(1, .int x1), (2, .int x2), (3, .int x3)]) (st' := [.int 1, .int x2, .ref 14]) (σ' := (M, L)) rfl ⟨trivial, trivial, trivial⟩ ?_
  refine x_icmp_ne C (show decode cX11_logic 168 = .ok (.if_icmp .ne 10, 3) from by decide +kernel) (tgt := 178) (by decide) (fun c31 => ?_) (fun c31 => ?_)
  · rw [if_neg c31] at h
    refine x_run C e_X11_logic_24 e_X11_logic_24_k (pc' := 179) (lv' := [(1, .int x1), (2, .int x2), (3, .int x3)]) (st' := [.int x3, .ref 14]) (σ' := (M, L)) rfl ⟨trivial, trivial⟩ ?_
    refine x_lv C [0, 1] rfl ?_
    exact b_X11_logic_179 r C x1 x2 x3 M wx1 (x_rgw wx3 (lo' := 0) (hi' := 15) (by decide) (by decide)) hI h
  · rw [if_pos c31] at h
    have g32 : xrg 1 1 x2 := (x_c_eq (x_rgt x2) (x_rgc (x := 1) (k := 1) (by decide)) c31).1
    refine x_run C e_X11_logic_25 e_X11_logic_25_k (pc' := 175) (lv' := [(1, .int x1), (2, .int x2), (3, .int x3)]) (st' := [.int (8 + x3), .ref 14]) (σ' := (M, L)) rfl ⟨trivial, trivial, trivial, trivial⟩ ?_
    refine x_goto C (show decode cX11_logic 175 = .ok (.goto 4, 3) from by decide +kernel) (tgt := 179) (by decide) ?_
    refine x_lv C [0, 1] rfl ?_
    exact b_X11_logic_179 r C x1 x2 (8 + x3) M wx1 (x_rgw (x_rg_add (x_rgc (x := 8) (k := 8) (by decide)) wx3 (by decide) (by decide)) (lo' := 0) (hi' := 15) (by decide) (by decide)) hI h
set_option maxRecDepth 20000 in
set_option maxHeartbeats 4000000 in
theorem b_X11_logic_144 {l : Launch} {L : Nat → Nat → Int64} {V : XJ} (r : St) (C : C_X11_logic l r L V) (s0 : Int32) (s1 : Int32) (s2 : Int32) (M : St) (ws0 : xrg 0 1 s0) (ws1 : xrg 0 7 s1) (ws2 : xrg 0 15 s2) (hI : Inv INVM M) (h : f_X11_logic_144 s0 s1 s2 M = r) : V 0 0 144 [] [.int s0, .int s1, .int s2, .ref 14] LAY (M, L) := by
  unfold f_X11_logic_144 at h
  refine x_callV C (k := 14) (ci := 8) (rest := []) (avs := [.int s2, .int s1, .int s0]) (k_X11_inTens l s2 s1 s0 M L (x_rgw ws2 (lo' := 0) (hi' := 63) (by decide) (by decide)) ws1 hI) yoX11_inTens ml_X11_244 rfl rfl rfl rfl ⟨Nat.zero_le _, Nat.zero_le _⟩ (show decode cX11_logic 144 = .ok (.invokevirtual 244, 3) from by decide +kernel) rfl (fun v σ' hPo => ?_)
  obtain ⟨⟨rfl, rfl⟩, hI40⟩ := hPo
  generalize hq38 : f_X11_inTens s2 s1 s0 M = q38 at h hI40 ⊢
  have h := xb_eq h
  show V 0 0 147 [] [] LAY (q38, L)
  refine x_goto C (show decode cX11_logic 147 = .ok (.goto 57, 3) from by decide +kernel) (tgt := 204) (by decide) ?_
  subst h
  exact x_vret C (show decode cX11_logic 204 = .ok (.return_, 1) from by decide +kernel) (x_finV ⟨⟨rfl, rfl⟩, hI40⟩) (Nat.le_refl 0) (Nat.le_refl 0)
set_option maxRecDepth 20000 in
set_option maxHeartbeats 4000000 in
theorem b_X11_logic_110 {l : Launch} {L : Nat → Nat → Int64} {V : XJ} (r : St) (C : C_X11_logic l r L V) (x4 : Int32) (s0 : Int32) (s1 : Int64) (s2 : Int32) (M : St) (ws2 : xrg 0 7 s2) (hI : Inv INVM M) (h : f_X11_logic_110 x4 s0 s1 s2 M = r) : V 0 0 110 [(4, .int x4)] [.int s0, .long s1, .int s2, .ref 14] LAY (M, L) := by
  unfold f_X11_logic_110 at h
  refine x_run C e_X11_logic_37 e_X11_logic_37_k (pc' := 112) (lv' := [(4, .int x4)]) (st' := [.int x4, .int s0, .long s1, .int s2, .ref 14]) (σ' := (M, L)) rfl ⟨trivial, trivial⟩ ?_
  refine x_callV C (k := 14) (ci := 8) (rest := []) (avs := [.int s2, .long s1, .int s0, .int x4]) (k_X11_divide l s2 s1 s0 x4 M L ws2 hI) yoX11_divide ml_X11_240 rfl rfl rfl rfl ⟨Nat.zero_le _, Nat.zero_le _⟩ (show decode cX11_logic 112 = .ok (.invokevirtual 240, 3) from by decide +kernel) rfl (fun v σ' hPo => ?_)
  obtain ⟨⟨rfl, rfl⟩, hI60⟩ := hPo
  generalize hq58 : f_X11_divide s2 s1 s0 x4 M = q58 at h hI60 ⊢
  have h := xb_eq h
  show V 0 0 115 [(4, .int x4)] [] LAY (q58, L)
  subst h
  exact x_vret C (show decode cX11_logic 115 = .ok (.return_, 1) from by decide +kernel) (x_finV ⟨⟨rfl, rfl⟩, hI60⟩) (Nat.le_refl 0) (Nat.le_refl 0)
set_option maxRecDepth 20000 in
set_option maxHeartbeats 4000000 in
theorem b_X11_logic_97 {l : Launch} {L : Nat → Nat → Int64} {V : XJ} (r : St) (C : C_X11_logic l r L V) (x4 : Int32) (x6 : Int32) (s0 : Int64) (s1 : Int32) (M : St) (ws1 : xrg 0 7 s1) (hI : Inv INVM M) (h : f_X11_logic_97 x4 x6 s0 s1 M = r) : V 0 0 97 [(4, .int x4), (6, .int x6)] [.long s0, .int s1, .ref 14] LAY (M, L) := by
  unfold f_X11_logic_97 at h
  refine x_run C e_X11_logic_29 e_X11_logic_29_k (pc' := 99) (lv' := [(4, .int x4), (6, .int x6)]) (st' := [.int x4, .long s0, .int s1, .ref 14]) (σ' := (M, L)) rfl ⟨trivial, trivial⟩ ?_
  refine x_if_eq C (show decode cX11_logic 99 = .ok (.ifCond .eq 9, 3) from by decide +kernel) (tgt := 108) (by decide) (fun c41 => ?_) (fun c41 => ?_)
  · rw [if_pos c41] at h
    have g42 : xrg 0 0 x4 := (x_c_eq (x_rgt x4) (x_rgc (x := 0) (k := 0) (by decide)) c41).1
    refine x_run C e_X11_logic_30 e_X11_logic_30_k (pc' := 110) (lv' := [(4, .int x4), (6, .int x6)]) (st' := [.int x6, .long s0, .int s1, .ref 14]) (σ' := (M, L)) rfl ⟨trivial, trivial⟩ ?_
    refine x_lv C [0] rfl ?_
    exact b_X11_logic_110 r C x4 x6 s0 s1 M ws1 hI h
  · rw [if_neg c41] at h
    refine x_run C e_X11_logic_31 e_X11_logic_31_k (pc' := 105) (lv' := [(4, .int x4), (6, .int x6)]) (st' := [.int x6.toInt16.toInt32, .long s0, .int s1, .ref 14]) (σ' := (M, L)) rfl ⟨trivial, trivial, trivial⟩ ?_
    refine x_goto C (show decode cX11_logic 105 = .ok (.goto 5, 3) from by decide +kernel) (tgt := 110) (by decide) ?_
    refine x_lv C [0] rfl ?_
    exact b_X11_logic_110 r C x4 x6.toInt16.toInt32 s0 s1 M ws1 hI h
set_option maxRecDepth 20000 in
set_option maxHeartbeats 4000000 in
theorem b_X11_logic_54 {l : Launch} {L : Nat → Nat → Int64} {V : XJ} (r : St) (C : C_X11_logic l r L V) (x3 : Int32) (s0 : Int32) (s1 : Int32) (M : St) (wx3 : xrg 0 7 x3) (ws1 : xrg 0 7 s1) (hI : Inv INVM M) (h : f_X11_logic_54 x3 s0 s1 M = r) : V 0 0 54 [(0, .ref 14), (3, .int x3)] [.int s0, .int s1, .ref 15] LAY (M, L) := by
  unfold f_X11_logic_54 at h
  refine x_run C e_X11_logic_32 e_X11_logic_32_k (pc' := 63) (lv' := [(0, .ref 14), (3, .int x3)]) (st' := [.int ((xup M 15 s1.toNatClampNeg s0) 15 x3.toNatClampNeg), .int 2, .ref 14]) (σ' := ((xup M 15 s1.toNatClampNeg s0), L)) rfl ⟨(x_rgv ws1 (by decide) (by decide)), trivial, trivial, trivial, trivial, trivial, (x_rgv wx3 (by decide) (by decide)), trivial⟩ ?_
  have hI43 : Inv INVM (xup M 15 s1.toNatClampNeg s0) := (hI.arr 15 (s1.toNatClampNeg) s0 (by decide))
  refine x_callV C (k := 14) (ci := 8) (rest := []) (avs := [.int 2, .int ((xup M 15 s1.toNatClampNeg s0) 15 x3.toNatClampNeg)]) (k_X11_test l 2 ((xup M 15 s1.toNatClampNeg s0) 15 x3.toNatClampNeg) (xup M 15 s1.toNatClampNeg s0) L hI43) yoX11_test ml_X11_196 rfl rfl rfl rfl ⟨Nat.zero_le _, Nat.zero_le _⟩ (show decode cX11_logic 63 = .ok (.invokevirtual 196, 3) from by decide +kernel) rfl (fun v σ' hPo => ?_)
  obtain ⟨⟨rfl, rfl⟩, hI46⟩ := hPo
  generalize hq44 : f_X11_test 2 ((xup M 15 s1.toNatClampNeg s0) 15 x3.toNatClampNeg) (xup M 15 s1.toNatClampNeg s0) = q44 at h hI46 ⊢
  have h := xb_eq h
  show V 0 0 66 [(0, .ref 14), (3, .int x3)] [] LAY (q44, L)
  refine x_goto C (show decode cX11_logic 66 = .ok (.goto 49, 3) from by decide +kernel) (tgt := 115) (by decide) ?_
  subst h
  exact x_vret C (show decode cX11_logic 115 = .ok (.return_, 1) from by decide +kernel) (x_finV ⟨⟨rfl, rfl⟩, hI46⟩) (Nat.le_refl 0) (Nat.le_refl 0)
set_option maxRecDepth 20000 in
set_option maxHeartbeats 4000000 in
theorem k_X11_logic (l : Launch) (a1 : Int32) (a2 : Int32) (a3 : Int32) (a4 : Int32) (a5 : Int32) (M : St) (L : Nat → Nat → Int64) (hp1 : xrg 0 63 a1) (hp3 : xrg 0 7 a3) (hI : Inv INVM M) : XM l yX11_logic cX11_logic 8 none R_X11_logic LAY [.ref 14, .int a1, .int a2, .int a3, .int a4, .int a5] (M, L) (P_X11_logic (f_X11_logic a1 a2 a3 a4 a5 M) L) := by
  refine XM.of (by decide) (Nat.le_of_ble_eq_true rfl) LAY_in cl_ok fl_X11_ok kc_X11_ok (fun V C => ?_)
  obtain ⟨r, h⟩ : ∃ r, f_X11_logic a1 a2 a3 a4 a5 M = r := ⟨_, rfl⟩
  rw [h] at C
  change C_X11_logic l r L V at C
  unfold f_X11_logic at h
  show V 0 0 0 [(0, .ref 14), (1, .int a1), (2, .int a2), (3, .int a3), (4, .int a4), (5, .int a5)] [] LAY (M, L)
  refine x_run C e_X11_logic_1 e_X11_logic_1_k (pc' := 2) (lv' := [(0, .ref 14), (1, .int a1), (2, .int a2), (3, .int a3), (4, .int a4), (5, .int a5)]) (st' := [.int 3, .int a2]) (σ' := (M, L)) rfl ⟨trivial, trivial, trivial⟩ ?_
  refine x_icmp_ne C (show decode cX11_logic 2 = .ok (.if_icmp .ne 114, 3) from by decide +kernel) (tgt := 116) (by decide) (fun c1 => ?_) (fun c1 => ?_)
  · rw [if_neg c1] at h
    refine x_run C e_X11_logic_2 e_X11_logic_2_k (pc' := 118) (lv' := [(0, .ref 14), (1, .int a1), (2, .int a2), (3, .int a3), (4, .int a4), (5, .int a5)]) (st' := [.int a4]) (σ' := (M, L)) rfl ⟨trivial, trivial⟩ ?_
    refine x_if_eq C (show decode cX11_logic 118 = .ok (.ifCond .eq 87, 3) from by decide +kernel) (tgt := 205) (by decide) (fun c2 => ?_) (fun c2 => ?_)
    · rw [if_pos c2] at h
      have g3 : xrg 0 0 a4 := (x_c_eq (x_rgt a4) (x_rgc (x := 0) (k := 0) (by decide)) c2).1
      exact b_X11_logic_205 r C a1 a2 a3 a4 a5 M hp1 hp3 hI h
    · rw [if_neg c2] at h
      refine x_run C e_X11_logic_3 e_X11_logic_3_k (pc' := 124) (lv' := [(0, .ref 14), (1, .int a1), (2, .int a2), (3, .int a3), (4, .int a4), (5, .int a5)]) (st' := [.int 16, .int a1]) (σ' := (M, L)) rfl ⟨trivial, trivial, trivial⟩ ?_
      refine x_icmp_ge C (show decode cX11_logic 124 = .ok (.if_icmp .ge 81, 3) from by decide +kernel) (tgt := 205) (by decide) (fun c4 => ?_) (fun c4 => ?_)
      · rw [if_pos c4] at h
        have g5 : xrg 16 63 a1 := (x_c_le (x_rgc (x := 16) (k := 16) (by decide)) hp1 c4).2
        exact b_X11_logic_205 r C a1 a2 a3 a4 a5 M (x_rgw g5 (lo' := 0) (hi' := 63) (by decide) (by decide)) hp3 hI h
      · rw [if_neg c4] at h
        have g6 : xrg 0 15 a1 := (x_c_nle (x_rgc (x := 16) (k := 16) (by decide)) hp1 c4).2
        refine x_run C e_X11_logic_4 e_X11_logic_4_k (pc' := 128) (lv' := [(0, .ref 14), (1, .int a1), (2, .int a2), (3, .int a3), (4, .int a4), (5, .int a5)]) (st' := [.int a2]) (σ' := (M, L)) rfl ⟨trivial, trivial⟩ ?_
        refine x_if_ne C (show decode cX11_logic 128 = .ok (.ifCond .ne 22, 3) from by decide +kernel) (tgt := 150) (by decide) (fun c7 => ?_) (fun c7 => ?_)
        · rw [if_neg c7] at h
          refine x_run C e_X11_logic_5 e_X11_logic_5_k (pc' := 153) (lv' := [(0, .ref 14), (1, .int a1), (2, .int a2), (3, .int a3), (4, .int a4), (5, .int a5)]) (st' := [.int 1, .int a2, .ref 14]) (σ' := (M, L)) rfl ⟨trivial, trivial, trivial, trivial⟩ ?_
          refine x_icmp_ne C (show decode cX11_logic 153 = .ok (.if_icmp .ne 13, 3) from by decide +kernel) (tgt := 166) (by decide) (fun c8 => ?_) (fun c8 => ?_)
          · rw [if_neg c8] at h
            refine x_lv C [1, 2, 3] rfl ?_
            exact b_X11_logic_166 r C a1 a2 a3 M g6 hp3 hI h
          · rw [if_pos c8] at h
            have g9 : xrg 1 1 a2 := (x_c_eq (x_rgt a2) (x_rgc (x := 1) (k := 1) (by decide)) c8).1
            refine x_run C e_X11_logic_6 e_X11_logic_6_k (pc' := 159) (lv' := [(0, .ref 14), (1, .int a1), (2, .int a2), (3, .int a3), (4, .int a4), (5, .int a5)]) (st' := [.int 8, .int a1, .ref 14]) (σ' := (M, L)) rfl ⟨trivial, trivial, trivial⟩ ?_
            refine x_icmp_ge C (show decode cX11_logic 159 = .ok (.if_icmp .ge 7, 3) from by decide +kernel) (tgt := 166) (by decide) (fun c10 => ?_) (fun c10 => ?_)
            · rw [if_pos c10] at h
              have g11 : xrg 8 15 a1 := (x_c_le (x_rgc (x := 8) (k := 8) (by decide)) g6 c10).2
              refine x_lv C [1, 2, 3] rfl ?_
              exact b_X11_logic_166 r C a1 a2 a3 M (x_rgw g11 (lo' := 0) (hi' := 15) (by decide) (by decide)) hp3 hI h
            · rw [if_neg c10] at h
              have g12 : xrg 0 7 a1 := (x_c_nle (x_rgc (x := 8) (k := 8) (by decide)) g6 c10).2
              refine x_run C e_X11_logic_7 e_X11_logic_7_k (pc' := 163) (lv' := [(0, .ref 14), (1, .int a1), (2, .int a2), (3, .int a3), (4, .int a4), (5, .int a5)]) (st' := [.int a3, .ref 14]) (σ' := (M, L)) rfl ⟨trivial, trivial⟩ ?_
              refine x_goto C (show decode cX11_logic 163 = .ok (.goto 16, 3) from by decide +kernel) (tgt := 179) (by decide) ?_
              refine x_lv C [1, 2] rfl ?_
              exact b_X11_logic_179 r C a1 a2 a3 M (x_rgw g12 (lo' := 0) (hi' := 15) (by decide) (by decide)) (x_rgw hp3 (lo' := 0) (hi' := 15) (by decide) (by decide)) hI h
        · rw [if_pos c7] at h
          have g13 : xrg 0 0 a2 := (x_c_eq (x_rgt a2) (x_rgc (x := 0) (k := 0) (by decide)) c7).1
          refine x_run C e_X11_logic_8 e_X11_logic_8_k (pc' := 136) (lv' := [(0, .ref 14), (1, .int a1), (2, .int a2), (3, .int a3), (4, .int a4), (5, .int a5)]) (st' := [.int a5, .int a3, .int a1, .ref 14]) (σ' := (M, L)) rfl ⟨trivial, trivial, trivial, trivial, trivial⟩ ?_
          refine x_if_ne C (show decode cX11_logic 136 = .ok (.ifCond .ne 7, 3) from by decide +kernel) (tgt := 143) (by decide) (fun c14 => ?_) (fun c14 => ?_)
          · rw [if_neg c14] at h
            refine x_run C e_X11_logic_9 e_X11_logic_9_k (pc' := 144) (lv' := [(0, .ref 14), (1, .int a1), (2, .int a2), (3, .int a3), (4, .int a4), (5, .int a5)]) (st' := [.int 0, .int a3, .int a1, .ref 14]) (σ' := (M, L)) rfl ⟨trivial, trivial⟩ ?_
            refine x_lv C [] rfl ?_
            exact b_X11_logic_144 r C 0 a3 a1 M (x_rgw (x_rgc (x := 0) (k := 0) (by decide)) (lo' := 0) (hi' := 1) (by decide) (by decide)) hp3 g6 hI h
          · rw [if_pos c14] at h
            have g15 : xrg 0 0 a5 := (x_c_eq (x_rgt a5) (x_rgc (x := 0) (k := 0) (by decide)) c14).1
            refine x_run C e_X11_logic_10 e_X11_logic_10_k (pc' := 140) (lv' := [(0, .ref 14), (1, .int a1), (2, .int a2), (3, .int a3), (4, .int a4), (5, .int a5)]) (st' := [.int 1, .int a3, .int a1, .ref 14]) (σ' := (M, L)) rfl ⟨trivial, trivial⟩ ?_
            refine x_goto C (show decode cX11_logic 140 = .ok (.goto 4, 3) from by decide +kernel) (tgt := 144) (by decide) ?_
            refine x_lv C [] rfl ?_
            exact b_X11_logic_144 r C 1 a3 a1 M (x_rgw (x_rgc (x := 1) (k := 1) (by decide)) (lo' := 0) (hi' := 1) (by decide) (by decide)) hp3 g6 hI h
  · rw [if_pos c1] at h
    have g16 : xrg 3 3 a2 := (x_c_eq (x_rgt a2) (x_rgc (x := 3) (k := 3) (by decide)) c1).1
    refine x_run C e_X11_logic_11 e_X11_logic_11_k (pc' := 8) (lv' := [(0, .ref 14), (1, .int a1), (2, .int a2), (3, .int a3), (4, .int a4), (5, .int a5)]) (st' := [.int 1, .int a1, .ref 14]) (σ' := (M, L)) rfl ⟨trivial, trivial, trivial, trivial⟩ ?_
    refine x_callV C (k := 14) (ci := 8) (rest := []) (avs := [.int a1, .int 1]) (k_X11_loadAt l a1 1 M L hI) yoX11_loadAt ml_X11_190 rfl rfl rfl rfl ⟨Nat.zero_le _, Nat.zero_le _⟩ (show decode cX11_logic 8 = .ok (.invokevirtual 190, 3) from by decide +kernel) rfl (fun v σ' hPo => ?_)
    obtain ⟨⟨rfl, rfl⟩, g18, hI19⟩ := hPo
    generalize hq17 : f_X11_loadAt a1 1 M = q17 at h g18 hI19 ⊢
    obtain ⟨r17, M17⟩ := q17
    have h := xb_eq h
    try dsimp only at h g18 hI19
    show V 0 0 11 [(0, .ref 14), (1, .int a1), (2, .int a2), (3, .int a3), (4, .int a4), (5, .int a5)] [.int r17] LAY (M17, L)
    refine x_run C e_X11_logic_12 e_X11_logic_12_k (pc' := 15) (lv' := [(6, .int r17), (0, .ref 14), (1, .int a1), (2, .int a2), (3, .int a3), (4, .int a4), (5, .int a5)]) (st' := [.int a5]) (σ' := (M17, L)) rfl ⟨trivial, trivial, trivial⟩ ?_
    refine x_if_eq C (show decode cX11_logic 15 = .ok (.ifCond .eq 54, 3) from by decide +kernel) (tgt := 69) (by decide) (fun c20 => ?_) (fun c20 => ?_)
    · rw [if_pos c20] at h
      have g21 : xrg 0 0 a5 := (x_c_eq (x_rgt a5) (x_rgc (x := 0) (k := 0) (by decide)) c20).1
      refine x_run C e_X11_logic_13 e_X11_logic_13_k (pc' := 73) (lv' := [(6, .int r17), (0, .ref 14), (1, .int a1), (2, .int a2), (3, .int a3), (4, .int a4), (5, .int a5)]) (st' := [.int a4, .int a3, .ref 14]) (σ' := (M17, L)) rfl ⟨trivial, trivial, trivial, trivial⟩ ?_
      refine x_if_eq C (show decode cX11_logic 73 = .ok (.ifCond .eq 13, 3) from by decide +kernel) (tgt := 86) (by decide) (fun c22 => ?_) (fun c22 => ?_)
      · rw [if_pos c22] at h
        have g23 : xrg 0 0 a4 := (x_c_eq (x_rgt a4) (x_rgc (x := 0) (k := 0) (by decide)) c22).1
        refine x_run C e_X11_logic_14 e_X11_logic_14_k (pc' := 97) (lv' := [(6, .int r17), (0, .ref 14), (1, .int a1), (2, .int a2), (3, .int a3), (4, .int a4), (5, .int a5)]) (st' := [.long ((M17 15 a3.toNatClampNeg).toInt64 &&& 4294967295), .int a3, .ref 14]) (σ' := (M17, L)) rfl ⟨trivial, trivial, trivial, (x_rgv hp3 (by decide) (by decide)), trivial, trivial, trivial, trivial⟩ ?_
        refine x_lv C [5, 0] rfl ?_
        exact b_X11_logic_97 r C a4 r17 ((M17 15 a3.toNatClampNeg).toInt64 &&& 4294967295) a3 M17 hp3 hI19 h
      · rw [if_neg c22] at h
        refine x_run C e_X11_logic_15 e_X11_logic_15_k (pc' := 83) (lv' := [(6, .int r17), (0, .ref 14), (1, .int a1), (2, .int a2), (3, .int a3), (4, .int a4), (5, .int a5)]) (st' := [.long (M17 15 a3.toNatClampNeg).toInt64, .int a3, .ref 14]) (σ' := (M17, L)) rfl ⟨trivial, trivial, trivial, (x_rgv hp3 (by decide) (by decide)), trivial, trivial⟩ ?_
        refine x_goto C (show decode cX11_logic 83 = .ok (.goto 14, 3) from by decide +kernel) (tgt := 97) (by decide) ?_
        refine x_lv C [5, 0] rfl ?_
        exact b_X11_logic_97 r C a4 r17 (M17 15 a3.toNatClampNeg).toInt64 a3 M17 hp3 hI19 h
    · rw [if_neg c20] at h
      refine x_run C e_X11_logic_16 e_X11_logic_16_k (pc' := 25) (lv' := [(6, .int r17), (0, .ref 14), (1, .int a1), (2, .int a2), (3, .int a3), (4, .int a4), (5, .int a5)]) (st' := [.int a4, .int a3, .ref 15]) (σ' := (M17, L)) rfl ⟨trivial, trivial, trivial, trivial, trivial⟩ ?_
      refine x_if_eq C (show decode cX11_logic 25 = .ok (.ifCond .eq 17, 3) from by decide +kernel) (tgt := 42) (by decide) (fun c24 => ?_) (fun c24 => ?_)
      · rw [if_pos c24] at h
        have g25 : xrg 0 0 a4 := (x_c_eq (x_rgt a4) (x_rgc (x := 0) (k := 0) (by decide)) c24).1
        refine x_run C e_X11_logic_17 e_X11_logic_17_k (pc' := 54) (lv' := [(6, .int r17), (0, .ref 14), (1, .int a1), (2, .int a2), (3, .int a3), (4, .int a4), (5, .int a5)]) (st' := [.int (((M17 15 a3.toNatClampNeg) &&& 65535) * r17), .int a3, .ref 15]) (σ' := (M17, L)) rfl ⟨trivial, trivial, trivial, (x_rgv hp3 (by decide) (by decide)), trivial, trivial, trivial, trivial, trivial⟩ ?_
        refine x_lv C [1, 4] rfl ?_
        exact b_X11_logic_54 r C a3 (((M17 15 a3.toNatClampNeg) &&& 65535) * r17) a3 M17 hp3 hp3 hI19 h
      · rw [if_neg c24] at h
        refine x_run C e_X11_logic_18 e_X11_logic_18_k (pc' := 39) (lv' := [(6, .int r17), (0, .ref 14), (1, .int a1), (2, .int a2), (3, .int a3), (4, .int a4), (5, .int a5)]) (st' := [.int ((M17 15 a3.toNatClampNeg).toInt16.toInt32 * r17.toInt16.toInt32), .int a3, .ref 15]) (σ' := (M17, L)) rfl ⟨trivial, trivial, trivial, (x_rgv hp3 (by decide) (by decide)), trivial, trivial, trivial, trivial, trivial⟩ ?_
        refine x_goto C (show decode cX11_logic 39 = .ok (.goto 15, 3) from by decide +kernel) (tgt := 54) (by decide) ?_
        refine x_lv C [1, 4] rfl ?_
        exact b_X11_logic_54 r C a3 ((M17 15 a3.toNatClampNeg).toInt16.toInt32 * r17.toInt16.toInt32) a3 M17 hp3 hp3 hI19 h
-- X11_holds
def e_X11_holds_1 : List xI := [(0, .iload_n 1, 1, .null), (1, .iconst 1, 1, .int 1), (2, .ishr, 1, .null), (3, .istore_n 2, 1, .null), (4, .aload_n 0, 1, .null), (5, .bipush 8, 2, .int 8)]
theorem e_X11_holds_1_k : e_X11_holds_1.all (fun q => xokB cX11_holds q && xokL q) = true := by decide +kernel
def e_X11_holds_2 : List xI := [(10, .aload_n 0, 1, .null), (11, .iconst 2, 1, .int 2)]
theorem e_X11_holds_2_k : e_X11_holds_2.all (fun q => xokB cX11_holds q && xokL q) = true := by decide +kernel
def e_X11_holds_3 : List xI := [(22, .iconst 0, 1, .int 0)]
theorem e_X11_holds_3_k : e_X11_holds_3.all (fun q => xokB cX11_holds q && xokL q) = true := by decide +kernel
def e_X11_holds_4 : List xI := [(18, .iconst 1, 1, .int 1)]
theorem e_X11_holds_4_k : e_X11_holds_4.all (fun q => xokB cX11_holds q && xokL q) = true := by decide +kernel
def e_X11_holds_5 : List xI := [(23, .istore_n 3, 1, .null), (24, .iload_n 2, 1, .null)]
theorem e_X11_holds_5_k : e_X11_holds_5.all (fun q => xokB cX11_holds q && xokL q) = true := by decide +kernel
def e_X11_holds_6 : List xI := [(28, .iload_n 2, 1, .null), (29, .iconst 1, 1, .int 1)]
theorem e_X11_holds_6_k : e_X11_holds_6.all (fun q => xokB cX11_holds q && xokL q) = true := by decide +kernel
def e_X11_holds_7 : List xI := [(33, .aload_n 0, 1, .null), (34, .iconst 1, 1, .int 1)]
theorem e_X11_holds_7_k : e_X11_holds_7.all (fun q => xokB cX11_holds q && xokL q) = true := by decide +kernel
def e_X11_holds_8 : List xI := [(41, .aload_n 0, 1, .null), (42, .iconst 4, 1, .int 4)]
theorem e_X11_holds_8_k : e_X11_holds_8.all (fun q => xokB cX11_holds q && xokL q) = true := by decide +kernel
def e_X11_holds_9 : List xI := [(130, .iconst 1, 1, .int 1)]
theorem e_X11_holds_9_k : e_X11_holds_9.all (fun q => xokB cX11_holds q && xokL q) = true := by decide +kernel
def e_X11_holds_10 : List xI := [(49, .iload_n 2, 1, .null), (50, .iconst 2, 1, .int 2)]
theorem e_X11_holds_10_k : e_X11_holds_10.all (fun q => xokB cX11_holds q && xokL q) = true := by decide +kernel
def e_X11_holds_11 : List xI := [(54, .aload_n 0, 1, .null), (55, .iconst 1, 1, .int 1)]
theorem e_X11_holds_11_k : e_X11_holds_11.all (fun q => xokB cX11_holds q && xokL q) = true := by decide +kernel
def e_X11_holds_12 : List xI := [(135, .istore 4, 2, .null), (137, .iload 4, 2, .null), (139, .iload_n 1, 1, .null), (140, .iconst 2, 1, .int 2), (141, .irem, 1, .null)]
theorem e_X11_holds_12_k : e_X11_holds_12.all (fun q => xokB cX11_holds q && xokL q) = true := by decide +kernel
def e_X11_holds_13 : List xI := [(149, .iconst 0, 1, .int 0)]
theorem e_X11_holds_13_k : e_X11_holds_13.all (fun q => xokB cX11_holds q && xokL q) = true := by decide +kernel
def e_X11_holds_14 : List xI := [(145, .iconst 1, 1, .int 1)]
theorem e_X11_holds_14_k : e_X11_holds_14.all (fun q => xokB cX11_holds q && xokL q) = true := by decide +kernel
def e_X11_holds_15 : List xI := [(62, .iload_n 2, 1, .null), (63, .iconst 3, 1, .int 3)]
theorem e_X11_holds_15_k : e_X11_holds_15.all (fun q => xokB cX11_holds q && xokL q) = true := by decide +kernel
def e_X11_holds_16 : List xI := [(67, .aload_n 0, 1, .null), (68, .iconst 4, 1, .int 4)]
theorem e_X11_holds_16_k : e_X11_holds_16.all (fun q => xokB cX11_holds q && xokL q) = true := by decide +kernel
def e_X11_holds_17 : List xI := [(157, .iconst 0, 1, .int 0)]
theorem e_X11_holds_17_k : e_X11_holds_17.all (fun q => xokB cX11_holds q && xokL q) = true := by decide +kernel
def e_X11_holds_18 : List xI := [(153, .iconst 1, 1, .int 1)]
theorem e_X11_holds_18_k : e_X11_holds_18.all (fun q => xokB cX11_holds q && xokL q) = true := by decide +kernel
def e_X11_holds_19 : List xI := [(75, .iload_n 2, 1, .null), (76, .iconst 4, 1, .int 4)]
theorem e_X11_holds_19_k : e_X11_holds_19.all (fun q => xokB cX11_holds q && xokL q) = true := by decide +kernel
def e_X11_holds_20 : List xI := [(80, .aload_n 0, 1, .null), (81, .iconst 2, 1, .int 2)]
theorem e_X11_holds_20_k : e_X11_holds_20.all (fun q => xokB cX11_holds q && xokL q) = true := by decide +kernel
def e_X11_holds_21 : List xI := [(88, .iload_n 2, 1, .null), (89, .iconst 5, 1, .int 5)]
theorem e_X11_holds_21_k : e_X11_holds_21.all (fun q => xokB cX11_holds q && xokL q) = true := by decide +kernel
def e_X11_holds_22 : List xI := [(93, .aload_n 0, 1, .null), (94, .bipush 8, 2, .int 8)]
theorem e_X11_holds_22_k : e_X11_holds_22.all (fun q => xokB cX11_holds q && xokL q) = true := by decide +kernel
def e_X11_holds_23 : List xI := [(102, .iload_n 2, 1, .null), (103, .bipush 6, 2, .int 6)]
theorem e_X11_holds_23_k : e_X11_holds_23.all (fun q => xokB cX11_holds q && xokL q) = true := by decide +kernel
def e_X11_holds_24 : List xI := [(108, .iload_n 3, 1, .null)]
theorem e_X11_holds_24_k : e_X11_holds_24.all (fun q => xokB cX11_holds q && xokL q) = true := by decide +kernel
def e_X11_holds_25 : List xI := [(112, .iload_n 2, 1, .null), (113, .bipush 7, 2, .int 7)]
theorem e_X11_holds_25_k : e_X11_holds_25.all (fun q => xokB cX11_holds q && xokL q) = true := by decide +kernel
def e_X11_holds_26 : List xI := [(118, .iload_n 3, 1, .null)]
theorem e_X11_holds_26_k : e_X11_holds_26.all (fun q => xokB cX11_holds q && xokL q) = true := by decide +kernel
def e_X11_holds_27 : List xI := [(122, .aload_n 0, 1, .null), (123, .iconst 4, 1, .int 4)]
theorem e_X11_holds_27_k : e_X11_holds_27.all (fun q => xokB cX11_holds q && xokL q) = true := by decide +kernel
def e_X11_holds_28 : List xI := [(134, .iconst 0, 1, .int 0)]
theorem e_X11_holds_28_k : e_X11_holds_28.all (fun q => xokB cX11_holds q && xokL q) = true := by decide +kernel
abbrev P_X11_holds (r : Int32) (M0 : St) (L : Nat → Nat → Int64) : Option Value → xG → Prop := fun v σ' => PoI r M0 L v σ' ∧ xrg 0 1 r ∧ Inv INVM M0
abbrev R_X11_holds : Room := { frames := 1, cells := 0, slots := 0, locals := 21 }
abbrev C_X11_holds (l : Launch) (r : Int32) (M0 : St) (L : Nat → Nat → Int64) (V : XJ) : Prop := XC l yX11_holds.cls yX11_holds.name cX11_holds 5 R_X11_holds 0 0 fl_X11 kc_X11 LAY.length (xfin (some .boolean) LAY (P_X11_holds r M0 L)) V
def f_X11_holds_150 (s0 : Int32) (s1 : Int32) (M : St) : Int32 := (if s1 = s0 then 1 else 0)
def f_X11_holds_135 (x1 : Int32) (s0 : Int32) (M : St) : Int32 := (if (x1 - x1 / 2 * 2) = 0 then f_X11_holds_150 1 s0 M else f_X11_holds_150 0 s0 M)
def f_X11_holds_130 (x1 : Int32) (M : St) : Int32 := f_X11_holds_135 x1 1 M
def f_X11_holds_134 (x1 : Int32) (M : St) : Int32 := f_X11_holds_135 x1 0 M
def f_X11_holds_112 (x1 : Int32) (x2 : Int32) (x3 : Int32) (M : St) : Int32 := (if x2 = 7 then (if x3 = 0 then f_X11_holds_134 x1 M else (if (f_X11_has 4 M) = 0 then f_X11_holds_130 x1 M else f_X11_holds_134 x1 M)) else f_X11_holds_134 x1 M)
def f_X11_holds_102 (x1 : Int32) (x2 : Int32) (x3 : Int32) (M : St) : Int32 := (if x2 = 6 then (if x3 = 0 then f_X11_holds_112 x1 x2 x3 M else f_X11_holds_130 x1 M) else f_X11_holds_112 x1 x2 x3 M)
def f_X11_holds_88 (x1 : Int32) (x2 : Int32) (x3 : Int32) (M : St) : Int32 := (if x2 = 5 then (if (f_X11_has 8 M) = 0 then f_X11_holds_130 x1 M else f_X11_holds_102 x1 x2 x3 M) else f_X11_holds_102 x1 x2 x3 M)
def f_X11_holds_75 (x1 : Int32) (x2 : Int32) (x3 : Int32) (M : St) : Int32 := (if x2 = 4 then (if (f_X11_has 2 M) = 0 then f_X11_holds_130 x1 M else f_X11_holds_88 x1 x2 x3 M) else f_X11_holds_88 x1 x2 x3 M)
def f_X11_holds_62 (x1 : Int32) (x2 : Int32) (x3 : Int32) (M : St) : Int32 := (if x2 = 3 then (if (f_X11_has 4 M) = 0 then f_X11_holds_130 x1 M else f_X11_holds_75 x1 x2 x3 M) else f_X11_holds_75 x1 x2 x3 M)
def f_X11_holds_49 (x1 : Int32) (x2 : Int32) (x3 : Int32) (M : St) : Int32 := (if x2 = 2 then (if (f_X11_has 1 M) = 0 then f_X11_holds_130 x1 M else f_X11_holds_62 x1 x2 x3 M) else f_X11_holds_62 x1 x2 x3 M)
def f_X11_holds_23 (x1 : Int32) (x2 : Int32) (s0 : Int32) (M : St) : Int32 := (if x2 = 0 then f_X11_holds_130 x1 M else (if x2 = 1 then (if (f_X11_has 1 M) = 0 then (if (f_X11_has 4 M) = 0 then f_X11_holds_130 x1 M else f_X11_holds_49 x1 x2 s0 M) else f_X11_holds_49 x1 x2 s0 M) else f_X11_holds_49 x1 x2 s0 M))
def f_X11_holds (a1 : Int32) (M : St) : Int32 := (if (f_X11_has 8 M) = (f_X11_has 2 M) then f_X11_holds_23 a1 (a1 >>> ((1 : Int32) &&& 31)) 1 M else f_X11_holds_23 a1 (a1 >>> ((1 : Int32) &&& 31)) 0 M)
set_option maxRecDepth 20000 in
set_option maxHeartbeats 4000000 in
theorem b_X11_holds_150 {l : Launch} {L : Nat → Nat → Int64} {V : XJ} (r : Int32) {M : St} (C : C_X11_holds l r M L V) (s0 : Int32) (s1 : Int32) (ws0 : xrg 0 1 s0) (ws1 : xrg 0 1 s1) (hI : Inv INVM M) (h : f_X11_holds_150 s0 s1 M = r) : V 0 0 150 [] [.int s0, .int s1] LAY (M, L) := by
  unfold f_X11_holds_150 at h
  refine x_icmp_ne C (show decode cX11_holds 150 = .ok (.if_icmp .ne 7, 3) from by decide +kernel) (tgt := 157) (by decide) (fun c42 => ?_) (fun c42 => ?_)
  · rw [if_neg c42] at h
    refine x_run C e_X11_holds_17 e_X11_holds_17_k (pc' := 158) (lv' := []) (st' := [.int 0]) (σ' := (M, L)) rfl ⟨trivial, trivial⟩ ?_
    subst h
    exact x_iret C (show decode cX11_holds 158 = .ok (.ireturn, 1) from by decide +kernel) (x_finI (x_nb (x_rgw (x_rgc (x := 0) (k := 0) (by decide)) (lo' := 0) (hi' := 1) (by decide) (by decide))) ⟨⟨rfl, rfl⟩, (x_rgw (x_rgc (x := 0) (k := 0) (by decide)) (lo' := 0) (hi' := 1) (by decide) (by decide)), hI⟩) (Nat.le_refl 0) (Nat.le_refl 0)
  · rw [if_pos c42] at h
    refine x_run C e_X11_holds_18 e_X11_holds_18_k (pc' := 154) (lv' := []) (st' := [.int 1]) (σ' := (M, L)) rfl ⟨trivial, trivial⟩ ?_
    refine x_goto C (show decode cX11_holds 154 = .ok (.goto 4, 3) from by decide +kernel) (tgt := 158) (by decide) ?_
    subst h
    exact x_iret C (show decode cX11_holds 158 = .ok (.ireturn, 1) from by decide +kernel) (x_finI (x_nb (x_rgw (x_rgc (x := 1) (k := 1) (by decide)) (lo' := 0) (hi' := 1) (by decide) (by decide))) ⟨⟨rfl, rfl⟩, (x_rgw (x_rgc (x := 1) (k := 1) (by decide)) (lo' := 0) (hi' := 1) (by decide) (by decide)), hI⟩) (Nat.le_refl 0) (Nat.le_refl 0)
set_option maxRecDepth 20000 in
set_option maxHeartbeats 4000000 in
theorem b_X11_holds_135 {l : Launch} {L : Nat → Nat → Int64} {V : XJ} (r : Int32) {M : St} (C : C_X11_holds l r M L V) (x1 : Int32) (s0 : Int32) (ws0 : xrg 0 1 s0) (hI : Inv INVM M) (h : f_X11_holds_135 x1 s0 M = r) : V 0 0 135 [(1, .int x1)] [.int s0] LAY (M, L) := by
  unfold f_X11_holds_135 at h
  refine x_run C e_X11_holds_12 e_X11_holds_12_k (pc' := 142) (lv' := [(4, .int s0), (1, .int x1)]) (st' := [.int (x1 - x1 / 2 * 2), .int s0]) (σ' := (M, L)) rfl ⟨trivial, trivial, trivial, trivial, (by decide), trivial⟩ ?_
  refine x_if_ne C (show decode cX11_holds 142 = .ok (.ifCond .ne 7, 3) from by decide +kernel) (tgt := 149) (by decide) (fun c32 => ?_) (fun c32 => ?_)
  · rw [if_neg c32] at h
    refine x_run C e_X11_holds_13 e_X11_holds_13_k (pc' := 150) (lv' := [(4, .int s0), (1, .int x1)]) (st' := [.int 0, .int s0]) (σ' := (M, L)) rfl ⟨trivial, trivial⟩ ?_
    refine x_lv C [] rfl ?_
    exact b_X11_holds_150 r C 0 s0  (x_rgw (x_rgc (x := 0) (k := 0) (by decide)) (lo' := 0) (hi' := 1) (by decide) (by decide)) ws0 hI h
  · rw [if_pos c32] at h
    have g33 : xrg 0 0 (x1 - x1 / 2 * 2) := (x_c_eq (x_rgt (x1 - x1 / 2 * 2)) (x_rgc (x := 0) (k := 0) (by decide)) c32).1
    refine x_run C e_X11_holds_14 e_X11_holds_14_k (pc' := 146) (lv' := [(4, .int s0), (1, .int x1)]) (st' := [.int 1, .int s0]) (σ' := (M, L)) rfl ⟨trivial, trivial⟩ ?_
    refine x_goto C (show decode cX11_holds 146 = .ok (.goto 4, 3) from by decide +kernel) (tgt := 150) (by decide) ?_
    refine x_lv C [] rfl ?_
    exact b_X11_holds_150 r C 1 s0  (x_rgw (x_rgc (x := 1) (k := 1) (by decide)) (lo' := 0) (hi' := 1) (by decide) (by decide)) ws0 hI h
set_option maxRecDepth 20000 in
set_option maxHeartbeats 4000000 in
theorem b_X11_holds_130 {l : Launch} {L : Nat → Nat → Int64} {V : XJ} (r : Int32) {M : St} (C : C_X11_holds l r M L V) (x1 : Int32) (hI : Inv INVM M) (h : f_X11_holds_130 x1 M = r) : V 0 0 130 [(1, .int x1)] [] LAY (M, L) := by
  unfold f_X11_holds_130 at h
  refine x_run C e_X11_holds_9 e_X11_holds_9_k (pc' := 131) (lv' := [(1, .int x1)]) (st' := [.int 1]) (σ' := (M, L)) rfl ⟨trivial, trivial⟩ ?_
  refine x_goto C (show decode cX11_holds 131 = .ok (.goto 4, 3) from by decide +kernel) (tgt := 135) (by decide) ?_
  exact b_X11_holds_135 r C x1 1  (x_rgw (x_rgc (x := 1) (k := 1) (by decide)) (lo' := 0) (hi' := 1) (by decide) (by decide)) hI h
set_option maxRecDepth 20000 in
set_option maxHeartbeats 4000000 in
theorem b_X11_holds_134 {l : Launch} {L : Nat → Nat → Int64} {V : XJ} (r : Int32) {M : St} (C : C_X11_holds l r M L V) (x1 : Int32) (hI : Inv INVM M) (h : f_X11_holds_134 x1 M = r) : V 0 0 134 [(1, .int x1)] [] LAY (M, L) := by
  unfold f_X11_holds_134 at h
  refine x_run C e_X11_holds_28 e_X11_holds_28_k (pc' := 135) (lv' := [(1, .int x1)]) (st' := [.int 0]) (σ' := (M, L)) rfl ⟨trivial, trivial⟩ ?_
  exact b_X11_holds_135 r C x1 0  (x_rgw (x_rgc (x := 0) (k := 0) (by decide)) (lo' := 0) (hi' := 1) (by decide) (by decide)) hI h
set_option maxRecDepth 20000 in
set_option maxHeartbeats 4000000 in
theorem b_X11_holds_112 {l : Launch} {L : Nat → Nat → Int64} {V : XJ} (r : Int32) {M : St} (C : C_X11_holds l r M L V) (x1 : Int32) (x2 : Int32) (x3 : Int32) (wx3 : xrg 0 1 x3) (hI : Inv INVM M) (h : f_X11_holds_112 x1 x2 x3 M = r) : V 0 0 112 [(0, .ref 14), (1, .int x1), (2, .int x2), (3, .int x3)] [] LAY (M, L) := by
  unfold f_X11_holds_112 at h
  refine x_run C e_X11_holds_25 e_X11_holds_25_k (pc' := 115) (lv' := [(0, .ref 14), (1, .int x1), (2, .int x2), (3, .int x3)]) (st' := [.int 7, .int x2]) (σ' := (M, L)) rfl ⟨trivial, trivial, trivial⟩ ?_
  refine x_icmp_ne C (show decode cX11_holds 115 = .ok (.if_icmp .ne 19, 3) from by decide +kernel) (tgt := 134) (by decide) (fun c64 => ?_) (fun c64 => ?_)
  · rw [if_neg c64] at h
    refine x_lv C [1] rfl ?_
    exact b_X11_holds_134 r C x1  hI h
  · rw [if_pos c64] at h
    have g65 : xrg 7 7 x2 := (x_c_eq (x_rgt x2) (x_rgc (x := 7) (k := 7) (by decide)) c64).1
    refine x_run C e_X11_holds_26 e_X11_holds_26_k (pc' := 119) (lv' := [(0, .ref 14), (1, .int x1), (2, .int x2), (3, .int x3)]) (st' := [.int x3]) (σ' := (M, L)) rfl ⟨trivial, trivial⟩ ?_
    refine x_if_eq C (show decode cX11_holds 119 = .ok (.ifCond .eq 15, 3) from by decide +kernel) (tgt := 134) (by decide) (fun c66 => ?_) (fun c66 => ?_)
    · rw [if_pos c66] at h
      have g67 : xrg 0 0 x3 := (x_c_eq wx3 (x_rgc (x := 0) (k := 0) (by decide)) c66).1
      refine x_lv C [1] rfl ?_
      exact b_X11_holds_134 r C x1  hI h
    · rw [if_neg c66] at h
      have g68 : xrg 1 1 x3 := (x_c_ne wx3 (by decide) c66)
      refine x_run C e_X11_holds_27 e_X11_holds_27_k (pc' := 124) (lv' := [(0, .ref 14), (1, .int x1), (2, .int x2), (3, .int x3)]) (st' := [.int 4, .ref 14]) (σ' := (M, L)) rfl ⟨trivial, trivial, trivial⟩ ?_
      refine x_callV C (k := 14) (ci := 8) (rest := []) (avs := [.int 4]) (k_X11_has l 4 M L hI) yoX11_has ml_X11_55 rfl rfl rfl rfl ⟨Nat.zero_le _, Nat.zero_le _⟩ (show decode cX11_holds 124 = .ok (.invokevirtual 55, 3) from by decide +kernel) rfl (fun v σ' hPo => ?_)
      obtain ⟨⟨rfl, rfl⟩, g70, hI71⟩ := hPo
      show V 0 0 127 [(0, .ref 14), (1, .int x1), (2, .int x2), (3, .int x3)] [.int (f_X11_has 4 M)] LAY (M, L)
      refine x_if_ne C (show decode cX11_holds 127 = .ok (.ifCond .ne 7, 3) from by decide +kernel) (tgt := 134) (by decide) (fun c72 => ?_) (fun c72 => ?_)
      · rw [if_neg c72] at h
        have g73 : xrg 1 1 (f_X11_has 4 M) := (x_c_ne g70 (by decide) c72)
        refine x_lv C [1] rfl ?_
        exact b_X11_holds_134 r C x1  hI h
      · rw [if_pos c72] at h
        have g74 : xrg 0 0 (f_X11_has 4 M) := (x_c_eq g70 (x_rgc (x := 0) (k := 0) (by decide)) c72).1
        refine x_lv C [1] rfl ?_
        exact b_X11_holds_130 r C x1  hI h
set_option maxRecDepth 20000 in
set_option maxHeartbeats 4000000 in
theorem b_X11_holds_102 {l : Launch} {L : Nat → Nat → Int64} {V : XJ} (r : Int32) {M : St} (C : C_X11_holds l r M L V) (x1 : Int32) (x2 : Int32) (x3 : Int32) (wx3 : xrg 0 1 x3) (hI : Inv INVM M) (h : f_X11_holds_102 x1 x2 x3 M = r) : V 0 0 102 [(0, .ref 14), (1, .int x1), (2, .int x2), (3, .int x3)] [] LAY (M, L) := by
  unfold f_X11_holds_102 at h
  refine x_run C e_X11_holds_23 e_X11_holds_23_k (pc' := 105) (lv' := [(0, .ref 14), (1, .int x1), (2, .int x2), (3, .int x3)]) (st' := [.int 6, .int x2]) (σ' := (M, L)) rfl ⟨trivial, trivial, trivial⟩ ?_
  refine x_icmp_ne C (show decode cX11_holds 105 = .ok (.if_icmp .ne 7, 3) from by decide +kernel) (tgt := 112) (by decide) (fun c59 => ?_) (fun c59 => ?_)
  · rw [if_neg c59] at h
    exact b_X11_holds_112 r C x1 x2 x3  wx3 hI h
  · rw [if_pos c59] at h
    have g60 : xrg 6 6 x2 := (x_c_eq (x_rgt x2) (x_rgc (x := 6) (k := 6) (by decide)) c59).1
    refine x_run C e_X11_holds_24 e_X11_holds_24_k (pc' := 109) (lv' := [(0, .ref 14), (1, .int x1), (2, .int x2), (3, .int x3)]) (st' := [.int x3]) (σ' := (M, L)) rfl ⟨trivial, trivial⟩ ?_
    refine x_if_ne C (show decode cX11_holds 109 = .ok (.ifCond .ne 21, 3) from by decide +kernel) (tgt := 130) (by decide) (fun c61 => ?_) (fun c61 => ?_)
    · rw [if_neg c61] at h
      have g62 : xrg 1 1 x3 := (x_c_ne wx3 (by decide) c61)
      refine x_lv C [1] rfl ?_
      exact b_X11_holds_130 r C x1  hI h
    · rw [if_pos c61] at h
      have g63 : xrg 0 0 x3 := (x_c_eq wx3 (x_rgc (x := 0) (k := 0) (by decide)) c61).1
      exact b_X11_holds_112 r C x1 x2 x3  (x_rgw g63 (lo' := 0) (hi' := 1) (by decide) (by decide)) hI h
set_option maxRecDepth 20000 in
set_option maxHeartbeats 4000000 in
theorem b_X11_holds_88 {l : Launch} {L : Nat → Nat → Int64} {V : XJ} (r : Int32) {M : St} (C : C_X11_holds l r M L V) (x1 : Int32) (x2 : Int32) (x3 : Int32) (wx3 : xrg 0 1 x3) (hI : Inv INVM M) (h : f_X11_holds_88 x1 x2 x3 M = r) : V 0 0 88 [(0, .ref 14), (1, .int x1), (2, .int x2), (3, .int x3)] [] LAY (M, L) := by
  unfold f_X11_holds_88 at h
  refine x_run C e_X11_holds_21 e_X11_holds_21_k (pc' := 90) (lv' := [(0, .ref 14), (1, .int x1), (2, .int x2), (3, .int x3)]) (st' := [.int 5, .int x2]) (σ' := (M, L)) rfl ⟨trivial, trivial, trivial⟩ ?_
  refine x_icmp_ne C (show decode cX11_holds 90 = .ok (.if_icmp .ne 12, 3) from by decide +kernel) (tgt := 102) (by decide) (fun c51 => ?_) (fun c51 => ?_)
  · rw [if_neg c51] at h
    exact b_X11_holds_102 r C x1 x2 x3  wx3 hI h
  · rw [if_pos c51] at h
    have g52 : xrg 5 5 x2 := (x_c_eq (x_rgt x2) (x_rgc (x := 5) (k := 5) (by decide)) c51).1
    refine x_run C e_X11_holds_22 e_X11_holds_22_k (pc' := 96) (lv' := [(0, .ref 14), (1, .int x1), (2, .int x2), (3, .int x3)]) (st' := [.int 8, .ref 14]) (σ' := (M, L)) rfl ⟨trivial, trivial, trivial⟩ ?_
    refine x_callV C (k := 14) (ci := 8) (rest := []) (avs := [.int 8]) (k_X11_has l 8 M L hI) yoX11_has ml_X11_55 rfl rfl rfl rfl ⟨Nat.zero_le _, Nat.zero_le _⟩ (show decode cX11_holds 96 = .ok (.invokevirtual 55, 3) from by decide +kernel) rfl (fun v σ' hPo => ?_)
    obtain ⟨⟨rfl, rfl⟩, g54, hI55⟩ := hPo
    show V 0 0 99 [(0, .ref 14), (1, .int x1), (2, .int x2), (3, .int x3)] [.int (f_X11_has 8 M)] LAY (M, L)
    refine x_if_eq C (show decode cX11_holds 99 = .ok (.ifCond .eq 31, 3) from by decide +kernel) (tgt := 130) (by decide) (fun c56 => ?_) (fun c56 => ?_)
    · rw [if_pos c56] at h
      have g57 : xrg 0 0 (f_X11_has 8 M) := (x_c_eq g54 (x_rgc (x := 0) (k := 0) (by decide)) c56).1
      refine x_lv C [1] rfl ?_
      exact b_X11_holds_130 r C x1  hI h
    · rw [if_neg c56] at h
      have g58 : xrg 1 1 (f_X11_has 8 M) := (x_c_ne g54 (by decide) c56)
      exact b_X11_holds_102 r C x1 x2 x3  wx3 hI h
set_option maxRecDepth 20000 in
set_option maxHeartbeats 4000000 in
theorem b_X11_holds_75 {l : Launch} {L : Nat → Nat → Int64} {V : XJ} (r : Int32) {M : St} (C : C_X11_holds l r M L V) (x1 : Int32) (x2 : Int32) (x3 : Int32) (wx3 : xrg 0 1 x3) (hI : Inv INVM M) (h : f_X11_holds_75 x1 x2 x3 M = r) : V 0 0 75 [(0, .ref 14), (1, .int x1), (2, .int x2), (3, .int x3)] [] LAY (M, L) := by
  unfold f_X11_holds_75 at h
  refine x_run C e_X11_holds_19 e_X11_holds_19_k (pc' := 77) (lv' := [(0, .ref 14), (1, .int x1), (2, .int x2), (3, .int x3)]) (st' := [.int 4, .int x2]) (σ' := (M, L)) rfl ⟨trivial, trivial, trivial⟩ ?_
  refine x_icmp_ne C (show decode cX11_holds 77 = .ok (.if_icmp .ne 11, 3) from by decide +kernel) (tgt := 88) (by decide) (fun c43 => ?_) (fun c43 => ?_)
  · rw [if_neg c43] at h
    exact b_X11_holds_88 r C x1 x2 x3  wx3 hI h
  · rw [if_pos c43] at h
    have g44 : xrg 4 4 x2 := (x_c_eq (x_rgt x2) (x_rgc (x := 4) (k := 4) (by decide)) c43).1
    refine x_run C e_X11_holds_20 e_X11_holds_20_k (pc' := 82) (lv' := [(0, .ref 14), (1, .int x1), (2, .int x2), (3, .int x3)]) (st' := [.int 2, .ref 14]) (σ' := (M, L)) rfl ⟨trivial, trivial, trivial⟩ ?_
    refine x_callV C (k := 14) (ci := 8) (rest := []) (avs := [.int 2]) (k_X11_has l 2 M L hI) yoX11_has ml_X11_55 rfl rfl rfl rfl ⟨Nat.zero_le _, Nat.zero_le _⟩ (show decode cX11_holds 82 = .ok (.invokevirtual 55, 3) from by decide +kernel) rfl (fun v σ' hPo => ?_)
    obtain ⟨⟨rfl, rfl⟩, g46, hI47⟩ := hPo
    show V 0 0 85 [(0, .ref 14), (1, .int x1), (2, .int x2), (3, .int x3)] [.int (f_X11_has 2 M)] LAY (M, L)
    refine x_if_eq C (show decode cX11_holds 85 = .ok (.ifCond .eq 45, 3) from by decide +kernel) (tgt := 130) (by decide) (fun c48 => ?_) (fun c48 => ?_)
    · rw [if_pos c48] at h
      have g49 : xrg 0 0 (f_X11_has 2 M) := (x_c_eq g46 (x_rgc (x := 0) (k := 0) (by decide)) c48).1
      refine x_lv C [1] rfl ?_
      exact b_X11_holds_130 r C x1  hI h
    · rw [if_neg c48] at h
      have g50 : xrg 1 1 (f_X11_has 2 M) := (x_c_ne g46 (by decide) c48)
      exact b_X11_holds_88 r C x1 x2 x3  wx3 hI h
set_option maxRecDepth 20000 in
set_option maxHeartbeats 4000000 in
theorem b_X11_holds_62 {l : Launch} {L : Nat → Nat → Int64} {V : XJ} (r : Int32) {M : St} (C : C_X11_holds l r M L V) (x1 : Int32) (x2 : Int32) (x3 : Int32) (wx3 : xrg 0 1 x3) (hI : Inv INVM M) (h : f_X11_holds_62 x1 x2 x3 M = r) : V 0 0 62 [(0, .ref 14), (1, .int x1), (2, .int x2), (3, .int x3)] [] LAY (M, L) := by
  unfold f_X11_holds_62 at h
  refine x_run C e_X11_holds_15 e_X11_holds_15_k (pc' := 64) (lv' := [(0, .ref 14), (1, .int x1), (2, .int x2), (3, .int x3)]) (st' := [.int 3, .int x2]) (σ' := (M, L)) rfl ⟨trivial, trivial, trivial⟩ ?_
  refine x_icmp_ne C (show decode cX11_holds 64 = .ok (.if_icmp .ne 11, 3) from by decide +kernel) (tgt := 75) (by decide) (fun c34 => ?_) (fun c34 => ?_)
  · rw [if_neg c34] at h
    exact b_X11_holds_75 r C x1 x2 x3  wx3 hI h
  · rw [if_pos c34] at h
    have g35 : xrg 3 3 x2 := (x_c_eq (x_rgt x2) (x_rgc (x := 3) (k := 3) (by decide)) c34).1
    refine x_run C e_X11_holds_16 e_X11_holds_16_k (pc' := 69) (lv' := [(0, .ref 14), (1, .int x1), (2, .int x2), (3, .int x3)]) (st' := [.int 4, .ref 14]) (σ' := (M, L)) rfl ⟨trivial, trivial, trivial⟩ ?_
    refine x_callV C (k := 14) (ci := 8) (rest := []) (avs := [.int 4]) (k_X11_has l 4 M L hI) yoX11_has ml_X11_55 rfl rfl rfl rfl ⟨Nat.zero_le _, Nat.zero_le _⟩ (show decode cX11_holds 69 = .ok (.invokevirtual 55, 3) from by decide +kernel) rfl (fun v σ' hPo => ?_)
    obtain ⟨⟨rfl, rfl⟩, g37, hI38⟩ := hPo
    show V 0 0 72 [(0, .ref 14), (1, .int x1), (2, .int x2), (3, .int x3)] [.int (f_X11_has 4 M)] LAY (M, L)
    refine x_if_eq C (show decode cX11_holds 72 = .ok (.ifCond .eq 58, 3) from by decide +kernel) (tgt := 130) (by decide) (fun c39 => ?_) (fun c39 => ?_)
    · rw [if_pos c39] at h
      have g40 : xrg 0 0 (f_X11_has 4 M) := (x_c_eq g37 (x_rgc (x := 0) (k := 0) (by decide)) c39).1
      refine x_lv C [1] rfl ?_
      exact b_X11_holds_130 r C x1  hI h
    · rw [if_neg c39] at h
      have g41 : xrg 1 1 (f_X11_has 4 M) := (x_c_ne g37 (by decide) c39)
      exact b_X11_holds_75 r C x1 x2 x3  wx3 hI h
set_option maxRecDepth 20000 in
set_option maxHeartbeats 4000000 in
theorem b_X11_holds_49 {l : Launch} {L : Nat → Nat → Int64} {V : XJ} (r : Int32) {M : St} (C : C_X11_holds l r M L V) (x1 : Int32) (x2 : Int32) (x3 : Int32) (wx3 : xrg 0 1 x3) (hI : Inv INVM M) (h : f_X11_holds_49 x1 x2 x3 M = r) : V 0 0 49 [(0, .ref 14), (1, .int x1), (2, .int x2), (3, .int x3)] [] LAY (M, L) := by
  unfold f_X11_holds_49 at h
  refine x_run C e_X11_holds_10 e_X11_holds_10_k (pc' := 51) (lv' := [(0, .ref 14), (1, .int x1), (2, .int x2), (3, .int x3)]) (st' := [.int 2, .int x2]) (σ' := (M, L)) rfl ⟨trivial, trivial, trivial⟩ ?_
  refine x_icmp_ne C (show decode cX11_holds 51 = .ok (.if_icmp .ne 11, 3) from by decide +kernel) (tgt := 62) (by decide) (fun c24 => ?_) (fun c24 => ?_)
  · rw [if_neg c24] at h
    exact b_X11_holds_62 r C x1 x2 x3  wx3 hI h
  · rw [if_pos c24] at h
    have g25 : xrg 2 2 x2 := (x_c_eq (x_rgt x2) (x_rgc (x := 2) (k := 2) (by decide)) c24).1
    refine x_run C e_X11_holds_11 e_X11_holds_11_k (pc' := 56) (lv' := [(0, .ref 14), (1, .int x1), (2, .int x2), (3, .int x3)]) (st' := [.int 1, .ref 14]) (σ' := (M, L)) rfl ⟨trivial, trivial, trivial⟩ ?_
    refine x_callV C (k := 14) (ci := 8) (rest := []) (avs := [.int 1]) (k_X11_has l 1 M L hI) yoX11_has ml_X11_55 rfl rfl rfl rfl ⟨Nat.zero_le _, Nat.zero_le _⟩ (show decode cX11_holds 56 = .ok (.invokevirtual 55, 3) from by decide +kernel) rfl (fun v σ' hPo => ?_)
    obtain ⟨⟨rfl, rfl⟩, g27, hI28⟩ := hPo
    show V 0 0 59 [(0, .ref 14), (1, .int x1), (2, .int x2), (3, .int x3)] [.int (f_X11_has 1 M)] LAY (M, L)
    refine x_if_eq C (show decode cX11_holds 59 = .ok (.ifCond .eq 71, 3) from by decide +kernel) (tgt := 130) (by decide) (fun c29 => ?_) (fun c29 => ?_)
    · rw [if_pos c29] at h
      have g30 : xrg 0 0 (f_X11_has 1 M) := (x_c_eq g27 (x_rgc (x := 0) (k := 0) (by decide)) c29).1
      refine x_lv C [1] rfl ?_
      exact b_X11_holds_130 r C x1  hI h
    · rw [if_neg c29] at h
      have g31 : xrg 1 1 (f_X11_has 1 M) := (x_c_ne g27 (by decide) c29)
      exact b_X11_holds_62 r C x1 x2 x3  wx3 hI h
set_option maxRecDepth 20000 in
set_option maxHeartbeats 4000000 in
theorem b_X11_holds_23 {l : Launch} {L : Nat → Nat → Int64} {V : XJ} (r : Int32) {M : St} (C : C_X11_holds l r M L V) (x1 : Int32) (x2 : Int32) (s0 : Int32) (ws0 : xrg 0 1 s0) (hI : Inv INVM M) (h : f_X11_holds_23 x1 x2 s0 M = r) : V 0 0 23 [(0, .ref 14), (1, .int x1), (2, .int x2)] [.int s0] LAY (M, L) := by
  unfold f_X11_holds_23 at h
  refine x_run C e_X11_holds_5 e_X11_holds_5_k (pc' := 25) (lv' := [(3, .int s0), (0, .ref 14), (1, .int x1), (2, .int x2)]) (st' := [.int x2]) (σ' := (M, L)) rfl ⟨trivial, trivial, trivial⟩ ?_
  refine x_if_eq C (show decode cX11_holds 25 = .ok (.ifCond .eq 105, 3) from by decide +kernel) (tgt := 130) (by decide) (fun c8 => ?_) (fun c8 => ?_)
  · rw [if_pos c8] at h
    have g9 : xrg 0 0 x2 := (x_c_eq (x_rgt x2) (x_rgc (x := 0) (k := 0) (by decide)) c8).1
    refine x_lv C [2] rfl ?_
    exact b_X11_holds_130 r C x1  hI h
  · rw [if_neg c8] at h
    refine x_run C e_X11_holds_6 e_X11_holds_6_k (pc' := 30) (lv' := [(3, .int s0), (0, .ref 14), (1, .int x1), (2, .int x2)]) (st' := [.int 1, .int x2]) (σ' := (M, L)) rfl ⟨trivial, trivial, trivial⟩ ?_
    refine x_icmp_ne C (show decode cX11_holds 30 = .ok (.if_icmp .ne 19, 3) from by decide +kernel) (tgt := 49) (by decide) (fun c10 => ?_) (fun c10 => ?_)
    · rw [if_neg c10] at h
      refine x_lv C [1, 2, 3, 0] rfl ?_
      exact b_X11_holds_49 r C x1 x2 s0  ws0 hI h
    · rw [if_pos c10] at h
      have g11 : xrg 1 1 x2 := (x_c_eq (x_rgt x2) (x_rgc (x := 1) (k := 1) (by decide)) c10).1
      refine x_run C e_X11_holds_7 e_X11_holds_7_k (pc' := 35) (lv' := [(3, .int s0), (0, .ref 14), (1, .int x1), (2, .int x2)]) (st' := [.int 1, .ref 14]) (σ' := (M, L)) rfl ⟨trivial, trivial, trivial⟩ ?_
      refine x_callV C (k := 14) (ci := 8) (rest := []) (avs := [.int 1]) (k_X11_has l 1 M L hI) yoX11_has ml_X11_55 rfl rfl rfl rfl ⟨Nat.zero_le _, Nat.zero_le _⟩ (show decode cX11_holds 35 = .ok (.invokevirtual 55, 3) from by decide +kernel) rfl (fun v σ' hPo => ?_)
      obtain ⟨⟨rfl, rfl⟩, g13, hI14⟩ := hPo
      show V 0 0 38 [(3, .int s0), (0, .ref 14), (1, .int x1), (2, .int x2)] [.int (f_X11_has 1 M)] LAY (M, L)
      refine x_if_ne C (show decode cX11_holds 38 = .ok (.ifCond .ne 11, 3) from by decide +kernel) (tgt := 49) (by decide) (fun c15 => ?_) (fun c15 => ?_)
      · rw [if_neg c15] at h
        have g16 : xrg 1 1 (f_X11_has 1 M) := (x_c_ne g13 (by decide) c15)
        refine x_lv C [1, 2, 3, 0] rfl ?_
        exact b_X11_holds_49 r C x1 x2 s0  ws0 hI h
      · rw [if_pos c15] at h
        have g17 : xrg 0 0 (f_X11_has 1 M) := (x_c_eq g13 (x_rgc (x := 0) (k := 0) (by decide)) c15).1
        refine x_run C e_X11_holds_8 e_X11_holds_8_k (pc' := 43) (lv' := [(3, .int s0), (0, .ref 14), (1, .int x1), (2, .int x2)]) (st' := [.int 4, .ref 14]) (σ' := (M, L)) rfl ⟨trivial, trivial, trivial⟩ ?_
        refine x_callV C (k := 14) (ci := 8) (rest := []) (avs := [.int 4]) (k_X11_has l 4 M L hI) yoX11_has ml_X11_55 rfl rfl rfl rfl ⟨Nat.zero_le _, Nat.zero_le _⟩ (show decode cX11_holds 43 = .ok (.invokevirtual 55, 3) from by decide +kernel) rfl (fun v σ' hPo => ?_)
        obtain ⟨⟨rfl, rfl⟩, g19, hI20⟩ := hPo
        show V 0 0 46 [(3, .int s0), (0, .ref 14), (1, .int x1), (2, .int x2)] [.int (f_X11_has 4 M)] LAY (M, L)
        refine x_if_eq C (show decode cX11_holds 46 = .ok (.ifCond .eq 84, 3) from by decide +kernel) (tgt := 130) (by decide) (fun c21 => ?_) (fun c21 => ?_)
        · rw [if_pos c21] at h
          have g22 : xrg 0 0 (f_X11_has 4 M) := (x_c_eq g19 (x_rgc (x := 0) (k := 0) (by decide)) c21).1
          refine x_lv C [2] rfl ?_
          exact b_X11_holds_130 r C x1  hI h
        · rw [if_neg c21] at h
          have g23 : xrg 1 1 (f_X11_has 4 M) := (x_c_ne g19 (by decide) c21)
          refine x_lv C [1, 2, 3, 0] rfl ?_
          exact b_X11_holds_49 r C x1 x2 s0  ws0 hI h
set_option maxRecDepth 20000 in
set_option maxHeartbeats 4000000 in
theorem k_X11_holds (l : Launch) (a1 : Int32) (M : St) (L : Nat → Nat → Int64) (hI : Inv INVM M) : XM l yX11_holds cX11_holds 5 (some .boolean) R_X11_holds LAY [.ref 14, .int a1] (M, L) (P_X11_holds (f_X11_holds a1 M) M L) := by
  refine XM.of (by decide) (Nat.le_of_ble_eq_true rfl) LAY_in cl_ok fl_X11_ok kc_X11_ok (fun V C => ?_)
  obtain ⟨r, h⟩ : ∃ r, f_X11_holds a1 M = r := ⟨_, rfl⟩
  rw [h] at C
  change C_X11_holds l r M L V at C
  unfold f_X11_holds at h
  show V 0 0 0 [(0, .ref 14), (1, .int a1)] [] LAY (M, L)
  refine x_run C e_X11_holds_1 e_X11_holds_1_k (pc' := 7) (lv' := [(2, .int (a1 >>> ((1 : Int32) &&& 31))), (0, .ref 14), (1, .int a1)]) (st' := [.int 8, .ref 14]) (σ' := (M, L)) rfl ⟨trivial, trivial, trivial, trivial, trivial, trivial, trivial⟩ ?_
  refine x_callV C (k := 14) (ci := 8) (rest := []) (avs := [.int 8]) (k_X11_has l 8 M L hI) yoX11_has ml_X11_55 rfl rfl rfl rfl ⟨Nat.zero_le _, Nat.zero_le _⟩ (show decode cX11_holds 7 = .ok (.invokevirtual 55, 3) from by decide +kernel) rfl (fun v σ' hPo => ?_)
  obtain ⟨⟨rfl, rfl⟩, g2, hI3⟩ := hPo
  show V 0 0 10 [(2, .int (a1 >>> ((1 : Int32) &&& 31))), (0, .ref 14), (1, .int a1)] [.int (f_X11_has 8 M)] LAY (M, L)
  refine x_run C e_X11_holds_2 e_X11_holds_2_k (pc' := 12) (lv' := [(2, .int (a1 >>> ((1 : Int32) &&& 31))), (0, .ref 14), (1, .int a1)]) (st' := [.int 2, .ref 14, .int (f_X11_has 8 M)]) (σ' := (M, L)) rfl ⟨trivial, trivial, trivial⟩ ?_
  refine x_callV C (k := 14) (ci := 8) (rest := [.int (f_X11_has 8 M)]) (avs := [.int 2]) (k_X11_has l 2 M L hI) yoX11_has ml_X11_55 rfl rfl rfl rfl ⟨Nat.zero_le _, Nat.zero_le _⟩ (show decode cX11_holds 12 = .ok (.invokevirtual 55, 3) from by decide +kernel) rfl (fun v σ' hPo => ?_)
  obtain ⟨⟨rfl, rfl⟩, g5, hI6⟩ := hPo
  show V 0 0 15 [(2, .int (a1 >>> ((1 : Int32) &&& 31))), (0, .ref 14), (1, .int a1)] [.int (f_X11_has 2 M), .int (f_X11_has 8 M)] LAY (M, L)
  refine x_icmp_ne C (show decode cX11_holds 15 = .ok (.if_icmp .ne 7, 3) from by decide +kernel) (tgt := 22) (by decide) (fun c7 => ?_) (fun c7 => ?_)
  · rw [if_neg c7] at h
    refine x_run C e_X11_holds_3 e_X11_holds_3_k (pc' := 23) (lv' := [(2, .int (a1 >>> ((1 : Int32) &&& 31))), (0, .ref 14), (1, .int a1)]) (st' := [.int 0]) (σ' := (M, L)) rfl ⟨trivial, trivial⟩ ?_
    refine x_lv C [1, 2, 0] rfl ?_
    exact b_X11_holds_23 r C a1 (a1 >>> ((1 : Int32) &&& 31)) 0  (x_rgw (x_rgc (x := 0) (k := 0) (by decide)) (lo' := 0) (hi' := 1) (by decide) (by decide)) hI h
  · rw [if_pos c7] at h
    refine x_run C e_X11_holds_4 e_X11_holds_4_k (pc' := 19) (lv' := [(2, .int (a1 >>> ((1 : Int32) &&& 31))), (0, .ref 14), (1, .int a1)]) (st' := [.int 1]) (σ' := (M, L)) rfl ⟨trivial, trivial⟩ ?_
    refine x_goto C (show decode cX11_holds 19 = .ok (.goto 4, 3) from by decide +kernel) (tgt := 23) (by decide) ?_
    refine x_lv C [1, 2, 0] rfl ?_
    exact b_X11_holds_23 r C a1 (a1 >>> ((1 : Int32) &&& 31)) 1  (x_rgw (x_rgc (x := 1) (k := 1) (by decide)) (lo' := 0) (hi' := 1) (by decide) (by decide)) hI h
