-- X10_bitsOf
def e_X10_bitsOf_1 : List xI := [(0, .bipush 8, 2, .int 8), (2, .iload_n 0, 1, .null), (3, .ishl, 1, .null)]
theorem e_X10_bitsOf_1_k : e_X10_bitsOf_1.all (fun q => xokB cX10_bitsOf q && xokL q) = true := by decide +kernel
abbrev P_X10_bitsOf (r : Int32) (M0 : St) (L : Nat → Nat → Int64) : Option Value → xG → Prop := fun v σ' => PoI r M0 L v σ' ∧ True ∧ True
abbrev R_X10_bitsOf : Room := { frames := 0, cells := 0, slots := 0, locals := 0 }
abbrev C_X10_bitsOf (l : Launch) (r : Int32) (M0 : St) (L : Nat → Nat → Int64) (V : XJ) : Prop := XC l yX10_bitsOf.cls yX10_bitsOf.name cX10_bitsOf 1 R_X10_bitsOf 0 0 fl_X10 kc_X10 LAY.length (xfin (some .int) LAY (P_X10_bitsOf r M0 L)) V
def f_X10_bitsOf (a1 : Int32) : Int32 := ((8 : Int32) <<< (a1 &&& 31))
set_option maxRecDepth 20000 in
set_option maxHeartbeats 4000000 in
theorem k_X10_bitsOf (l : Launch) (a1 : Int32) (M : St) (L : Nat → Nat → Int64) : XM l yX10_bitsOf cX10_bitsOf 1 (some .int) R_X10_bitsOf LAY [.int a1] (M, L) (P_X10_bitsOf (f_X10_bitsOf a1) M L) := by
  refine XM.of (by decide) (Nat.le_of_ble_eq_true rfl) LAY_in cl_ok fl_X10_ok kc_X10_ok (fun V C => ?_)
  obtain ⟨r, h⟩ : ∃ r, f_X10_bitsOf a1 = r := ⟨_, rfl⟩
  rw [h] at C
  change C_X10_bitsOf l r M L V at C
  unfold f_X10_bitsOf at h
  show V 0 0 0 [(0, .int a1)] [] LAY (M, L)
  refine x_run C e_X10_bitsOf_1 e_X10_bitsOf_1_k (pc' := 4) (lv' := [(0, .int a1)]) (st' := [.int ((8 : Int32) <<< (a1 &&& 31))]) (σ' := (M, L)) rfl ⟨trivial, trivial, trivial, trivial⟩ ?_
  subst h
  exact x_iret C (show decode cX10_bitsOf 4 = .ok (.ireturn, 1) from by decide +kernel) (x_finI rfl ⟨⟨rfl, rfl⟩, trivial, trivial⟩) (Nat.le_refl 0) (Nat.le_refl 0)
-- X4_changeBit
def e_X4_changeBit_1 : List xI := [(0, .aload_n 0, 1, .null), (1, .getfield 30, 3, .null), (4, .getfield 65, 3, .null), (7, .istore_n 2, 1, .null), (8, .iconst 1, 1, .int 1), (9, .iload_n 1, 1, .null), (10, .iload_n 2, 1, .null)]
theorem e_X4_changeBit_1_k : e_X4_changeBit_1.all (fun q => xokB cX4_changeBit q && xokL q) = true := by decide +kernel
def e_X4_changeBit_2 : List xI := [(14, .iconst 1, 1, .int 1), (15, .isub, 1, .null), (16, .iand, 1, .null), (17, .ishl, 1, .null), (18, .istore_n 3, 1, .null), (19, .aload_n 0, 1, .null), (20, .getfield 26, 3, .null), (23, .aload_n 0, 1, .null), (24, .getfield 30, 3, .null), (27, .getfield 250, 3, .null), (30, .iload_n 2, 1, .null)]
theorem e_X4_changeBit_2_k : e_X4_changeBit_2.all (fun q => xokB cX4_changeBit q && xokL q) = true := by decide +kernel
def e_X4_changeBit_3 : List xI := [(34, .aload_n 0, 1, .null), (35, .getfield 26, 3, .null), (38, .iload_n 2, 1, .null)]
theorem e_X4_changeBit_3_k : e_X4_changeBit_3.all (fun q => xokB cX4_changeBit q && xokL q) = true := by decide +kernel
def e_X4_changeBit_4 : List xI := [(42, .istore 4, 2, .null), (44, .aload_n 0, 1, .null), (45, .getfield 9, 3, .null), (48, .iconst 4, 1, .int 4), (49, .iload 4, 2, .null), (51, .iload_n 3, 1, .null), (52, .iand, 1, .null)]
theorem e_X4_changeBit_4_k : e_X4_changeBit_4.all (fun q => xokB cX4_changeBit q && xokL q) = true := by decide +kernel
def e_X4_changeBit_5 : List xI := [(60, .iconst 0, 1, .int 0)]
theorem e_X4_changeBit_5_k : e_X4_changeBit_5.all (fun q => xokB cX4_changeBit q && xokL q) = true := by decide +kernel
def e_X4_changeBit_6 : List xI := [(56, .iconst 4, 1, .int 4)]
theorem e_X4_changeBit_6_k : e_X4_changeBit_6.all (fun q => xokB cX4_changeBit q && xokL q) = true := by decide +kernel
def e_X4_changeBit_7 : List xI := [(64, .aload_n 0, 1, .null), (65, .getfield 30, 3, .null)]
theorem e_X4_changeBit_7_k : e_X4_changeBit_7.all (fun q => xokB cX4_changeBit q && xokL q) = true := by decide +kernel
def e_X4_changeBit_8 : List xI := [(96, .aload_n 0, 1, .null), (97, .getfield 26, 3, .null), (100, .iload_n 2, 1, .null), (101, .iload 4, 2, .null), (103, .iload_n 3, 1, .null), (104, .ixor, 1, .null)]
theorem e_X4_changeBit_8_k : e_X4_changeBit_8.all (fun q => xokB cX4_changeBit q && xokL q) = true := by decide +kernel
def e_X4_changeBit_9 : List xI := [(111, .aload_n 0, 1, .null), (112, .getfield 26, 3, .null), (115, .iload_n 2, 1, .null), (116, .iload 4, 2, .null), (118, .iload_n 3, 1, .null), (119, .iconst (-1), 1, .int (-1)), (120, .ixor, 1, .null), (121, .iand, 1, .null)]
theorem e_X4_changeBit_9_k : e_X4_changeBit_9.all (fun q => xokB cX4_changeBit q && xokL q) = true := by decide +kernel
def e_X4_changeBit_10 : List xI := [(128, .aload_n 0, 1, .null), (129, .getfield 26, 3, .null), (132, .iload_n 2, 1, .null), (133, .iload 4, 2, .null), (135, .iload_n 3, 1, .null), (136, .ior, 1, .null)]
theorem e_X4_changeBit_10_k : e_X4_changeBit_10.all (fun q => xokB cX4_changeBit q && xokL q) = true := by decide +kernel
abbrev P_X4_changeBit (r : St) (L : Nat → Nat → Int64) : Option Value → xG → Prop := fun v σ' => PoV r L v σ' ∧ InvK INVC r
abbrev R_X4_changeBit : Room := { frames := 4, cells := 0, slots := 0, locals := 102 }
abbrev C_X4_changeBit (l : Launch) (r : St) (L : Nat → Nat → Int64) (V : XJ) : Prop := XC l yX4_changeBit.cls yX4_changeBit.name cX4_changeBit 5 R_X4_changeBit 0 0 fl_X4 kc_X4 LAY.length (xfin none LAY (P_X4_changeBit r L)) V
def f_X4_changeBit_61 (x2 : Int32) (x3 : Int32) (x4 : Int32) (s0 : Int32) (s1 : Int32) (M : St) : St := (xb (f_X8_changeFlags s1 s0 M) fun q12 => (if (f_X3_z  q12) = 1 then (xb (f_X6_write x2 (x4 ^^^ x3) q12) fun q19 => q19) else (if (f_X3_z  q12) = 2 then (xb (f_X6_write x2 (x4 &&& (x3 ^^^ (-1))) q12) fun q23 => q23) else (if (f_X3_z  q12) = 3 then (xb (f_X6_write x2 (x4 ||| x3) q12) fun q27 => q27) else q12))))
def f_X4_changeBit (a1 : Int32) (M : St) : St := (xb (f_X6_find (M 11 3) (M 11 1) M) fun q4 => (xb (f_X6_read (M 11 1) q4) fun q7 => (if (q7.1 &&& ((1 : Int32) <<< ((a1 &&& ((f_X10_bitsOf (M 11 1)) - 1)) &&& 31))) = 0 then f_X4_changeBit_61 (M 11 1) ((1 : Int32) <<< ((a1 &&& ((f_X10_bitsOf (M 11 1)) - 1)) &&& 31)) q7.1 4 4 q7.2 else f_X4_changeBit_61 (M 11 1) ((1 : Int32) <<< ((a1 &&& ((f_X10_bitsOf (M 11 1)) - 1)) &&& 31)) q7.1 0 4 q7.2)))
set_option maxRecDepth 20000 in
set_option maxHeartbeats 4000000 in
theorem b_X4_changeBit_61 {l : Launch} {L : Nat → Nat → Int64} {V : XJ} (r : St) (C : C_X4_changeBit l r L V) (x2 : Int32) (x3 : Int32) (x4 : Int32) (s0 : Int32) (s1 : Int32) (M : St) (wx3 : xrg (-2147483648) 1073741824 x3) (ws0 : xrg 0 4 s0) (ws1 : xrg 4 4 s1) (hI : InvK INVC M) (h : f_X4_changeBit_61 x2 x3 x4 s0 s1 M = r) : V 0 0 61 [(0, .ref 12), (2, .int x2), (3, .int x3), (4, .int x4)] [.int s0, .int s1, .ref 1] LAY (M, L) := by
  unfold f_X4_changeBit_61 at h
  refine x_callV C (k := 1) (ci := 6) (rest := []) (avs := [.int s1, .int s0]) (k_X8_changeFlags l s1 s0 M L hI) yoX8_changeFlags ml_X4_160 rfl rfl rfl rfl ⟨Nat.zero_le _, Nat.zero_le _⟩ (show decode cX4_changeBit 61 = .ok (.invokevirtual 160, 3) from by decide +kernel) rfl (fun v σ' hPo => ?_)
  obtain ⟨⟨rfl, rfl⟩, hI14⟩ := hPo
  generalize hq12 : f_X8_changeFlags s1 s0 M = q12 at h hI14 ⊢
  have h := xb_eq h
  show V 0 0 64 [(0, .ref 12), (2, .int x2), (3, .int x3), (4, .int x4)] [] LAY (q12, L)
  refine x_run C e_X4_changeBit_7 e_X4_changeBit_7_k (pc' := 68) (lv' := [(0, .ref 12), (2, .int x2), (3, .int x3), (4, .int x4)]) (st' := [.ref 11]) (σ' := (q12, L)) rfl ⟨trivial, trivial, trivial⟩ ?_
  refine x_callV C (k := 11) (ci := 2) (rest := []) (avs := []) (k_X3_z l  q12 L hI14) yoX3_z ml_X4_285 rfl rfl rfl rfl ⟨Nat.zero_le _, Nat.zero_le _⟩ (show decode cX4_changeBit 68 = .ok (.invokevirtual 285, 3) from by decide +kernel) rfl (fun v σ' hPo => ?_)
  obtain ⟨⟨rfl, rfl⟩, g16, hI17⟩ := hPo
  show V 0 0 71 [(0, .ref 12), (2, .int x2), (3, .int x3), (4, .int x4)] [.int (f_X3_z  q12)] LAY (q12, L)
  by_cases c18 : (f_X3_z  q12) = 1
  · rw [if_pos c18] at h
    refine x_tin C (show decode cX4_changeBit 71 = .ok (.tableswitch 72 1 3 #[25, 40, 57], 25) from by decide +kernel) 1 c18 (off := 25) (tgt := 96) (by decide) ?_
    refine x_run C e_X4_changeBit_8 e_X4_changeBit_8_k (pc' := 105) (lv' := [(0, .ref 12), (2, .int x2), (3, .int x3), (4, .int x4)]) (st' := [.int (x4 ^^^ x3), .int x2, .ref 10]) (σ' := (q12, L)) rfl ⟨trivial, trivial, trivial, trivial, trivial, trivial, trivial⟩ ?_
    refine x_callV C (k := 10) (ci := 4) (rest := []) (avs := [.int x2, .int (x4 ^^^ x3)]) (k_X6_write l x2 (x4 ^^^ x3) q12 L hI14) yoX6_write ml_X4_253 rfl rfl rfl rfl ⟨Nat.zero_le _, Nat.zero_le _⟩ (show decode cX4_changeBit 105 = .ok (.invokevirtual 253, 3) from by decide +kernel) rfl (fun v σ' hPo => ?_)
    obtain ⟨⟨rfl, rfl⟩, hI21⟩ := hPo
    generalize hq19 : f_X6_write x2 (x4 ^^^ x3) q12 = q19 at h hI21 ⊢
    have h := xb_eq h
    show V 0 0 108 [(0, .ref 12), (2, .int x2), (3, .int x3), (4, .int x4)] [] LAY (q19, L)
    refine x_goto C (show decode cX4_changeBit 108 = .ok (.goto 35, 3) from by decide +kernel) (tgt := 143) (by decide) ?_
    subst h
    exact x_vret C (show decode cX4_changeBit 143 = .ok (.return_, 1) from by decide +kernel) (x_finV ⟨⟨rfl, rfl⟩, hI21⟩) (Nat.le_refl 0) (Nat.le_refl 0)
  rw [if_neg c18] at h
  by_cases c22 : (f_X3_z  q12) = 2
  · rw [if_pos c22] at h
    refine x_tin C (show decode cX4_changeBit 71 = .ok (.tableswitch 72 1 3 #[25, 40, 57], 25) from by decide +kernel) 2 c22 (off := 40) (tgt := 111) (by decide) ?_
    refine x_run C e_X4_changeBit_9 e_X4_changeBit_9_k (pc' := 122) (lv' := [(0, .ref 12), (2, .int x2), (3, .int x3), (4, .int x4)]) (st' := [.int (x4 &&& (x3 ^^^ (-1))), .int x2, .ref 10]) (σ' := (q12, L)) rfl ⟨trivial, trivial, trivial, trivial, trivial, trivial, trivial, trivial, trivial⟩ ?_
    refine x_callV C (k := 10) (ci := 4) (rest := []) (avs := [.int x2, .int (x4 &&& (x3 ^^^ (-1)))]) (k_X6_write l x2 (x4 &&& (x3 ^^^ (-1))) q12 L hI14) yoX6_write ml_X4_253 rfl rfl rfl rfl ⟨Nat.zero_le _, Nat.zero_le _⟩ (show decode cX4_changeBit 122 = .ok (.invokevirtual 253, 3) from by decide +kernel) rfl (fun v σ' hPo => ?_)
    obtain ⟨⟨rfl, rfl⟩, hI25⟩ := hPo
    generalize hq23 : f_X6_write x2 (x4 &&& (x3 ^^^ (-1))) q12 = q23 at h hI25 ⊢
    have h := xb_eq h
    show V 0 0 125 [(0, .ref 12), (2, .int x2), (3, .int x3), (4, .int x4)] [] LAY (q23, L)
    refine x_goto C (show decode cX4_changeBit 125 = .ok (.goto 18, 3) from by decide +kernel) (tgt := 143) (by decide) ?_
    subst h
    exact x_vret C (show decode cX4_changeBit 143 = .ok (.return_, 1) from by decide +kernel) (x_finV ⟨⟨rfl, rfl⟩, hI25⟩) (Nat.le_refl 0) (Nat.le_refl 0)
  rw [if_neg c22] at h
  by_cases c26 : (f_X3_z  q12) = 3
  · rw [if_pos c26] at h
    refine x_tin C (show decode cX4_changeBit 71 = .ok (.tableswitch 72 1 3 #[25, 40, 57], 25) from by decide +kernel) 3 c26 (off := 57) (tgt := 128) (by decide) ?_
    refine x_run C e_X4_changeBit_10 e_X4_changeBit_10_k (pc' := 137) (lv' := [(0, .ref 12), (2, .int x2), (3, .int x3), (4, .int x4)]) (st' := [.int (x4 ||| x3), .int x2, .ref 10]) (σ' := (q12, L)) rfl ⟨trivial, trivial, trivial, trivial, trivial, trivial, trivial⟩ ?_
    refine x_callV C (k := 10) (ci := 4) (rest := []) (avs := [.int x2, .int (x4 ||| x3)]) (k_X6_write l x2 (x4 ||| x3) q12 L hI14) yoX6_write ml_X4_253 rfl rfl rfl rfl ⟨Nat.zero_le _, Nat.zero_le _⟩ (show decode cX4_changeBit 137 = .ok (.invokevirtual 253, 3) from by decide +kernel) rfl (fun v σ' hPo => ?_)
    obtain ⟨⟨rfl, rfl⟩, hI29⟩ := hPo
    generalize hq27 : f_X6_write x2 (x4 ||| x3) q12 = q27 at h hI29 ⊢
    have h := xb_eq h
    show V 0 0 140 [(0, .ref 12), (2, .int x2), (3, .int x3), (4, .int x4)] [] LAY (q27, L)
    refine x_goto C (show decode cX4_changeBit 140 = .ok (.goto 3, 3) from by decide +kernel) (tgt := 143) (by decide) ?_
    subst h
    exact x_vret C (show decode cX4_changeBit 143 = .ok (.return_, 1) from by decide +kernel) (x_finV ⟨⟨rfl, rfl⟩, hI29⟩) (Nat.le_refl 0) (Nat.le_refl 0)
  rw [if_neg c26] at h
  have hz : (f_X3_z  q12).toInt < 1 ∨ 3 < (f_X3_z  q12).toInt := by
    have zc18 := lv_neT (a := 1) c18 (by decide)
    have zc22 := lv_neT (a := 2) c22 (by decide)
    have zc26 := lv_neT (a := 3) c26 (by decide)
    omega
  refine x_tout C (show decode cX4_changeBit 71 = .ok (.tableswitch 72 1 3 #[25, 40, 57], 25) from by decide +kernel) hz (tgt := 143) (by decide) ?_
  subst h
  exact x_vret C (show decode cX4_changeBit 143 = .ok (.return_, 1) from by decide +kernel) (x_finV ⟨⟨rfl, rfl⟩, hI14⟩) (Nat.le_refl 0) (Nat.le_refl 0)
set_option maxRecDepth 20000 in
set_option maxHeartbeats 4000000 in
theorem k_X4_changeBit (l : Launch) (a1 : Int32) (M : St) (L : Nat → Nat → Int64) (hI : InvK INVC M) : XM l yX4_changeBit cX4_changeBit 5 none R_X4_changeBit LAY [.ref 12, .int a1] (M, L) (P_X4_changeBit (f_X4_changeBit a1 M) L) := by
  refine XM.of (by decide) (Nat.le_of_ble_eq_true rfl) LAY_in cl_ok fl_X4_ok kc_X4_ok (fun V C => ?_)
  obtain ⟨r, h⟩ : ∃ r, f_X4_changeBit a1 M = r := ⟨_, rfl⟩
  rw [h] at C
  change C_X4_changeBit l r L V at C
  unfold f_X4_changeBit at h
  show V 0 0 0 [(0, .ref 12), (1, .int a1)] [] LAY (M, L)
  refine x_run C e_X4_changeBit_1 e_X4_changeBit_1_k (pc' := 11) (lv' := [(2, .int (M 11 1)), (0, .ref 12), (1, .int a1)]) (st' := [.int (M 11 1), .int a1, .int 1]) (σ' := (M, L)) rfl ⟨trivial, trivial, trivial, trivial, trivial, trivial, trivial, trivial⟩ ?_
  refine x_callSN C (rest := [.int a1, .int 1]) (avs := [.int (M 11 1)]) (k_X10_bitsOf l (M 11 1) M L) yoX10_bitsOf ml_X4_282 rfl ⟨Nat.zero_le _, Nat.zero_le _⟩ (show decode cX4_changeBit 11 = .ok (.invokestatic 282, 3) from by decide +kernel) rfl (fun v σ' hPo => ?_)
  obtain ⟨⟨rfl, rfl⟩, g2, -⟩ := hPo
  show V 0 0 14 [(2, .int (M 11 1)), (0, .ref 12), (1, .int a1)] [.int (f_X10_bitsOf (M 11 1)), .int a1, .int 1] LAY (M, L)
  refine x_run C e_X4_changeBit_2 e_X4_changeBit_2_k (pc' := 31) (lv' := [(3, .int ((1 : Int32) <<< ((a1 &&& ((f_X10_bitsOf (M 11 1)) - 1)) &&& 31))), (2, .int (M 11 1)), (0, .ref 12), (1, .int a1)]) (st' := [.int (M 11 1), .int (M 11 3), .ref 10]) (σ' := (M, L)) rfl ⟨trivial, trivial, trivial, trivial, trivial, trivial, trivial, trivial, trivial, trivial, trivial, trivial⟩ ?_
  refine x_callV C (k := 10) (ci := 4) (rest := []) (avs := [.int (M 11 3), .int (M 11 1)]) (k_X6_find l (M 11 3) (M 11 1) M L hI) yoX6_find ml_X4_241 rfl rfl rfl rfl ⟨Nat.zero_le _, Nat.zero_le _⟩ (show decode cX4_changeBit 31 = .ok (.invokevirtual 241, 3) from by decide +kernel) rfl (fun v σ' hPo => ?_)
  obtain ⟨⟨rfl, rfl⟩, hI6⟩ := hPo
  generalize hq4 : f_X6_find (M 11 3) (M 11 1) M = q4 at h hI6 ⊢
  have h := xb_eq h
  show V 0 0 34 [(3, .int ((1 : Int32) <<< ((a1 &&& ((f_X10_bitsOf (M 11 1)) - 1)) &&& 31))), (2, .int (M 11 1)), (0, .ref 12), (1, .int a1)] [] LAY (q4, L)
  refine x_run C e_X4_changeBit_3 e_X4_changeBit_3_k (pc' := 39) (lv' := [(3, .int ((1 : Int32) <<< ((a1 &&& ((f_X10_bitsOf (M 11 1)) - 1)) &&& 31))), (2, .int (M 11 1)), (0, .ref 12), (1, .int a1)]) (st' := [.int (M 11 1), .ref 10]) (σ' := (q4, L)) rfl ⟨trivial, trivial, trivial, trivial⟩ ?_
  refine x_callV C (k := 10) (ci := 4) (rest := []) (avs := [.int (M 11 1)]) (k_X6_read l (M 11 1) q4 L hI6) yoX6_read ml_X4_244 rfl rfl rfl rfl ⟨Nat.zero_le _, Nat.zero_le _⟩ (show decode cX4_changeBit 39 = .ok (.invokevirtual 244, 3) from by decide +kernel) rfl (fun v σ' hPo => ?_)
  obtain ⟨⟨rfl, rfl⟩, g8, hI9⟩ := hPo
  generalize hq7 : f_X6_read (M 11 1) q4 = q7 at h g8 hI9 ⊢
  obtain ⟨r7, M7⟩ := q7
  have h := xb_eq h
  try dsimp only at h g8 hI9
  show V 0 0 42 [(3, .int ((1 : Int32) <<< ((a1 &&& ((f_X10_bitsOf (M 11 1)) - 1)) &&& 31))), (2, .int (M 11 1)), (0, .ref 12), (1, .int a1)] [.int r7] LAY (M7, L)
  refine x_run C e_X4_changeBit_4 e_X4_changeBit_4_k (pc' := 53) (lv' := [(4, .int r7), (3, .int ((1 : Int32) <<< ((a1 &&& ((f_X10_bitsOf (M 11 1)) - 1)) &&& 31))), (2, .int (M 11 1)), (0, .ref 12), (1, .int a1)]) (st' := [.int (r7 &&& ((1 : Int32) <<< ((a1 &&& ((f_X10_bitsOf (M 11 1)) - 1)) &&& 31))), .int 4, .ref 1]) (σ' := (M7, L)) rfl ⟨trivial, trivial, trivial, trivial, trivial, trivial, trivial, trivial⟩ ?_
  refine x_if_ne C (show decode cX4_changeBit 53 = .ok (.ifCond .ne 7, 3) from by decide +kernel) (tgt := 60) (by decide) (fun c10 => ?_) (fun c10 => ?_)
  · rw [if_neg c10] at h
    refine x_run C e_X4_changeBit_5 e_X4_changeBit_5_k (pc' := 61) (lv' := [(4, .int r7), (3, .int ((1 : Int32) <<< ((a1 &&& ((f_X10_bitsOf (M 11 1)) - 1)) &&& 31))), (2, .int (M 11 1)), (0, .ref 12), (1, .int a1)]) (st' := [.int 0, .int 4, .ref 1]) (σ' := (M7, L)) rfl ⟨trivial, trivial⟩ ?_
    refine x_lv C [3, 2, 1, 0] rfl ?_
    exact b_X4_changeBit_61 r C (M 11 1) ((1 : Int32) <<< ((a1 &&& ((f_X10_bitsOf (M 11 1)) - 1)) &&& 31)) r7 0 4 M7 (x_rg_1shl (a1 &&& ((f_X10_bitsOf (M 11 1)) - 1))) (x_rgw (x_rgc (x := 0) (k := 0) (by decide)) (lo' := 0) (hi' := 4) (by decide) (by decide)) (x_rgc (x := 4) (k := 4) (by decide)) hI9 h
  · rw [if_pos c10] at h
    have g11 : xrg 0 0 (r7 &&& ((1 : Int32) <<< ((a1 &&& ((f_X10_bitsOf (M 11 1)) - 1)) &&& 31))) := (x_c_eq (x_rgt (r7 &&& ((1 : Int32) <<< ((a1 &&& ((f_X10_bitsOf (M 11 1)) - 1)) &&& 31)))) (x_rgc (x := 0) (k := 0) (by decide)) c10).1
    refine x_run C e_X4_changeBit_6 e_X4_changeBit_6_k (pc' := 57) (lv' := [(4, .int r7), (3, .int ((1 : Int32) <<< ((a1 &&& ((f_X10_bitsOf (M 11 1)) - 1)) &&& 31))), (2, .int (M 11 1)), (0, .ref 12), (1, .int a1)]) (st' := [.int 4, .int 4, .ref 1]) (σ' := (M7, L)) rfl ⟨trivial, trivial⟩ ?_
    refine x_goto C (show decode cX4_changeBit 57 = .ok (.goto 4, 3) from by decide +kernel) (tgt := 61) (by decide) ?_
    refine x_lv C [3, 2, 1, 0] rfl ?_
    exact b_X4_changeBit_61 r C (M 11 1) ((1 : Int32) <<< ((a1 &&& ((f_X10_bitsOf (M 11 1)) - 1)) &&& 31)) r7 4 4 M7 (x_rg_1shl (a1 &&& ((f_X10_bitsOf (M 11 1)) - 1))) (x_rgw (x_rgc (x := 4) (k := 4) (by decide)) (lo' := 0) (hi' := 4) (by decide) (by decide)) (x_rgc (x := 4) (k := 4) (by decide)) hI9 h
-- X1_shifted
def e_X1_shifted_1 : List xI := [(0, .iload_n 2, 1, .null)]
theorem e_X1_shifted_1_k : e_X1_shifted_1.all (fun q => xokB cX1_shifted q && xokL q) = true := by decide +kernel
def e_X1_shifted_2 : List xI := [(4, .iconst 1, 1, .int 1), (5, .isub, 1, .null), (6, .istore 6, 2, .null), (8, .aload_n 0, 1, .null)]
theorem e_X1_shifted_2_k : e_X1_shifted_2.all (fun q => xokB cX1_shifted q && xokL q) = true := by decide +kernel
def e_X1_shifted_3 : List xI := [(12, .istore 7, 2, .null), (14, .iload_n 3, 1, .null), (15, .iconst 2, 1, .int 2)]
theorem e_X1_shifted_3_k : e_X1_shifted_3.all (fun q => xokB cX1_shifted q && xokL q) = true := by decide +kernel
def e_X1_shifted_4 : List xI := [(24, .iconst 0, 1, .int 0)]
theorem e_X1_shifted_4_k : e_X1_shifted_4.all (fun q => xokB cX1_shifted q && xokL q) = true := by decide +kernel
def e_X1_shifted_5 : List xI := [(19, .iload 7, 2, .null)]
theorem e_X1_shifted_5_k : e_X1_shifted_5.all (fun q => xokB cX1_shifted q && xokL q) = true := by decide +kernel
def e_X1_shifted_6 : List xI := [(25, .istore 8, 2, .null), (27, .iload_n 1, 1, .null), (28, .istore 9, 2, .null), (30, .iconst 0, 1, .int 0), (31, .istore 10, 2, .null), (33, .iconst 0, 1, .int 0), (34, .istore 11, 2, .null)]
theorem e_X1_shifted_6_k : e_X1_shifted_6.all (fun q => xokB cX1_shifted q && xokL q) = true := by decide +kernel
def e_X1_shifted_7 : List xI := [(36, .iload 11, 2, .null), (38, .iload 5, 2, .null)]
theorem e_X1_shifted_7_k : e_X1_shifted_7.all (fun q => xokB cX1_shifted q && xokL q) = true := by decide +kernel
def e_X1_shifted_8 : List xI := [(175, .iload_n 3, 1, .null)]
theorem e_X1_shifted_8_k : e_X1_shifted_8.all (fun q => xokB cX1_shifted q && xokL q) = true := by decide +kernel
def e_X1_shifted_9 : List xI := [(179, .iload 4, 2, .null)]
theorem e_X1_shifted_9_k : e_X1_shifted_9.all (fun q => xokB cX1_shifted q && xokL q) = true := by decide +kernel
def e_X1_shifted_10 : List xI := [(184, .iload 10, 2, .null), (186, .iload 6, 2, .null), (188, .iushr, 1, .null), (189, .iconst 1, 1, .int 1), (190, .iand, 1, .null)]
theorem e_X1_shifted_10_k : e_X1_shifted_10.all (fun q => xokB cX1_shifted q && xokL q) = true := by decide +kernel
def e_X1_shifted_11 : List xI := [(194, .iconst 1, 1, .int 1)]
theorem e_X1_shifted_11_k : e_X1_shifted_11.all (fun q => xokB cX1_shifted q && xokL q) = true := by decide +kernel
def e_X1_shifted_12 : List xI := [(43, .iload 9, 2, .null), (45, .iload 6, 2, .null), (47, .iushr, 1, .null), (48, .iconst 1, 1, .int 1), (49, .iand, 1, .null), (50, .istore 12, 2, .null), (52, .iload 4, 2, .null)]
theorem e_X1_shifted_12_k : e_X1_shifted_12.all (fun q => xokB cX1_shifted q && xokL q) = true := by decide +kernel
def e_X1_shifted_13 : List xI := [(62, .iload 9, 2, .null), (64, .iconst 1, 1, .int 1), (65, .iand, 1, .null)]
theorem e_X1_shifted_13_k : e_X1_shifted_13.all (fun q => xokB cX1_shifted q && xokL q) = true := by decide +kernel
def e_X1_shifted_14 : List xI := [(57, .iload 12, 2, .null)]
theorem e_X1_shifted_14_k : e_X1_shifted_14.all (fun q => xokB cX1_shifted q && xokL q) = true := by decide +kernel
def e_X1_shifted_15 : List xI := [(198, .iconst 0, 1, .int 0)]
theorem e_X1_shifted_15_k : e_X1_shifted_15.all (fun q => xokB cX1_shifted q && xokL q) = true := by decide +kernel
def e_X1_shifted_16 : List xI := [(199, .istore 11, 2, .null), (201, .aload_n 0, 1, .null), (202, .getfield 9, 3, .null), (205, .bipush 31, 2, .int 31), (207, .iload 9, 2, .null), (209, .iload_n 2, 1, .null)]
theorem e_X1_shifted_16_k : e_X1_shifted_16.all (fun q => xokB cX1_shifted q && xokL q) = true := by decide +kernel
def e_X1_shifted_17 : List xI := [(213, .iload 8, 2, .null), (215, .iconst 1, 1, .int 1), (216, .imul, 1, .null), (217, .ior, 1, .null), (218, .iload 7, 2, .null), (220, .bipush 16, 2, .int 16), (222, .imul, 1, .null), (223, .ior, 1, .null), (224, .iload 11, 2, .null)]
theorem e_X1_shifted_17_k : e_X1_shifted_17.all (fun q => xokB cX1_shifted q && xokL q) = true := by decide +kernel
def e_X1_shifted_18 : List xI := [(233, .iconst 0, 1, .int 0)]
theorem e_X1_shifted_18_k : e_X1_shifted_18.all (fun q => xokB cX1_shifted q && xokL q) = true := by decide +kernel
def e_X1_shifted_19 : List xI := [(229, .iconst 2, 1, .int 2)]
theorem e_X1_shifted_19_k : e_X1_shifted_19.all (fun q => xokB cX1_shifted q && xokL q) = true := by decide +kernel
def e_X1_shifted_20 : List xI := [(66, .istore 13, 2, .null), (68, .iload_n 3, 1, .null), (69, .iconst 2, 1, .int 2)]
theorem e_X1_shifted_20_k : e_X1_shifted_20.all (fun q => xokB cX1_shifted q && xokL q) = true := by decide +kernel
def e_X1_shifted_21 : List xI := [(78, .iload_n 3, 1, .null), (79, .iconst 3, 1, .int 3)]
theorem e_X1_shifted_21_k : e_X1_shifted_21.all (fun q => xokB cX1_shifted q && xokL q) = true := by decide +kernel
def e_X1_shifted_22 : List xI := [(88, .iload_n 3, 1, .null)]
theorem e_X1_shifted_22_k : e_X1_shifted_22.all (fun q => xokB cX1_shifted q && xokL q) = true := by decide +kernel
def e_X1_shifted_23 : List xI := [(92, .iload 4, 2, .null)]
theorem e_X1_shifted_23_k : e_X1_shifted_23.all (fun q => xokB cX1_shifted q && xokL q) = true := by decide +kernel
def e_X1_shifted_24 : List xI := [(97, .iload 12, 2, .null)]
theorem e_X1_shifted_24_k : e_X1_shifted_24.all (fun q => xokB cX1_shifted q && xokL q) = true := by decide +kernel
def e_X1_shifted_25 : List xI := [(83, .iload 13, 2, .null)]
theorem e_X1_shifted_25_k : e_X1_shifted_25.all (fun q => xokB cX1_shifted q && xokL q) = true := by decide +kernel
def e_X1_shifted_26 : List xI := [(73, .iload 7, 2, .null)]
theorem e_X1_shifted_26_k : e_X1_shifted_26.all (fun q => xokB cX1_shifted q && xokL q) = true := by decide +kernel
def e_X1_shifted_27 : List xI := [(234, .ior, 1, .null)]
theorem e_X1_shifted_27_k : e_X1_shifted_27.all (fun q => xokB cX1_shifted q && xokL q) = true := by decide +kernel
def e_X1_shifted_28 : List xI := [(238, .iload 9, 2, .null)]
theorem e_X1_shifted_28_k : e_X1_shifted_28.all (fun q => xokB cX1_shifted q && xokL q) = true := by decide +kernel
def e_X1_shifted_29 : List xI := [(102, .iconst 0, 1, .int 0)]
theorem e_X1_shifted_29_k : e_X1_shifted_29.all (fun q => xokB cX1_shifted q && xokL q) = true := by decide +kernel
def e_X1_shifted_30 : List xI := [(103, .istore 14, 2, .null), (105, .iload 4, 2, .null)]
theorem e_X1_shifted_30_k : e_X1_shifted_30.all (fun q => xokB cX1_shifted q && xokL q) = true := by decide +kernel
def e_X1_shifted_31 : List xI := [(125, .iload 9, 2, .null), (127, .iconst 1, 1, .int 1), (128, .iushr, 1, .null), (129, .iload 14, 2, .null), (131, .iload 6, 2, .null), (133, .ishl, 1, .null), (134, .ior, 1, .null)]
theorem e_X1_shifted_31_k : e_X1_shifted_31.all (fun q => xokB cX1_shifted q && xokL q) = true := by decide +kernel
def e_X1_shifted_32 : List xI := [(110, .iload 9, 2, .null), (112, .iconst 1, 1, .int 1), (113, .ishl, 1, .null), (114, .iload 14, 2, .null), (116, .ior, 1, .null), (117, .iload_n 2, 1, .null)]
theorem e_X1_shifted_32_k : e_X1_shifted_32.all (fun q => xokB cX1_shifted q && xokL q) = true := by decide +kernel
def e_X1_shifted_33 : List xI := [(121, .iand, 1, .null)]
theorem e_X1_shifted_33_k : e_X1_shifted_33.all (fun q => xokB cX1_shifted q && xokL q) = true := by decide +kernel
def e_X1_shifted_34 : List xI := [(135, .istore 15, 2, .null), (137, .iload 10, 2, .null), (139, .iload 9, 2, .null), (141, .iload 15, 2, .null), (143, .ixor, 1, .null), (144, .ior, 1, .null), (145, .istore 10, 2, .null), (147, .iload 15, 2, .null), (149, .istore 9, 2, .null), (151, .iload 13, 2, .null), (153, .istore 8, 2, .null), (155, .iload_n 3, 1, .null), (156, .iconst 3, 1, .int 3)]
theorem e_X1_shifted_34_k : e_X1_shifted_34.all (fun q => xokB cX1_shifted q && xokL q) = true := by decide +kernel
def e_X1_shifted_35 : List xI := [(165, .iload 13, 2, .null)]
theorem e_X1_shifted_35_k : e_X1_shifted_35.all (fun q => xokB cX1_shifted q && xokL q) = true := by decide +kernel
def e_X1_shifted_36 : List xI := [(160, .iload 7, 2, .null)]
theorem e_X1_shifted_36_k : e_X1_shifted_36.all (fun q => xokB cX1_shifted q && xokL q) = true := by decide +kernel
def e_X1_shifted_37 : List xI := [(167, .istore 7, 2, .null), (169, .iinc 11 1, 3, .null)]
theorem e_X1_shifted_37_k : e_X1_shifted_37.all (fun q => xokB cX1_shifted q && xokL q) = true := by decide +kernel
abbrev P_X1_shifted (r : Int32 × St) (L : Nat → Nat → Int64) : Option Value → xG → Prop := fun v σ' => PoI r.1 r.2 L v σ' ∧ True ∧ InvK INVC r.2
abbrev R_X1_shifted : Room := { frames := 2, cells := 0, slots := 0, locals := 43 }
abbrev C_X1_shifted (l : Launch) (r : Int32 × St) (L : Nat → Nat → Int64) (V : XJ) : Prop := XC l yX1_shifted.cls yX1_shifted.name cX1_shifted 16 R_X1_shifted 0 0 fl_X1 kc_X1 LAY.length (xfin (some .int) LAY (P_X1_shifted r L)) V
def f_X1_shifted_234 (x9 : Int32) (s0 : Int32) (s1 : Int32) (s2 : Int32) (M : St) : Int32 × St := (xb (f_X8_changeFlags s2 (s1 ||| s0) M) fun q38 => (x9, q38))
def f_X1_shifted_199 (x2 : Int32) (x7 : Int32) (x8 : Int32) (x9 : Int32) (s0 : Int32) (M : St) : Int32 × St := (if s0 = 0 then f_X1_shifted_234 x9 0 (((f_X1_signs x9 x2) ||| (x8 * 1)) ||| (x7 * 16)) 31 M else f_X1_shifted_234 x9 2 (((f_X1_signs x9 x2) ||| (x8 * 1)) ||| (x7 * 16)) 31 M)
def f_X1_shifted_198 (x2 : Int32) (x7 : Int32) (x8 : Int32) (x9 : Int32) (M : St) : Int32 × St := f_X1_shifted_199 x2 x7 x8 x9 0 M
def f_X1_shifted_167 (rec : Int32 → Int32 → Int32 → Int32 → Int32 → Int32 → Int32 → Int32 → Int32 → Int32 → St → Int32 × St) (x2 : Int32) (x3 : Int32) (x4 : Int32) (x5 : Int32) (x6 : Int32) (x8 : Int32) (x9 : Int32) (x10 : Int32) (x11 : Int32) (s0 : Int32) (M : St) : Int32 × St := rec x2 x3 x4 x5 x6 s0 x8 x9 x10 (x11 + 1) M
def f_X1_shifted_135 (rec : Int32 → Int32 → Int32 → Int32 → Int32 → Int32 → Int32 → Int32 → Int32 → Int32 → St → Int32 × St) (x2 : Int32) (x3 : Int32) (x4 : Int32) (x5 : Int32) (x6 : Int32) (x7 : Int32) (x9 : Int32) (x10 : Int32) (x11 : Int32) (x13 : Int32) (s0 : Int32) (M : St) : Int32 × St := (if x3 = 3 then f_X1_shifted_167 (rec) x2 x3 x4 x5 x6 x13 s0 (x10 ||| (x9 ^^^ s0)) x11 x7 M else f_X1_shifted_167 (rec) x2 x3 x4 x5 x6 x13 s0 (x10 ||| (x9 ^^^ s0)) x11 x13 M)
def f_X1_shifted_103 (rec : Int32 → Int32 → Int32 → Int32 → Int32 → Int32 → Int32 → Int32 → Int32 → Int32 → St → Int32 × St) (x2 : Int32) (x3 : Int32) (x4 : Int32) (x5 : Int32) (x6 : Int32) (x7 : Int32) (x9 : Int32) (x10 : Int32) (x11 : Int32) (x13 : Int32) (s0 : Int32) (M : St) : Int32 × St := (if x4 = 0 then f_X1_shifted_135 (rec) x2 x3 x4 x5 x6 x7 x9 x10 x11 x13 ((ius x9 1) ||| (s0 <<< (x6 &&& 31))) M else f_X1_shifted_135 (rec) x2 x3 x4 x5 x6 x7 x9 x10 x11 x13 (((x9 <<< ((1 : Int32) &&& 31)) ||| s0) &&& (f_X10_maskOf x2)) M)
def f_X1_shifted_102 (rec : Int32 → Int32 → Int32 → Int32 → Int32 → Int32 → Int32 → Int32 → Int32 → Int32 → St → Int32 × St) (x2 : Int32) (x3 : Int32) (x4 : Int32) (x5 : Int32) (x6 : Int32) (x7 : Int32) (x9 : Int32) (x10 : Int32) (x11 : Int32) (x13 : Int32) (M : St) : Int32 × St := f_X1_shifted_103 (rec) x2 x3 x4 x5 x6 x7 x9 x10 x11 x13 0 M
def f_X1_shifted_66 (rec : Int32 → Int32 → Int32 → Int32 → Int32 → Int32 → Int32 → Int32 → Int32 → Int32 → St → Int32 × St) (x2 : Int32) (x3 : Int32) (x4 : Int32) (x5 : Int32) (x6 : Int32) (x7 : Int32) (x9 : Int32) (x10 : Int32) (x11 : Int32) (x12 : Int32) (s0 : Int32) (M : St) : Int32 × St := (if x3 = 2 then f_X1_shifted_103 (rec) x2 x3 x4 x5 x6 x7 x9 x10 x11 s0 x7 M else (if x3 = 3 then f_X1_shifted_103 (rec) x2 x3 x4 x5 x6 x7 x9 x10 x11 s0 s0 M else (if x3 = 0 then (if x4 = 0 then f_X1_shifted_103 (rec) x2 x3 x4 x5 x6 x7 x9 x10 x11 s0 x12 M else f_X1_shifted_102 (rec) x2 x3 x4 x5 x6 x7 x9 x10 x11 s0 M) else f_X1_shifted_102 (rec) x2 x3 x4 x5 x6 x7 x9 x10 x11 s0 M)))
def f_X1_shifted_36 : Nat → Int32 → Int32 → Int32 → Int32 → Int32 → Int32 → Int32 → Int32 → Int32 → Int32 → St → Int32 × St
  | 0, x2, x3, x4, x5, x6, x7, x8, x9, x10, x11, M => (0, M)
  | n + 1, x2, x3, x4, x5, x6, x7, x8, x9, x10, x11, M => (if x5 ≤ x11 then (if x3 = 0 then (if x4 = 0 then f_X1_shifted_198 x2 x7 x8 x9 M else (if ((ius x10 x6) &&& 1) = 0 then f_X1_shifted_198 x2 x7 x8 x9 M else f_X1_shifted_199 x2 x7 x8 x9 1 M)) else f_X1_shifted_198 x2 x7 x8 x9 M) else (if x4 = 0 then f_X1_shifted_66 (f_X1_shifted_36 n) x2 x3 x4 x5 x6 x7 x9 x10 x11 ((ius x9 x6) &&& 1) (x9 &&& 1) M else f_X1_shifted_66 (f_X1_shifted_36 n) x2 x3 x4 x5 x6 x7 x9 x10 x11 ((ius x9 x6) &&& 1) ((ius x9 x6) &&& 1) M))
def f_X1_shifted_25 (x1 : Int32) (x2 : Int32) (x3 : Int32) (x4 : Int32) (x5 : Int32) (x6 : Int32) (x7 : Int32) (s0 : Int32) (M : St) : Int32 × St := f_X1_shifted_36 (((x5).toInt - (0 : Int32).toInt).toNat + 1) x2 x3 x4 x5 x6 x7 s0 x1 0 0 M
def f_X1_shifted (a1 : Int32) (a2 : Int32) (a3 : Int32) (a4 : Int32) (a5 : Int32) (M : St) : Int32 × St := (if a3 = 2 then f_X1_shifted_25 a1 a2 a3 a4 a5 ((f_X10_bitsOf a2) - 1) (f_X1_x  M) (f_X1_x  M) M else f_X1_shifted_25 a1 a2 a3 a4 a5 ((f_X10_bitsOf a2) - 1) (f_X1_x  M) 0 M)
set_option maxRecDepth 20000 in
set_option maxHeartbeats 4000000 in
theorem b_X1_shifted_234 {l : Launch} {L : Nat → Nat → Int64} {V : XJ} (r : Int32 × St) (C : C_X1_shifted l r L V) (x9 : Int32) (s0 : Int32) (s1 : Int32) (s2 : Int32) (M : St) (ws0 : xrg 0 2 s0) (ws2 : xrg 31 31 s2) (hI : InvK INVC M) (h : f_X1_shifted_234 x9 s0 s1 s2 M = r) : V 0 0 234 [(9, .int x9)] [.int s0, .int s1, .int s2, .ref 1] LAY (M, L) := by
  unfold f_X1_shifted_234 at h
  refine x_run C e_X1_shifted_27 e_X1_shifted_27_k (pc' := 235) (lv' := [(9, .int x9)]) (st' := [.int (s1 ||| s0), .int s2, .ref 1]) (σ' := (M, L)) rfl ⟨trivial, trivial⟩ ?_
  refine x_callV C (k := 1) (ci := 6) (rest := []) (avs := [.int s2, .int (s1 ||| s0)]) (k_X8_changeFlags l s2 (s1 ||| s0) M L hI) yoX8_changeFlags ml_X1_19 rfl rfl rfl rfl ⟨Nat.zero_le _, Nat.zero_le _⟩ (show decode cX1_shifted 235 = .ok (.invokevirtual 19, 3) from by decide +kernel) rfl (fun v σ' hPo => ?_)
  obtain ⟨⟨rfl, rfl⟩, hI40⟩ := hPo
  generalize hq38 : f_X8_changeFlags s2 (s1 ||| s0) M = q38 at h hI40 ⊢
  have h := xb_eq h
  show V 0 0 238 [(9, .int x9)] [] LAY (q38, L)
  refine x_run C e_X1_shifted_28 e_X1_shifted_28_k (pc' := 240) (lv' := [(9, .int x9)]) (st' := [.int x9]) (σ' := (q38, L)) rfl ⟨trivial, trivial⟩ ?_
  subst h
  exact x_iret C (show decode cX1_shifted 240 = .ok (.ireturn, 1) from by decide +kernel) (x_finI rfl ⟨⟨rfl, rfl⟩, trivial, hI40⟩) (Nat.le_refl 0) (Nat.le_refl 0)
set_option maxRecDepth 20000 in
set_option maxHeartbeats 4000000 in
theorem b_X1_shifted_199 {l : Launch} {L : Nat → Nat → Int64} {V : XJ} (r : Int32 × St) (C : C_X1_shifted l r L V) (x2 : Int32) (x7 : Int32) (x8 : Int32) (x9 : Int32) (s0 : Int32) (M : St) (wx7 : xrg 0 1 x7) (wx8 : xrg 0 1 x8) (ws0 : xrg 0 1 s0) (hI : InvK INVC M) (h : f_X1_shifted_199 x2 x7 x8 x9 s0 M = r) : V 0 0 199 [(0, .ref 13), (2, .int x2), (7, .int x7), (8, .int x8), (9, .int x9)] [.int s0] LAY (M, L) := by
  unfold f_X1_shifted_199 at h
  refine x_run C e_X1_shifted_16 e_X1_shifted_16_k (pc' := 210) (lv' := [(11, .int s0), (0, .ref 13), (2, .int x2), (7, .int x7), (8, .int x8), (9, .int x9)]) (st' := [.int x2, .int x9, .int 31, .ref 1]) (σ' := (M, L)) rfl ⟨trivial, trivial, trivial, trivial, trivial, trivial, trivial⟩ ?_
  refine x_callS C (rest := [.int 31, .ref 1]) (avs := [.int x9, .int x2]) (k_X1_signs l x9 x2 M L) yoX1_signs ml_X1_15 rfl ⟨Nat.zero_le _, Nat.zero_le _⟩ (show decode cX1_shifted 210 = .ok (.invokestatic 15, 3) from by decide +kernel) rfl (fun v σ' hPo => ?_)
  obtain ⟨⟨rfl, rfl⟩, g25, -⟩ := hPo
  show V 0 0 213 [(11, .int s0), (0, .ref 13), (2, .int x2), (7, .int x7), (8, .int x8), (9, .int x9)] [.int (f_X1_signs x9 x2), .int 31, .ref 1] LAY (M, L)
  refine x_run C e_X1_shifted_17 e_X1_shifted_17_k (pc' := 226) (lv' := [(11, .int s0), (0, .ref 13), (2, .int x2), (7, .int x7), (8, .int x8), (9, .int x9)]) (st' := [.int s0, .int (((f_X1_signs x9 x2) ||| (x8 * 1)) ||| (x7 * 16)), .int 31, .ref 1]) (σ' := (M, L)) rfl ⟨trivial, trivial, trivial, trivial, trivial, trivial, trivial, trivial, trivial, trivial⟩ ?_
  refine x_if_eq C (show decode cX1_shifted 226 = .ok (.ifCond .eq 7, 3) from by decide +kernel) (tgt := 233) (by decide) (fun c27 => ?_) (fun c27 => ?_)
  · rw [if_pos c27] at h
    have g28 : xrg 0 0 s0 := (x_c_eq ws0 (x_rgc (x := 0) (k := 0) (by decide)) c27).1
    refine x_run C e_X1_shifted_18 e_X1_shifted_18_k (pc' := 234) (lv' := [(11, .int s0), (0, .ref 13), (2, .int x2), (7, .int x7), (8, .int x8), (9, .int x9)]) (st' := [.int 0, .int (((f_X1_signs x9 x2) ||| (x8 * 1)) ||| (x7 * 16)), .int 31, .ref 1]) (σ' := (M, L)) rfl ⟨trivial, trivial⟩ ?_
    refine x_lv C [5] rfl ?_
    exact b_X1_shifted_234 r C x9 0 (((f_X1_signs x9 x2) ||| (x8 * 1)) ||| (x7 * 16)) 31 M (x_rgw (x_rgc (x := 0) (k := 0) (by decide)) (lo' := 0) (hi' := 2) (by decide) (by decide)) (x_rgc (x := 31) (k := 31) (by decide)) hI h
  · rw [if_neg c27] at h
    have g29 : xrg 1 1 s0 := (x_c_ne ws0 (by decide) c27)
    refine x_run C e_X1_shifted_19 e_X1_shifted_19_k (pc' := 230) (lv' := [(11, .int s0), (0, .ref 13), (2, .int x2), (7, .int x7), (8, .int x8), (9, .int x9)]) (st' := [.int 2, .int (((f_X1_signs x9 x2) ||| (x8 * 1)) ||| (x7 * 16)), .int 31, .ref 1]) (σ' := (M, L)) rfl ⟨trivial, trivial⟩ ?_
    refine x_goto C (show decode cX1_shifted 230 = .ok (.goto 4, 3) from by decide +kernel) (tgt := 234) (by decide) ?_
    refine x_lv C [5] rfl ?_
    exact b_X1_shifted_234 r C x9 2 (((f_X1_signs x9 x2) ||| (x8 * 1)) ||| (x7 * 16)) 31 M (x_rgw (x_rgc (x := 2) (k := 2) (by decide)) (lo' := 0) (hi' := 2) (by decide) (by decide)) (x_rgc (x := 31) (k := 31) (by decide)) hI h
set_option maxRecDepth 20000 in
set_option maxHeartbeats 4000000 in
theorem b_X1_shifted_198 {l : Launch} {L : Nat → Nat → Int64} {V : XJ} (r : Int32 × St) (C : C_X1_shifted l r L V) (x2 : Int32) (x7 : Int32) (x8 : Int32) (x9 : Int32) (M : St) (wx7 : xrg 0 1 x7) (wx8 : xrg 0 1 x8) (hI : InvK INVC M) (h : f_X1_shifted_198 x2 x7 x8 x9 M = r) : V 0 0 198 [(0, .ref 13), (2, .int x2), (7, .int x7), (8, .int x8), (9, .int x9)] [] LAY (M, L) := by
  unfold f_X1_shifted_198 at h
  refine x_run C e_X1_shifted_15 e_X1_shifted_15_k (pc' := 199) (lv' := [(0, .ref 13), (2, .int x2), (7, .int x7), (8, .int x8), (9, .int x9)]) (st' := [.int 0]) (σ' := (M, L)) rfl ⟨trivial, trivial⟩ ?_
  exact b_X1_shifted_199 r C x2 x7 x8 x9 0 M wx7 wx8 (x_rgw (x_rgc (x := 0) (k := 0) (by decide)) (lo' := 0) (hi' := 1) (by decide) (by decide)) hI h
set_option maxRecDepth 20000 in
set_option maxHeartbeats 4000000 in
theorem b_X1_shifted_167 {l : Launch} {L : Nat → Nat → Int64} {V : XJ} (r : Int32 × St) (C : C_X1_shifted l r L V) (n : Nat) (rec : Int32 → Int32 → Int32 → Int32 → Int32 → Int32 → Int32 → Int32 → Int32 → Int32 → St → Int32 × St) (hrec : ∀ (x2 : Int32) (x3 : Int32) (x4 : Int32) (x5 : Int32) (x6 : Int32) (x7 : Int32) (x8 : Int32) (x9 : Int32) (x10 : Int32) (x11 : Int32) (M : St), xrg 0 1 x7 → xrg 0 1 x8 → InvK INVC M → ((x5).toInt - x11.toInt).toNat < n → rec x2 x3 x4 x5 x6 x7 x8 x9 x10 x11 M = r → V 0 0 36 [(0, .ref 13), (2, .int x2), (3, .int x3), (4, .int x4), (5, .int x5), (6, .int x6), (7, .int x7), (8, .int x8), (9, .int x9), (10, .int x10), (11, .int x11)] [] LAY (M, L)) (x2 : Int32) (x3 : Int32) (x4 : Int32) (x5 : Int32) (x6 : Int32) (x8 : Int32) (x9 : Int32) (x10 : Int32) (x11 : Int32) (s0 : Int32) (M : St) (wx8 : xrg 0 1 x8) (ws0 : xrg 0 1 s0) (hI : InvK INVC M) (hk : ((x5).toInt - (x11 + 1).toInt).toNat < n) (h : f_X1_shifted_167 rec x2 x3 x4 x5 x6 x8 x9 x10 x11 s0 M = r) : V 0 0 167 [(0, .ref 13), (2, .int x2), (3, .int x3), (4, .int x4), (5, .int x5), (6, .int x6), (8, .int x8), (9, .int x9), (10, .int x10), (11, .int x11)] [.int s0] LAY (M, L) := by
  unfold f_X1_shifted_167 at h
  refine x_run C e_X1_shifted_37 e_X1_shifted_37_k (pc' := 172) (lv' := [(11, .int (x11 + 1)), (7, .int s0), (0, .ref 13), (2, .int x2), (3, .int x3), (4, .int x4), (5, .int x5), (6, .int x6), (8, .int x8), (9, .int x9), (10, .int x10)]) (st' := []) (σ' := (M, L)) rfl ⟨trivial, trivial, trivial⟩ ?_
  refine x_goto C (show decode cX1_shifted 172 = .ok (.goto (-136), 3) from by decide +kernel) (tgt := 36) (by decide) ?_
  refine x_lv C [2, 3, 4, 5, 6, 7, 1, 8, 9, 10, 0] rfl ?_
  exact hrec x2 x3 x4 x5 x6 s0 x8 x9 x10 (x11 + 1) M ws0 wx8 hI (hk) h
set_option maxRecDepth 20000 in
set_option maxHeartbeats 4000000 in
theorem b_X1_shifted_135 {l : Launch} {L : Nat → Nat → Int64} {V : XJ} (r : Int32 × St) (C : C_X1_shifted l r L V) (n : Nat) (rec : Int32 → Int32 → Int32 → Int32 → Int32 → Int32 → Int32 → Int32 → Int32 → Int32 → St → Int32 × St) (hrec : ∀ (x2 : Int32) (x3 : Int32) (x4 : Int32) (x5 : Int32) (x6 : Int32) (x7 : Int32) (x8 : Int32) (x9 : Int32) (x10 : Int32) (x11 : Int32) (M : St), xrg 0 1 x7 → xrg 0 1 x8 → InvK INVC M → ((x5).toInt - x11.toInt).toNat < n → rec x2 x3 x4 x5 x6 x7 x8 x9 x10 x11 M = r → V 0 0 36 [(0, .ref 13), (2, .int x2), (3, .int x3), (4, .int x4), (5, .int x5), (6, .int x6), (7, .int x7), (8, .int x8), (9, .int x9), (10, .int x10), (11, .int x11)] [] LAY (M, L)) (x2 : Int32) (x3 : Int32) (x4 : Int32) (x5 : Int32) (x6 : Int32) (x7 : Int32) (x9 : Int32) (x10 : Int32) (x11 : Int32) (x13 : Int32) (s0 : Int32) (M : St) (wx7 : xrg 0 1 x7) (wx13 : xrg 0 1 x13) (hI : InvK INVC M) (hk : ((x5).toInt - (x11 + 1).toInt).toNat < n) (h : f_X1_shifted_135 rec x2 x3 x4 x5 x6 x7 x9 x10 x11 x13 s0 M = r) : V 0 0 135 [(0, .ref 13), (2, .int x2), (3, .int x3), (4, .int x4), (5, .int x5), (6, .int x6), (7, .int x7), (9, .int x9), (10, .int x10), (11, .int x11), (13, .int x13)] [.int s0] LAY (M, L) := by
  unfold f_X1_shifted_135 at h
  refine x_run C e_X1_shifted_34 e_X1_shifted_34_k (pc' := 157) (lv' := [(8, .int x13), (9, .int s0), (10, .int (x10 ||| (x9 ^^^ s0))), (15, .int s0), (0, .ref 13), (2, .int x2), (3, .int x3), (4, .int x4), (5, .int x5), (6, .int x6), (7, .int x7), (11, .int x11), (13, .int x13)]) (st' := [.int 3, .int x3]) (σ' := (M, L)) rfl ⟨trivial, trivial, trivial, trivial, trivial, trivial, trivial, trivial, trivial, trivial, trivial, trivial, trivial, trivial⟩ ?_
  refine x_icmp_ne C (show decode cX1_shifted 157 = .ok (.if_icmp .ne 8, 3) from by decide +kernel) (tgt := 165) (by decide) (fun c46 => ?_) (fun c46 => ?_)
  · rw [if_neg c46] at h
    refine x_run C e_X1_shifted_35 e_X1_shifted_35_k (pc' := 167) (lv' := [(8, .int x13), (9, .int s0), (10, .int (x10 ||| (x9 ^^^ s0))), (15, .int s0), (0, .ref 13), (2, .int x2), (3, .int x3), (4, .int x4), (5, .int x5), (6, .int x6), (7, .int x7), (11, .int x11), (13, .int x13)]) (st' := [.int x13]) (σ' := (M, L)) rfl ⟨trivial, trivial⟩ ?_
    refine x_lv C [4, 5, 6, 7, 8, 9, 0, 1, 2, 11] rfl ?_
    exact b_X1_shifted_167 r C n rec hrec x2 x3 x4 x5 x6 x13 s0 (x10 ||| (x9 ^^^ s0)) x11 x13 M wx13 wx13 hI (hk) h
  · rw [if_pos c46] at h
    have g47 : xrg 3 3 x3 := (x_c_eq (x_rgt x3) (x_rgc (x := 3) (k := 3) (by decide)) c46).1
    refine x_run C e_X1_shifted_36 e_X1_shifted_36_k (pc' := 162) (lv' := [(8, .int x13), (9, .int s0), (10, .int (x10 ||| (x9 ^^^ s0))), (15, .int s0), (0, .ref 13), (2, .int x2), (3, .int x3), (4, .int x4), (5, .int x5), (6, .int x6), (7, .int x7), (11, .int x11), (13, .int x13)]) (st' := [.int x7]) (σ' := (M, L)) rfl ⟨trivial, trivial⟩ ?_
    refine x_goto C (show decode cX1_shifted 162 = .ok (.goto 5, 3) from by decide +kernel) (tgt := 167) (by decide) ?_
    refine x_lv C [4, 5, 6, 7, 8, 9, 0, 1, 2, 11] rfl ?_
    exact b_X1_shifted_167 r C n rec hrec x2 x3 x4 x5 x6 x13 s0 (x10 ||| (x9 ^^^ s0)) x11 x7 M wx13 wx7 hI (hk) h
set_option maxRecDepth 20000 in
set_option maxHeartbeats 4000000 in
theorem b_X1_shifted_103 {l : Launch} {L : Nat → Nat → Int64} {V : XJ} (r : Int32 × St) (C : C_X1_shifted l r L V) (n : Nat) (rec : Int32 → Int32 → Int32 → Int32 → Int32 → Int32 → Int32 → Int32 → Int32 → Int32 → St → Int32 × St) (hrec : ∀ (x2 : Int32) (x3 : Int32) (x4 : Int32) (x5 : Int32) (x6 : Int32) (x7 : Int32) (x8 : Int32) (x9 : Int32) (x10 : Int32) (x11 : Int32) (M : St), xrg 0 1 x7 → xrg 0 1 x8 → InvK INVC M → ((x5).toInt - x11.toInt).toNat < n → rec x2 x3 x4 x5 x6 x7 x8 x9 x10 x11 M = r → V 0 0 36 [(0, .ref 13), (2, .int x2), (3, .int x3), (4, .int x4), (5, .int x5), (6, .int x6), (7, .int x7), (8, .int x8), (9, .int x9), (10, .int x10), (11, .int x11)] [] LAY (M, L)) (x2 : Int32) (x3 : Int32) (x4 : Int32) (x5 : Int32) (x6 : Int32) (x7 : Int32) (x9 : Int32) (x10 : Int32) (x11 : Int32) (x13 : Int32) (s0 : Int32) (M : St) (wx7 : xrg 0 1 x7) (wx13 : xrg 0 1 x13) (ws0 : xrg 0 1 s0) (hI : InvK INVC M) (hk : ((x5).toInt - (x11 + 1).toInt).toNat < n) (h : f_X1_shifted_103 rec x2 x3 x4 x5 x6 x7 x9 x10 x11 x13 s0 M = r) : V 0 0 103 [(0, .ref 13), (2, .int x2), (3, .int x3), (4, .int x4), (5, .int x5), (6, .int x6), (7, .int x7), (9, .int x9), (10, .int x10), (11, .int x11), (13, .int x13)] [.int s0] LAY (M, L) := by
  unfold f_X1_shifted_103 at h
  refine x_run C e_X1_shifted_30 e_X1_shifted_30_k (pc' := 107) (lv' := [(14, .int s0), (0, .ref 13), (2, .int x2), (3, .int x3), (4, .int x4), (5, .int x5), (6, .int x6), (7, .int x7), (9, .int x9), (10, .int x10), (11, .int x11), (13, .int x13)]) (st' := [.int x4]) (σ' := (M, L)) rfl ⟨trivial, trivial, trivial⟩ ?_
  refine x_if_eq C (show decode cX1_shifted 107 = .ok (.ifCond .eq 18, 3) from by decide +kernel) (tgt := 125) (by decide) (fun c41 => ?_) (fun c41 => ?_)
  · rw [if_pos c41] at h
    have g42 : xrg 0 0 x4 := (x_c_eq (x_rgt x4) (x_rgc (x := 0) (k := 0) (by decide)) c41).1
    refine x_run C e_X1_shifted_31 e_X1_shifted_31_k (pc' := 135) (lv' := [(14, .int s0), (0, .ref 13), (2, .int x2), (3, .int x3), (4, .int x4), (5, .int x5), (6, .int x6), (7, .int x7), (9, .int x9), (10, .int x10), (11, .int x11), (13, .int x13)]) (st' := [.int ((ius x9 1) ||| (s0 <<< (x6 &&& 31)))]) (σ' := (M, L)) rfl ⟨trivial, trivial, trivial, trivial, trivial, trivial, trivial, trivial⟩ ?_
    refine x_lv C [1, 2, 3, 4, 5, 6, 7, 8, 9, 10, 11] rfl ?_
    exact b_X1_shifted_135 r C n rec hrec x2 x3 x4 x5 x6 x7 x9 x10 x11 x13 ((ius x9 1) ||| (s0 <<< (x6 &&& 31))) M wx7 wx13 hI (hk) h
  · rw [if_neg c41] at h
    refine x_run C e_X1_shifted_32 e_X1_shifted_32_k (pc' := 118) (lv' := [(14, .int s0), (0, .ref 13), (2, .int x2), (3, .int x3), (4, .int x4), (5, .int x5), (6, .int x6), (7, .int x7), (9, .int x9), (10, .int x10), (11, .int x11), (13, .int x13)]) (st' := [.int x2, .int ((x9 <<< ((1 : Int32) &&& 31)) ||| s0)]) (σ' := (M, L)) rfl ⟨trivial, trivial, trivial, trivial, trivial, trivial, trivial⟩ ?_
    refine x_callSN C (rest := [.int ((x9 <<< ((1 : Int32) &&& 31)) ||| s0)]) (avs := [.int x2]) (k_X10_maskOf l x2 M L) yoX10_maskOf ml_X1_57 rfl ⟨Nat.zero_le _, Nat.zero_le _⟩ (show decode cX1_shifted 118 = .ok (.invokestatic 57, 3) from by decide +kernel) rfl (fun v σ' hPo => ?_)
    obtain ⟨⟨rfl, rfl⟩, g44, -⟩ := hPo
    show V 0 0 121 [(14, .int s0), (0, .ref 13), (2, .int x2), (3, .int x3), (4, .int x4), (5, .int x5), (6, .int x6), (7, .int x7), (9, .int x9), (10, .int x10), (11, .int x11), (13, .int x13)] [.int (f_X10_maskOf x2), .int ((x9 <<< ((1 : Int32) &&& 31)) ||| s0)] LAY (M, L)
    refine x_run C e_X1_shifted_33 e_X1_shifted_33_k (pc' := 122) (lv' := [(14, .int s0), (0, .ref 13), (2, .int x2), (3, .int x3), (4, .int x4), (5, .int x5), (6, .int x6), (7, .int x7), (9, .int x9), (10, .int x10), (11, .int x11), (13, .int x13)]) (st' := [.int (((x9 <<< ((1 : Int32) &&& 31)) ||| s0) &&& (f_X10_maskOf x2))]) (σ' := (M, L)) rfl ⟨trivial, trivial⟩ ?_
    refine x_goto C (show decode cX1_shifted 122 = .ok (.goto 13, 3) from by decide +kernel) (tgt := 135) (by decide) ?_
    refine x_lv C [1, 2, 3, 4, 5, 6, 7, 8, 9, 10, 11] rfl ?_
    exact b_X1_shifted_135 r C n rec hrec x2 x3 x4 x5 x6 x7 x9 x10 x11 x13 (((x9 <<< ((1 : Int32) &&& 31)) ||| s0) &&& (f_X10_maskOf x2)) M wx7 wx13 hI (hk) h
set_option maxRecDepth 20000 in
set_option maxHeartbeats 4000000 in
theorem b_X1_shifted_102 {l : Launch} {L : Nat → Nat → Int64} {V : XJ} (r : Int32 × St) (C : C_X1_shifted l r L V) (n : Nat) (rec : Int32 → Int32 → Int32 → Int32 → Int32 → Int32 → Int32 → Int32 → Int32 → Int32 → St → Int32 × St) (hrec : ∀ (x2 : Int32) (x3 : Int32) (x4 : Int32) (x5 : Int32) (x6 : Int32) (x7 : Int32) (x8 : Int32) (x9 : Int32) (x10 : Int32) (x11 : Int32) (M : St), xrg 0 1 x7 → xrg 0 1 x8 → InvK INVC M → ((x5).toInt - x11.toInt).toNat < n → rec x2 x3 x4 x5 x6 x7 x8 x9 x10 x11 M = r → V 0 0 36 [(0, .ref 13), (2, .int x2), (3, .int x3), (4, .int x4), (5, .int x5), (6, .int x6), (7, .int x7), (8, .int x8), (9, .int x9), (10, .int x10), (11, .int x11)] [] LAY (M, L)) (x2 : Int32) (x3 : Int32) (x4 : Int32) (x5 : Int32) (x6 : Int32) (x7 : Int32) (x9 : Int32) (x10 : Int32) (x11 : Int32) (x13 : Int32) (M : St) (wx7 : xrg 0 1 x7) (wx13 : xrg 0 1 x13) (hI : InvK INVC M) (hk : ((x5).toInt - (x11 + 1).toInt).toNat < n) (h : f_X1_shifted_102 rec x2 x3 x4 x5 x6 x7 x9 x10 x11 x13 M = r) : V 0 0 102 [(0, .ref 13), (2, .int x2), (3, .int x3), (4, .int x4), (5, .int x5), (6, .int x6), (7, .int x7), (9, .int x9), (10, .int x10), (11, .int x11), (13, .int x13)] [] LAY (M, L) := by
  unfold f_X1_shifted_102 at h
  refine x_run C e_X1_shifted_29 e_X1_shifted_29_k (pc' := 103) (lv' := [(0, .ref 13), (2, .int x2), (3, .int x3), (4, .int x4), (5, .int x5), (6, .int x6), (7, .int x7), (9, .int x9), (10, .int x10), (11, .int x11), (13, .int x13)]) (st' := [.int 0]) (σ' := (M, L)) rfl ⟨trivial, trivial⟩ ?_
  exact b_X1_shifted_103 r C n rec hrec x2 x3 x4 x5 x6 x7 x9 x10 x11 x13 0 M wx7 wx13 (x_rgw (x_rgc (x := 0) (k := 0) (by decide)) (lo' := 0) (hi' := 1) (by decide) (by decide)) hI (hk) h
set_option maxRecDepth 20000 in
set_option maxHeartbeats 4000000 in
theorem b_X1_shifted_66 {l : Launch} {L : Nat → Nat → Int64} {V : XJ} (r : Int32 × St) (C : C_X1_shifted l r L V) (n : Nat) (rec : Int32 → Int32 → Int32 → Int32 → Int32 → Int32 → Int32 → Int32 → Int32 → Int32 → St → Int32 × St) (hrec : ∀ (x2 : Int32) (x3 : Int32) (x4 : Int32) (x5 : Int32) (x6 : Int32) (x7 : Int32) (x8 : Int32) (x9 : Int32) (x10 : Int32) (x11 : Int32) (M : St), xrg 0 1 x7 → xrg 0 1 x8 → InvK INVC M → ((x5).toInt - x11.toInt).toNat < n → rec x2 x3 x4 x5 x6 x7 x8 x9 x10 x11 M = r → V 0 0 36 [(0, .ref 13), (2, .int x2), (3, .int x3), (4, .int x4), (5, .int x5), (6, .int x6), (7, .int x7), (8, .int x8), (9, .int x9), (10, .int x10), (11, .int x11)] [] LAY (M, L)) (x2 : Int32) (x3 : Int32) (x4 : Int32) (x5 : Int32) (x6 : Int32) (x7 : Int32) (x9 : Int32) (x10 : Int32) (x11 : Int32) (x12 : Int32) (s0 : Int32) (M : St) (wx7 : xrg 0 1 x7) (wx12 : xrg 0 1 x12) (ws0 : xrg 0 1 s0) (hI : InvK INVC M) (hk : ((x5).toInt - (x11 + 1).toInt).toNat < n) (h : f_X1_shifted_66 rec x2 x3 x4 x5 x6 x7 x9 x10 x11 x12 s0 M = r) : V 0 0 66 [(0, .ref 13), (2, .int x2), (3, .int x3), (4, .int x4), (5, .int x5), (6, .int x6), (7, .int x7), (9, .int x9), (10, .int x10), (11, .int x11), (12, .int x12)] [.int s0] LAY (M, L) := by
  unfold f_X1_shifted_66 at h
  refine x_run C e_X1_shifted_20 e_X1_shifted_20_k (pc' := 70) (lv' := [(13, .int s0), (0, .ref 13), (2, .int x2), (3, .int x3), (4, .int x4), (5, .int x5), (6, .int x6), (7, .int x7), (9, .int x9), (10, .int x10), (11, .int x11), (12, .int x12)]) (st' := [.int 2, .int x3]) (σ' := (M, L)) rfl ⟨trivial, trivial, trivial, trivial⟩ ?_
  refine x_icmp_ne C (show decode cX1_shifted 70 = .ok (.if_icmp .ne 8, 3) from by decide +kernel) (tgt := 78) (by decide) (fun c30 => ?_) (fun c30 => ?_)
  · rw [if_neg c30] at h
    refine x_run C e_X1_shifted_21 e_X1_shifted_21_k (pc' := 80) (lv' := [(13, .int s0), (0, .ref 13), (2, .int x2), (3, .int x3), (4, .int x4), (5, .int x5), (6, .int x6), (7, .int x7), (9, .int x9), (10, .int x10), (11, .int x11), (12, .int x12)]) (st' := [.int 3, .int x3]) (σ' := (M, L)) rfl ⟨trivial, trivial, trivial⟩ ?_
    refine x_icmp_ne C (show decode cX1_shifted 80 = .ok (.if_icmp .ne 8, 3) from by decide +kernel) (tgt := 88) (by decide) (fun c31 => ?_) (fun c31 => ?_)
    · rw [if_neg c31] at h
      refine x_run C e_X1_shifted_22 e_X1_shifted_22_k (pc' := 89) (lv' := [(13, .int s0), (0, .ref 13), (2, .int x2), (3, .int x3), (4, .int x4), (5, .int x5), (6, .int x6), (7, .int x7), (9, .int x9), (10, .int x10), (11, .int x11), (12, .int x12)]) (st' := [.int x3]) (σ' := (M, L)) rfl ⟨trivial, trivial⟩ ?_
      refine x_if_ne C (show decode cX1_shifted 89 = .ok (.ifCond .ne 13, 3) from by decide +kernel) (tgt := 102) (by decide) (fun c32 => ?_) (fun c32 => ?_)
      · rw [if_neg c32] at h
        refine x_lv C [1, 2, 3, 4, 5, 6, 7, 8, 9, 10, 0] rfl ?_
        exact b_X1_shifted_102 r C n rec hrec x2 x3 x4 x5 x6 x7 x9 x10 x11 s0 M wx7 ws0 hI (hk) h
      · rw [if_pos c32] at h
        have g33 : xrg 0 0 x3 := (x_c_eq (x_rgt x3) (x_rgc (x := 0) (k := 0) (by decide)) c32).1
        refine x_run C e_X1_shifted_23 e_X1_shifted_23_k (pc' := 94) (lv' := [(13, .int s0), (0, .ref 13), (2, .int x2), (3, .int x3), (4, .int x4), (5, .int x5), (6, .int x6), (7, .int x7), (9, .int x9), (10, .int x10), (11, .int x11), (12, .int x12)]) (st' := [.int x4]) (σ' := (M, L)) rfl ⟨trivial, trivial⟩ ?_
        refine x_if_ne C (show decode cX1_shifted 94 = .ok (.ifCond .ne 8, 3) from by decide +kernel) (tgt := 102) (by decide) (fun c34 => ?_) (fun c34 => ?_)
        · rw [if_neg c34] at h
          refine x_lv C [1, 2, 3, 4, 5, 6, 7, 8, 9, 10, 0] rfl ?_
          exact b_X1_shifted_102 r C n rec hrec x2 x3 x4 x5 x6 x7 x9 x10 x11 s0 M wx7 ws0 hI (hk) h
        · rw [if_pos c34] at h
          have g35 : xrg 0 0 x4 := (x_c_eq (x_rgt x4) (x_rgc (x := 0) (k := 0) (by decide)) c34).1
          refine x_run C e_X1_shifted_24 e_X1_shifted_24_k (pc' := 99) (lv' := [(13, .int s0), (0, .ref 13), (2, .int x2), (3, .int x3), (4, .int x4), (5, .int x5), (6, .int x6), (7, .int x7), (9, .int x9), (10, .int x10), (11, .int x11), (12, .int x12)]) (st' := [.int x12]) (σ' := (M, L)) rfl ⟨trivial, trivial⟩ ?_
          refine x_goto C (show decode cX1_shifted 99 = .ok (.goto 4, 3) from by decide +kernel) (tgt := 103) (by decide) ?_
          refine x_lv C [1, 2, 3, 4, 5, 6, 7, 8, 9, 10, 0] rfl ?_
          exact b_X1_shifted_103 r C n rec hrec x2 x3 x4 x5 x6 x7 x9 x10 x11 s0 x12 M wx7 ws0 wx12 hI (hk) h
    · rw [if_pos c31] at h
      have g36 : xrg 3 3 x3 := (x_c_eq (x_rgt x3) (x_rgc (x := 3) (k := 3) (by decide)) c31).1
      refine x_run C e_X1_shifted_25 e_X1_shifted_25_k (pc' := 85) (lv' := [(13, .int s0), (0, .ref 13), (2, .int x2), (3, .int x3), (4, .int x4), (5, .int x5), (6, .int x6), (7, .int x7), (9, .int x9), (10, .int x10), (11, .int x11), (12, .int x12)]) (st' := [.int s0]) (σ' := (M, L)) rfl ⟨trivial, trivial⟩ ?_
      refine x_goto C (show decode cX1_shifted 85 = .ok (.goto 18, 3) from by decide +kernel) (tgt := 103) (by decide) ?_
      refine x_lv C [1, 2, 3, 4, 5, 6, 7, 8, 9, 10, 0] rfl ?_
      exact b_X1_shifted_103 r C n rec hrec x2 x3 x4 x5 x6 x7 x9 x10 x11 s0 s0 M wx7 ws0 ws0 hI (hk) h
  · rw [if_pos c30] at h
    have g37 : xrg 2 2 x3 := (x_c_eq (x_rgt x3) (x_rgc (x := 2) (k := 2) (by decide)) c30).1
    refine x_run C e_X1_shifted_26 e_X1_shifted_26_k (pc' := 75) (lv' := [(13, .int s0), (0, .ref 13), (2, .int x2), (3, .int x3), (4, .int x4), (5, .int x5), (6, .int x6), (7, .int x7), (9, .int x9), (10, .int x10), (11, .int x11), (12, .int x12)]) (st' := [.int x7]) (σ' := (M, L)) rfl ⟨trivial, trivial⟩ ?_
    refine x_goto C (show decode cX1_shifted 75 = .ok (.goto 28, 3) from by decide +kernel) (tgt := 103) (by decide) ?_
    refine x_lv C [1, 2, 3, 4, 5, 6, 7, 8, 9, 10, 0] rfl ?_
    exact b_X1_shifted_103 r C n rec hrec x2 x3 x4 x5 x6 x7 x9 x10 x11 s0 x7 M wx7 ws0 wx7 hI (hk) h
set_option maxRecDepth 20000 in
set_option maxHeartbeats 4000000 in
theorem b_X1_shifted_36 {l : Launch} {L : Nat → Nat → Int64} {V : XJ} (r : Int32 × St) (C : C_X1_shifted l r L V) : ∀ (n : Nat) (x2 : Int32) (x3 : Int32) (x4 : Int32) (x5 : Int32) (x6 : Int32) (x7 : Int32) (x8 : Int32) (x9 : Int32) (x10 : Int32) (x11 : Int32) (M : St), xrg 0 1 x7 → xrg 0 1 x8 → InvK INVC M → ((x5).toInt - x11.toInt).toNat < n → f_X1_shifted_36 n x2 x3 x4 x5 x6 x7 x8 x9 x10 x11 M = r → V 0 0 36 [(0, .ref 13), (2, .int x2), (3, .int x3), (4, .int x4), (5, .int x5), (6, .int x6), (7, .int x7), (8, .int x8), (9, .int x9), (10, .int x10), (11, .int x11)] [] LAY (M, L) := by
  intro n
  induction n with
  | zero => intro x2 x3 x4 x5 x6 x7 x8 x9 x10 x11 M  wx7 wx8 hI hm; exact absurd hm (Nat.not_lt_zero _)
  | succ n ih =>
    intro x2 x3 x4 x5 x6 x7 x8 x9 x10 x11 M  wx7 wx8 hI hm h
    unfold f_X1_shifted_36 at h
    refine x_run C e_X1_shifted_7 e_X1_shifted_7_k (pc' := 40) (lv' := [(0, .ref 13), (2, .int x2), (3, .int x3), (4, .int x4), (5, .int x5), (6, .int x6), (7, .int x7), (8, .int x8), (9, .int x9), (10, .int x10), (11, .int x11)]) (st' := [.int x5, .int x11]) (σ' := (M, L)) rfl ⟨trivial, trivial, trivial⟩ ?_
    refine x_icmp_ge C (show decode cX1_shifted 40 = .ok (.if_icmp .ge 135, 3) from by decide +kernel) (tgt := 175) (by decide) (fun c9 => ?_) (fun c9 => ?_)
    · rw [if_pos c9] at h
      have g10 : xrg (-2147483648) 2147483647 x5 := (x_c_le (x_rgt x5) (x_rgt x11) c9).1
      have g11 : xrg (-2147483648) 2147483647 x11 := (x_c_le (x_rgt x5) (x_rgt x11) c9).2
      refine x_run C e_X1_shifted_8 e_X1_shifted_8_k (pc' := 176) (lv' := [(0, .ref 13), (2, .int x2), (3, .int x3), (4, .int x4), (5, .int x5), (6, .int x6), (7, .int x7), (8, .int x8), (9, .int x9), (10, .int x10), (11, .int x11)]) (st' := [.int x3]) (σ' := (M, L)) rfl ⟨trivial, trivial⟩ ?_
      refine x_if_ne C (show decode cX1_shifted 176 = .ok (.ifCond .ne 22, 3) from by decide +kernel) (tgt := 198) (by decide) (fun c12 => ?_) (fun c12 => ?_)
      · rw [if_neg c12] at h
        refine x_lv C [0, 1, 6, 7, 8] rfl ?_
        exact b_X1_shifted_198 r C x2 x7 x8 x9 M wx7 wx8 hI h
      · rw [if_pos c12] at h
        have g13 : xrg 0 0 x3 := (x_c_eq (x_rgt x3) (x_rgc (x := 0) (k := 0) (by decide)) c12).1
        refine x_run C e_X1_shifted_9 e_X1_shifted_9_k (pc' := 181) (lv' := [(0, .ref 13), (2, .int x2), (3, .int x3), (4, .int x4), (5, .int x5), (6, .int x6), (7, .int x7), (8, .int x8), (9, .int x9), (10, .int x10), (11, .int x11)]) (st' := [.int x4]) (σ' := (M, L)) rfl ⟨trivial, trivial⟩ ?_
        refine x_if_eq C (show decode cX1_shifted 181 = .ok (.ifCond .eq 17, 3) from by decide +kernel) (tgt := 198) (by decide) (fun c14 => ?_) (fun c14 => ?_)
        · rw [if_pos c14] at h
          have g15 : xrg 0 0 x4 := (x_c_eq (x_rgt x4) (x_rgc (x := 0) (k := 0) (by decide)) c14).1
          refine x_lv C [0, 1, 6, 7, 8] rfl ?_
          exact b_X1_shifted_198 r C x2 x7 x8 x9 M wx7 wx8 hI h
        · rw [if_neg c14] at h
          refine x_run C e_X1_shifted_10 e_X1_shifted_10_k (pc' := 191) (lv' := [(0, .ref 13), (2, .int x2), (3, .int x3), (4, .int x4), (5, .int x5), (6, .int x6), (7, .int x7), (8, .int x8), (9, .int x9), (10, .int x10), (11, .int x11)]) (st' := [.int ((ius x10 x6) &&& 1)]) (σ' := (M, L)) rfl ⟨trivial, trivial, trivial, trivial, trivial, trivial⟩ ?_
          refine x_if_eq C (show decode cX1_shifted 191 = .ok (.ifCond .eq 7, 3) from by decide +kernel) (tgt := 198) (by decide) (fun c16 => ?_) (fun c16 => ?_)
          · rw [if_pos c16] at h
            have g17 : xrg 0 0 ((ius x10 x6) &&& 1) := (x_c_eq (x_rg_and (x := (ius x10 x6)) (m := 1) (k := 1) (by decide) (by decide)) (x_rgc (x := 0) (k := 0) (by decide)) c16).1
            refine x_lv C [0, 1, 6, 7, 8] rfl ?_
            exact b_X1_shifted_198 r C x2 x7 x8 x9 M wx7 wx8 hI h
          · rw [if_neg c16] at h
            have g18 : xrg 1 1 ((ius x10 x6) &&& 1) := (x_c_ne (x_rg_and (x := (ius x10 x6)) (m := 1) (k := 1) (by decide) (by decide)) (by decide) c16)
            refine x_run C e_X1_shifted_11 e_X1_shifted_11_k (pc' := 195) (lv' := [(0, .ref 13), (2, .int x2), (3, .int x3), (4, .int x4), (5, .int x5), (6, .int x6), (7, .int x7), (8, .int x8), (9, .int x9), (10, .int x10), (11, .int x11)]) (st' := [.int 1]) (σ' := (M, L)) rfl ⟨trivial, trivial⟩ ?_
            refine x_goto C (show decode cX1_shifted 195 = .ok (.goto 4, 3) from by decide +kernel) (tgt := 199) (by decide) ?_
            refine x_lv C [0, 1, 6, 7, 8] rfl ?_
            exact b_X1_shifted_199 r C x2 x7 x8 x9 1 M wx7 wx8 (x_rgw (x_rgc (x := 1) (k := 1) (by decide)) (lo' := 0) (hi' := 1) (by decide) (by decide)) hI h
    · rw [if_neg c9] at h
      have g19 : xrg (-2147483647) 2147483647 x5 := (x_c_nle (x_rgt x5) (x_rgt x11) c9).1
      have g20 : xrg (-2147483648) 2147483646 x11 := (x_c_nle (x_rgt x5) (x_rgt x11) c9).2
      have hk21 := x_meas (x_nle c9) hm
      refine x_run C e_X1_shifted_12 e_X1_shifted_12_k (pc' := 54) (lv' := [(12, .int ((ius x9 x6) &&& 1)), (0, .ref 13), (2, .int x2), (3, .int x3), (4, .int x4), (5, .int x5), (6, .int x6), (7, .int x7), (8, .int x8), (9, .int x9), (10, .int x10), (11, .int x11)]) (st' := [.int x4]) (σ' := (M, L)) rfl ⟨trivial, trivial, trivial, trivial, trivial, trivial, trivial, trivial⟩ ?_
      refine x_if_eq C (show decode cX1_shifted 54 = .ok (.ifCond .eq 8, 3) from by decide +kernel) (tgt := 62) (by decide) (fun c22 => ?_) (fun c22 => ?_)
      · rw [if_pos c22] at h
        have g23 : xrg 0 0 x4 := (x_c_eq (x_rgt x4) (x_rgc (x := 0) (k := 0) (by decide)) c22).1
        refine x_run C e_X1_shifted_13 e_X1_shifted_13_k (pc' := 66) (lv' := [(12, .int ((ius x9 x6) &&& 1)), (0, .ref 13), (2, .int x2), (3, .int x3), (4, .int x4), (5, .int x5), (6, .int x6), (7, .int x7), (8, .int x8), (9, .int x9), (10, .int x10), (11, .int x11)]) (st' := [.int (x9 &&& 1)]) (σ' := (M, L)) rfl ⟨trivial, trivial, trivial, trivial⟩ ?_
        refine x_lv C [1, 2, 3, 4, 5, 6, 7, 9, 10, 11, 0] rfl ?_
        exact b_X1_shifted_66 r C n (f_X1_shifted_36 n) ih x2 x3 x4 x5 x6 x7 x9 x10 x11 ((ius x9 x6) &&& 1) (x9 &&& 1) M wx7 (x_rg_and (x := (ius x9 x6)) (m := 1) (k := 1) (by decide) (by decide)) (x_rg_and (x := x9) (m := 1) (k := 1) (by decide) (by decide)) hI (hk21) h
      · rw [if_neg c22] at h
        refine x_run C e_X1_shifted_14 e_X1_shifted_14_k (pc' := 59) (lv' := [(12, .int ((ius x9 x6) &&& 1)), (0, .ref 13), (2, .int x2), (3, .int x3), (4, .int x4), (5, .int x5), (6, .int x6), (7, .int x7), (8, .int x8), (9, .int x9), (10, .int x10), (11, .int x11)]) (st' := [.int ((ius x9 x6) &&& 1)]) (σ' := (M, L)) rfl ⟨trivial, trivial⟩ ?_
        refine x_goto C (show decode cX1_shifted 59 = .ok (.goto 7, 3) from by decide +kernel) (tgt := 66) (by decide) ?_
        refine x_lv C [1, 2, 3, 4, 5, 6, 7, 9, 10, 11, 0] rfl ?_
        exact b_X1_shifted_66 r C n (f_X1_shifted_36 n) ih x2 x3 x4 x5 x6 x7 x9 x10 x11 ((ius x9 x6) &&& 1) ((ius x9 x6) &&& 1) M wx7 (x_rg_and (x := (ius x9 x6)) (m := 1) (k := 1) (by decide) (by decide)) (x_rg_and (x := (ius x9 x6)) (m := 1) (k := 1) (by decide) (by decide)) hI (hk21) h
set_option maxRecDepth 20000 in
set_option maxHeartbeats 4000000 in
theorem b_X1_shifted_25 {l : Launch} {L : Nat → Nat → Int64} {V : XJ} (r : Int32 × St) (C : C_X1_shifted l r L V) (x1 : Int32) (x2 : Int32) (x3 : Int32) (x4 : Int32) (x5 : Int32) (x6 : Int32) (x7 : Int32) (s0 : Int32) (M : St) (wx7 : xrg 0 1 x7) (ws0 : xrg 0 1 s0) (hI : InvK INVC M) (h : f_X1_shifted_25 x1 x2 x3 x4 x5 x6 x7 s0 M = r) : V 0 0 25 [(0, .ref 13), (1, .int x1), (2, .int x2), (3, .int x3), (4, .int x4), (5, .int x5), (6, .int x6), (7, .int x7)] [.int s0] LAY (M, L) := by
  unfold f_X1_shifted_25 at h
  refine x_run C e_X1_shifted_6 e_X1_shifted_6_k (pc' := 36) (lv' := [(11, .int 0), (10, .int 0), (9, .int x1), (8, .int s0), (0, .ref 13), (1, .int x1), (2, .int x2), (3, .int x3), (4, .int x4), (5, .int x5), (6, .int x6), (7, .int x7)]) (st' := []) (σ' := (M, L)) rfl ⟨trivial, trivial, trivial, trivial, trivial, trivial, trivial, trivial⟩ ?_
  refine x_lv C [4, 6, 7, 8, 9, 10, 11, 3, 2, 1, 0] rfl ?_
  exact b_X1_shifted_36 r C (((x5).toInt - (0 : Int32).toInt).toNat + 1) x2 x3 x4 x5 x6 x7 s0 x1 0 0 M wx7 ws0 hI (Nat.lt_succ_self _) h
set_option maxRecDepth 20000 in
set_option maxHeartbeats 4000000 in
theorem k_X1_shifted (l : Launch) (a1 : Int32) (a2 : Int32) (a3 : Int32) (a4 : Int32) (a5 : Int32) (M : St) (L : Nat → Nat → Int64) (hI : InvK INVC M) : XM l yX1_shifted cX1_shifted 16 (some .int) R_X1_shifted LAY [.ref 13, .int a1, .int a2, .int a3, .int a4, .int a5] (M, L) (P_X1_shifted (f_X1_shifted a1 a2 a3 a4 a5 M) L) := by
  refine XM.of (by decide) (Nat.le_of_ble_eq_true rfl) LAY_in cl_ok fl_X1_ok kc_X1_ok (fun V C => ?_)
  obtain ⟨r, h⟩ : ∃ r, f_X1_shifted a1 a2 a3 a4 a5 M = r := ⟨_, rfl⟩
  rw [h] at C
  change C_X1_shifted l r L V at C
  unfold f_X1_shifted at h
  show V 0 0 0 [(0, .ref 13), (1, .int a1), (2, .int a2), (3, .int a3), (4, .int a4), (5, .int a5)] [] LAY (M, L)
  refine x_run C e_X1_shifted_1 e_X1_shifted_1_k (pc' := 1) (lv' := [(0, .ref 13), (1, .int a1), (2, .int a2), (3, .int a3), (4, .int a4), (5, .int a5)]) (st' := [.int a2]) (σ' := (M, L)) rfl ⟨trivial, trivial⟩ ?_
  refine x_callSN C (rest := []) (avs := [.int a2]) (k_X10_bitsOf l a2 M L) yoX10_bitsOf ml_X1_50 rfl ⟨Nat.zero_le _, Nat.zero_le _⟩ (show decode cX1_shifted 1 = .ok (.invokestatic 50, 3) from by decide +kernel) rfl (fun v σ' hPo => ?_)
  obtain ⟨⟨rfl, rfl⟩, g2, -⟩ := hPo
  show V 0 0 4 [(0, .ref 13), (1, .int a1), (2, .int a2), (3, .int a3), (4, .int a4), (5, .int a5)] [.int (f_X10_bitsOf a2)] LAY (M, L)
  refine x_run C e_X1_shifted_2 e_X1_shifted_2_k (pc' := 9) (lv' := [(6, .int ((f_X10_bitsOf a2) - 1)), (0, .ref 13), (1, .int a1), (2, .int a2), (3, .int a3), (4, .int a4), (5, .int a5)]) (st' := [.ref 13]) (σ' := (M, L)) rfl ⟨trivial, trivial, trivial, trivial, trivial⟩ ?_
  refine x_callV C (k := 13) (ci := 0) (rest := []) (avs := []) (k_X1_x l  M L hI) yoX1_x ml_X1_54 rfl rfl rfl rfl ⟨Nat.zero_le _, Nat.zero_le _⟩ (show decode cX1_shifted 9 = .ok (.invokevirtual 54, 3) from by decide +kernel) rfl (fun v σ' hPo => ?_)
  obtain ⟨⟨rfl, rfl⟩, g5, hI6⟩ := hPo
  show V 0 0 12 [(6, .int ((f_X10_bitsOf a2) - 1)), (0, .ref 13), (1, .int a1), (2, .int a2), (3, .int a3), (4, .int a4), (5, .int a5)] [.int (f_X1_x  M)] LAY (M, L)
  refine x_run C e_X1_shifted_3 e_X1_shifted_3_k (pc' := 16) (lv' := [(7, .int (f_X1_x  M)), (6, .int ((f_X10_bitsOf a2) - 1)), (0, .ref 13), (1, .int a1), (2, .int a2), (3, .int a3), (4, .int a4), (5, .int a5)]) (st' := [.int 2, .int a3]) (σ' := (M, L)) rfl ⟨trivial, trivial, trivial, trivial⟩ ?_
  refine x_icmp_ne C (show decode cX1_shifted 16 = .ok (.if_icmp .ne 8, 3) from by decide +kernel) (tgt := 24) (by decide) (fun c7 => ?_) (fun c7 => ?_)
  · rw [if_neg c7] at h
    refine x_run C e_X1_shifted_4 e_X1_shifted_4_k (pc' := 25) (lv' := [(7, .int (f_X1_x  M)), (6, .int ((f_X10_bitsOf a2) - 1)), (0, .ref 13), (1, .int a1), (2, .int a2), (3, .int a3), (4, .int a4), (5, .int a5)]) (st' := [.int 0]) (σ' := (M, L)) rfl ⟨trivial, trivial⟩ ?_
    refine x_lv C [2, 3, 4, 5, 6, 7, 1, 0] rfl ?_
    exact b_X1_shifted_25 r C a1 a2 a3 a4 a5 ((f_X10_bitsOf a2) - 1) (f_X1_x  M) 0 M g5 (x_rgw (x_rgc (x := 0) (k := 0) (by decide)) (lo' := 0) (hi' := 1) (by decide) (by decide)) hI h
  · rw [if_pos c7] at h
    have g8 : xrg 2 2 a3 := (x_c_eq (x_rgt a3) (x_rgc (x := 2) (k := 2) (by decide)) c7).1
    refine x_run C e_X1_shifted_5 e_X1_shifted_5_k (pc' := 21) (lv' := [(7, .int (f_X1_x  M)), (6, .int ((f_X10_bitsOf a2) - 1)), (0, .ref 13), (1, .int a1), (2, .int a2), (3, .int a3), (4, .int a4), (5, .int a5)]) (st' := [.int (f_X1_x  M)]) (σ' := (M, L)) rfl ⟨trivial, trivial⟩ ?_
    refine x_goto C (show decode cX1_shifted 21 = .ok (.goto 4, 3) from by decide +kernel) (tgt := 25) (by decide) ?_
    refine x_lv C [2, 3, 4, 5, 6, 7, 1, 0] rfl ?_
    exact b_X1_shifted_25 r C a1 a2 a3 a4 a5 ((f_X10_bitsOf a2) - 1) (f_X1_x  M) (f_X1_x  M) M g5 g5 hI h
-- X4_shiftRegister
def e_X4_shiftRegister_1 : List xI := [(0, .aload_n 0, 1, .null), (1, .getfield 30, 3, .null), (4, .getfield 65, 3, .null), (7, .istore_n 1, 1, .null), (8, .aload_n 0, 1, .null), (9, .getfield 30, 3, .null), (12, .getfield 215, 3, .null), (15, .bipush 32, 2, .int 32), (17, .iand, 1, .null)]
theorem e_X4_shiftRegister_1_k : e_X4_shiftRegister_1.all (fun q => xokB cX4_shiftRegister q && xokL q) = true := by decide +kernel
def e_X4_shiftRegister_2 : List xI := [(25, .iconst 0, 1, .int 0)]
theorem e_X4_shiftRegister_2_k : e_X4_shiftRegister_2.all (fun q => xokB cX4_shiftRegister q && xokL q) = true := by decide +kernel
def e_X4_shiftRegister_3 : List xI := [(21, .iconst 1, 1, .int 1)]
theorem e_X4_shiftRegister_3_k : e_X4_shiftRegister_3.all (fun q => xokB cX4_shiftRegister q && xokL q) = true := by decide +kernel
def e_X4_shiftRegister_4 : List xI := [(26, .istore_n 2, 1, .null), (27, .iload_n 2, 1, .null)]
theorem e_X4_shiftRegister_4_k : e_X4_shiftRegister_4.all (fun q => xokB cX4_shiftRegister q && xokL q) = true := by decide +kernel
def e_X4_shiftRegister_5 : List xI := [(38, .aload_n 0, 1, .null), (39, .getfield 21, 3, .null), (42, .aload_n 0, 1, .null), (43, .getfield 30, 3, .null)]
theorem e_X4_shiftRegister_5_k : e_X4_shiftRegister_5.all (fun q => xokB cX4_shiftRegister q && xokL q) = true := by decide +kernel
def e_X4_shiftRegister_6 : List xI := [(49, .iaload, 1, .null), (50, .bipush 63, 2, .int 63), (52, .iand, 1, .null)]
theorem e_X4_shiftRegister_6_k : e_X4_shiftRegister_6.all (fun q => xokB cX4_shiftRegister q && xokL q) = true := by decide +kernel
def e_X4_shiftRegister_7 : List xI := [(31, .aload_n 0, 1, .null)]
theorem e_X4_shiftRegister_7_k : e_X4_shiftRegister_7.all (fun q => xokB cX4_shiftRegister q && xokL q) = true := by decide +kernel
def e_X4_shiftRegister_8 : List xI := [(53, .istore_n 3, 1, .null), (54, .aload_n 0, 1, .null), (55, .getfield 30, 3, .null), (58, .getfield 215, 3, .null), (61, .iconst 3, 1, .int 3), (62, .iushr, 1, .null), (63, .iconst 3, 1, .int 3), (64, .iand, 1, .null), (65, .istore 4, 2, .null), (67, .aload_n 0, 1, .null), (68, .getfield 26, 3, .null), (71, .aload_n 0, 1, .null), (72, .getfield 30, 3, .null), (75, .getfield 250, 3, .null), (78, .iload_n 1, 1, .null)]
theorem e_X4_shiftRegister_8_k : e_X4_shiftRegister_8.all (fun q => xokB cX4_shiftRegister q && xokL q) = true := by decide +kernel
def e_X4_shiftRegister_9 : List xI := [(82, .aload_n 0, 1, .null), (83, .getfield 26, 3, .null), (86, .iload_n 1, 1, .null), (87, .aload_n 0, 1, .null), (88, .getfield 39, 3, .null), (91, .aload_n 0, 1, .null), (92, .getfield 26, 3, .null), (95, .iload_n 1, 1, .null)]
theorem e_X4_shiftRegister_9_k : e_X4_shiftRegister_9.all (fun q => xokB cX4_shiftRegister q && xokL q) = true := by decide +kernel
def e_X4_shiftRegister_10 : List xI := [(99, .iload_n 1, 1, .null), (100, .iload 4, 2, .null), (102, .aload_n 0, 1, .null), (103, .getfield 30, 3, .null)]
theorem e_X4_shiftRegister_10_k : e_X4_shiftRegister_10.all (fun q => xokB cX4_shiftRegister q && xokL q) = true := by decide +kernel
def e_X4_shiftRegister_11 : List xI := [(109, .iconst 1, 1, .int 1)]
theorem e_X4_shiftRegister_11_k : e_X4_shiftRegister_11.all (fun q => xokB cX4_shiftRegister q && xokL q) = true := by decide +kernel
def e_X4_shiftRegister_12 : List xI := [(117, .iconst 0, 1, .int 0)]
theorem e_X4_shiftRegister_12_k : e_X4_shiftRegister_12.all (fun q => xokB cX4_shiftRegister q && xokL q) = true := by decide +kernel
def e_X4_shiftRegister_13 : List xI := [(113, .iconst 1, 1, .int 1)]
theorem e_X4_shiftRegister_13_k : e_X4_shiftRegister_13.all (fun q => xokB cX4_shiftRegister q && xokL q) = true := by decide +kernel
def e_X4_shiftRegister_14 : List xI := [(118, .iload_n 3, 1, .null)]
theorem e_X4_shiftRegister_14_k : e_X4_shiftRegister_14.all (fun q => xokB cX4_shiftRegister q && xokL q) = true := by decide +kernel
abbrev P_X4_shiftRegister (r : St) (L : Nat → Nat → Int64) : Option Value → xG → Prop := fun v σ' => PoV r L v σ' ∧ InvK INVC r
abbrev R_X4_shiftRegister : Room := { frames := 4, cells := 0, slots := 0, locals := 102 }
abbrev C_X4_shiftRegister (l : Launch) (r : St) (L : Nat → Nat → Int64) (V : XJ) : Prop := XC l yX4_shiftRegister.cls yX4_shiftRegister.name cX4_shiftRegister 5 R_X4_shiftRegister 0 0 fl_X4 kc_X4 LAY.length (xfin none LAY (P_X4_shiftRegister r L)) V
def f_X4_shiftRegister_118 (x3 : Int32) (s0 : Int32) (s1 : Int32) (s2 : Int32) (s3 : Int32) (s5 : Int32) (M : St) : St := (xb (f_X1_shifted s3 s2 s1 s0 x3 M) fun q25 => (xb (f_X6_write s5 q25.1 q25.2) fun q28 => q28))
def f_X4_shiftRegister_53 (x1 : Int32) (s0 : Int32) (M : St) : St := (xb (f_X6_find (M 11 3) x1 M) fun q13 => (xb (f_X6_read x1 q13) fun q16 => (if (f_X3_bit8  q16.2) = 1 then f_X4_shiftRegister_118 s0 1 ((ius (M 11 0) 3) &&& 3) x1 q16.1 x1 q16.2 else f_X4_shiftRegister_118 s0 0 ((ius (M 11 0) 3) &&& 3) x1 q16.1 x1 q16.2)))
def f_X4_shiftRegister_26 (x1 : Int32) (s0 : Int32) (M : St) : St := (if s0 = 0 then f_X4_shiftRegister_53 x1 ((M 2 (f_X3_upperRegister  M).toNatClampNeg) &&& 63) M else f_X4_shiftRegister_53 x1 (f_X4_quickNumber  M) M)
def f_X4_shiftRegister (M : St) : St := (if ((M 11 0) &&& 32) = 0 then f_X4_shiftRegister_26 (M 11 1) 1 M else f_X4_shiftRegister_26 (M 11 1) 0 M)
set_option maxRecDepth 20000 in
set_option maxHeartbeats 4000000 in
theorem b_X4_shiftRegister_118 {l : Launch} {L : Nat → Nat → Int64} {V : XJ} (r : St) (C : C_X4_shiftRegister l r L V) (x3 : Int32) (s0 : Int32) (s1 : Int32) (s2 : Int32) (s3 : Int32) (s5 : Int32) (M : St) (wx3 : xrg 0 63 x3) (ws0 : xrg 0 1 s0) (ws1 : xrg 0 3 s1) (hI : InvK INVC M) (h : f_X4_shiftRegister_118 x3 s0 s1 s2 s3 s5 M = r) : V 0 0 118 [(3, .int x3)] [.int s0, .int s1, .int s2, .int s3, .ref 13, .int s5, .ref 10] LAY (M, L) := by
  unfold f_X4_shiftRegister_118 at h
  refine x_run C e_X4_shiftRegister_14 e_X4_shiftRegister_14_k (pc' := 119) (lv' := [(3, .int x3)]) (st' := [.int x3, .int s0, .int s1, .int s2, .int s3, .ref 13, .int s5, .ref 10]) (σ' := (M, L)) rfl ⟨trivial, trivial⟩ ?_
  refine x_callV C (k := 13) (ci := 0) (rest := [.int s5, .ref 10]) (avs := [.int s3, .int s2, .int s1, .int s0, .int x3]) (k_X1_shifted l s3 s2 s1 s0 x3 M L hI) yoX1_shifted ml_X4_288 rfl rfl rfl rfl ⟨Nat.zero_le _, Nat.zero_le _⟩ (show decode cX4_shiftRegister 119 = .ok (.invokevirtual 288, 3) from by decide +kernel) rfl (fun v σ' hPo => ?_)
  obtain ⟨⟨rfl, rfl⟩, g26, hI27⟩ := hPo
  generalize hq25 : f_X1_shifted s3 s2 s1 s0 x3 M = q25 at h g26 hI27 ⊢
  obtain ⟨r25, M25⟩ := q25
  have h := xb_eq h
  try dsimp only at h g26 hI27
  show V 0 0 122 [(3, .int x3)] [.int r25, .int s5, .ref 10] LAY (M25, L)
  refine x_callV C (k := 10) (ci := 4) (rest := []) (avs := [.int s5, .int r25]) (k_X6_write l s5 r25 M25 L hI27) yoX6_write ml_X4_253 rfl rfl rfl rfl ⟨Nat.zero_le _, Nat.zero_le _⟩ (show decode cX4_shiftRegister 122 = .ok (.invokevirtual 253, 3) from by decide +kernel) rfl (fun v σ' hPo => ?_)
  obtain ⟨⟨rfl, rfl⟩, hI30⟩ := hPo
  generalize hq28 : f_X6_write s5 r25 M25 = q28 at h hI30 ⊢
  have h := xb_eq h
  show V 0 0 125 [(3, .int x3)] [] LAY (q28, L)
  subst h
  exact x_vret C (show decode cX4_shiftRegister 125 = .ok (.return_, 1) from by decide +kernel) (x_finV ⟨⟨rfl, rfl⟩, hI30⟩) (Nat.le_refl 0) (Nat.le_refl 0)
set_option maxRecDepth 20000 in
set_option maxHeartbeats 4000000 in
theorem b_X4_shiftRegister_53 {l : Launch} {L : Nat → Nat → Int64} {V : XJ} (r : St) (C : C_X4_shiftRegister l r L V) (x1 : Int32) (s0 : Int32) (M : St) (ws0 : xrg 0 63 s0) (hI : InvK INVC M) (h : f_X4_shiftRegister_53 x1 s0 M = r) : V 0 0 53 [(0, .ref 12), (1, .int x1)] [.int s0] LAY (M, L) := by
  unfold f_X4_shiftRegister_53 at h
  refine x_run C e_X4_shiftRegister_8 e_X4_shiftRegister_8_k (pc' := 79) (lv' := [(4, .int ((ius (M 11 0) 3) &&& 3)), (3, .int s0), (0, .ref 12), (1, .int x1)]) (st' := [.int x1, .int (M 11 3), .ref 10]) (σ' := (M, L)) rfl ⟨trivial, trivial, trivial, trivial, trivial, trivial, trivial, trivial, trivial, trivial, trivial, trivial, trivial, trivial, trivial, trivial⟩ ?_
  refine x_callV C (k := 10) (ci := 4) (rest := []) (avs := [.int (M 11 3), .int x1]) (k_X6_find l (M 11 3) x1 M L hI) yoX6_find ml_X4_241 rfl rfl rfl rfl ⟨Nat.zero_le _, Nat.zero_le _⟩ (show decode cX4_shiftRegister 79 = .ok (.invokevirtual 241, 3) from by decide +kernel) rfl (fun v σ' hPo => ?_)
  obtain ⟨⟨rfl, rfl⟩, hI15⟩ := hPo
  generalize hq13 : f_X6_find (M 11 3) x1 M = q13 at h hI15 ⊢
  have h := xb_eq h
  show V 0 0 82 [(4, .int ((ius (M 11 0) 3) &&& 3)), (3, .int s0), (0, .ref 12), (1, .int x1)] [] LAY (q13, L)
  refine x_run C e_X4_shiftRegister_9 e_X4_shiftRegister_9_k (pc' := 96) (lv' := [(4, .int ((ius (M 11 0) 3) &&& 3)), (3, .int s0), (0, .ref 12), (1, .int x1)]) (st' := [.int x1, .ref 10, .ref 13, .int x1, .ref 10]) (σ' := (q13, L)) rfl ⟨trivial, trivial, trivial, trivial, trivial, trivial, trivial, trivial, trivial⟩ ?_
  refine x_callV C (k := 10) (ci := 4) (rest := [.ref 13, .int x1, .ref 10]) (avs := [.int x1]) (k_X6_read l x1 q13 L hI15) yoX6_read ml_X4_244 rfl rfl rfl rfl ⟨Nat.zero_le _, Nat.zero_le _⟩ (show decode cX4_shiftRegister 96 = .ok (.invokevirtual 244, 3) from by decide +kernel) rfl (fun v σ' hPo => ?_)
  obtain ⟨⟨rfl, rfl⟩, g17, hI18⟩ := hPo
  generalize hq16 : f_X6_read x1 q13 = q16 at h g17 hI18 ⊢
  obtain ⟨r16, M16⟩ := q16
  have h := xb_eq h
  try dsimp only at h g17 hI18
  show V 0 0 99 [(4, .int ((ius (M 11 0) 3) &&& 3)), (3, .int s0), (0, .ref 12), (1, .int x1)] [.int r16, .ref 13, .int x1, .ref 10] LAY (M16, L)
  refine x_run C e_X4_shiftRegister_10 e_X4_shiftRegister_10_k (pc' := 106) (lv' := [(4, .int ((ius (M 11 0) 3) &&& 3)), (3, .int s0), (0, .ref 12), (1, .int x1)]) (st' := [.ref 11, .int ((ius (M 11 0) 3) &&& 3), .int x1, .int r16, .ref 13, .int x1, .ref 10]) (σ' := (M16, L)) rfl ⟨trivial, trivial, trivial, trivial, trivial⟩ ?_
  refine x_callV C (k := 11) (ci := 2) (rest := [.int ((ius (M 11 0) 3) &&& 3), .int x1, .int r16, .ref 13, .int x1, .ref 10]) (avs := []) (k_X3_bit8 l  M16 L hI18) yoX3_bit8 ml_X4_270 rfl rfl rfl rfl ⟨Nat.zero_le _, Nat.zero_le _⟩ (show decode cX4_shiftRegister 106 = .ok (.invokevirtual 270, 3) from by decide +kernel) rfl (fun v σ' hPo => ?_)
  obtain ⟨⟨rfl, rfl⟩, g20, hI21⟩ := hPo
  show V 0 0 109 [(4, .int ((ius (M 11 0) 3) &&& 3)), (3, .int s0), (0, .ref 12), (1, .int x1)] [.int (f_X3_bit8  M16), .int ((ius (M 11 0) 3) &&& 3), .int x1, .int r16, .ref 13, .int x1, .ref 10] LAY (M16, L)
  refine x_run C e_X4_shiftRegister_11 e_X4_shiftRegister_11_k (pc' := 110) (lv' := [(4, .int ((ius (M 11 0) 3) &&& 3)), (3, .int s0), (0, .ref 12), (1, .int x1)]) (st' := [.int 1, .int (f_X3_bit8  M16), .int ((ius (M 11 0) 3) &&& 3), .int x1, .int r16, .ref 13, .int x1, .ref 10]) (σ' := (M16, L)) rfl ⟨trivial, trivial⟩ ?_
  refine x_icmp_ne C (show decode cX4_shiftRegister 110 = .ok (.if_icmp .ne 7, 3) from by decide +kernel) (tgt := 117) (by decide) (fun c22 => ?_) (fun c22 => ?_)
  · rw [if_neg c22] at h
    have g23 : xrg 0 0 (f_X3_bit8  M16) := (x_c_neh g20 (by decide) c22)
    refine x_run C e_X4_shiftRegister_12 e_X4_shiftRegister_12_k (pc' := 118) (lv' := [(4, .int ((ius (M 11 0) 3) &&& 3)), (3, .int s0), (0, .ref 12), (1, .int x1)]) (st' := [.int 0, .int ((ius (M 11 0) 3) &&& 3), .int x1, .int r16, .ref 13, .int x1, .ref 10]) (σ' := (M16, L)) rfl ⟨trivial, trivial⟩ ?_
    refine x_lv C [1] rfl ?_
    exact b_X4_shiftRegister_118 r C s0 0 ((ius (M 11 0) 3) &&& 3) x1 r16 x1 M16 ws0 (x_rgw (x_rgc (x := 0) (k := 0) (by decide)) (lo' := 0) (hi' := 1) (by decide) (by decide)) (x_rg_and (x := (ius (M 11 0) 3)) (m := 3) (k := 3) (by decide) (by decide)) hI18 h
  · rw [if_pos c22] at h
    have g24 : xrg 1 1 (f_X3_bit8  M16) := (x_c_eq g20 (x_rgc (x := 1) (k := 1) (by decide)) c22).1
    refine x_run C e_X4_shiftRegister_13 e_X4_shiftRegister_13_k (pc' := 114) (lv' := [(4, .int ((ius (M 11 0) 3) &&& 3)), (3, .int s0), (0, .ref 12), (1, .int x1)]) (st' := [.int 1, .int ((ius (M 11 0) 3) &&& 3), .int x1, .int r16, .ref 13, .int x1, .ref 10]) (σ' := (M16, L)) rfl ⟨trivial, trivial⟩ ?_
    refine x_goto C (show decode cX4_shiftRegister 114 = .ok (.goto 4, 3) from by decide +kernel) (tgt := 118) (by decide) ?_
    refine x_lv C [1] rfl ?_
    exact b_X4_shiftRegister_118 r C s0 1 ((ius (M 11 0) 3) &&& 3) x1 r16 x1 M16 ws0 (x_rgw (x_rgc (x := 1) (k := 1) (by decide)) (lo' := 0) (hi' := 1) (by decide) (by decide)) (x_rg_and (x := (ius (M 11 0) 3)) (m := 3) (k := 3) (by decide) (by decide)) hI18 h
set_option maxRecDepth 20000 in
set_option maxHeartbeats 4000000 in
theorem b_X4_shiftRegister_26 {l : Launch} {L : Nat → Nat → Int64} {V : XJ} (r : St) (C : C_X4_shiftRegister l r L V) (x1 : Int32) (s0 : Int32) (M : St) (ws0 : xrg 0 1 s0) (hI : InvK INVC M) (h : f_X4_shiftRegister_26 x1 s0 M = r) : V 0 0 26 [(0, .ref 12), (1, .int x1)] [.int s0] LAY (M, L) := by
  unfold f_X4_shiftRegister_26 at h
  refine x_run C e_X4_shiftRegister_4 e_X4_shiftRegister_4_k (pc' := 28) (lv' := [(2, .int s0), (0, .ref 12), (1, .int x1)]) (st' := [.int s0]) (σ' := (M, L)) rfl ⟨trivial, trivial, trivial⟩ ?_
  refine x_if_eq C (show decode cX4_shiftRegister 28 = .ok (.ifCond .eq 10, 3) from by decide +kernel) (tgt := 38) (by decide) (fun c4 => ?_) (fun c4 => ?_)
  · rw [if_pos c4] at h
    have g5 : xrg 0 0 s0 := (x_c_eq ws0 (x_rgc (x := 0) (k := 0) (by decide)) c4).1
    refine x_run C e_X4_shiftRegister_5 e_X4_shiftRegister_5_k (pc' := 46) (lv' := [(2, .int s0), (0, .ref 12), (1, .int x1)]) (st' := [.ref 11, .ref 2]) (σ' := (M, L)) rfl ⟨trivial, trivial, trivial, trivial, trivial⟩ ?_
    refine x_callV C (k := 11) (ci := 2) (rest := [.ref 2]) (avs := []) (k_X3_upperRegister l  M L hI) yoX3_upperRegister ml_X4_116 rfl rfl rfl rfl ⟨Nat.zero_le _, Nat.zero_le _⟩ (show decode cX4_shiftRegister 46 = .ok (.invokevirtual 116, 3) from by decide +kernel) rfl (fun v σ' hPo => ?_)
    obtain ⟨⟨rfl, rfl⟩, g7, hI8⟩ := hPo
    show V 0 0 49 [(2, .int s0), (0, .ref 12), (1, .int x1)] [.int (f_X3_upperRegister  M), .ref 2] LAY (M, L)
    refine x_run C e_X4_shiftRegister_6 e_X4_shiftRegister_6_k (pc' := 53) (lv' := [(2, .int s0), (0, .ref 12), (1, .int x1)]) (st' := [.int ((M 2 (f_X3_upperRegister  M).toNatClampNeg) &&& 63)]) (σ' := (M, L)) rfl ⟨(x_rgv g7 (by decide) (by decide)), trivial, trivial, trivial⟩ ?_
    refine x_lv C [1, 2] rfl ?_
    exact b_X4_shiftRegister_53 r C x1 ((M 2 (f_X3_upperRegister  M).toNatClampNeg) &&& 63) M (x_rg_and (x := (M 2 (f_X3_upperRegister  M).toNatClampNeg)) (m := 63) (k := 63) (by decide) (by decide)) hI h
  · rw [if_neg c4] at h
    have g9 : xrg 1 1 s0 := (x_c_ne ws0 (by decide) c4)
    refine x_run C e_X4_shiftRegister_7 e_X4_shiftRegister_7_k (pc' := 32) (lv' := [(2, .int s0), (0, .ref 12), (1, .int x1)]) (st' := [.ref 12]) (σ' := (M, L)) rfl ⟨trivial, trivial⟩ ?_
    refine x_callV C (k := 12) (ci := 3) (rest := []) (avs := []) (k_X4_quickNumber l  M L hI) yoX4_quickNumber ml_X4_107 rfl rfl rfl rfl ⟨Nat.zero_le _, Nat.zero_le _⟩ (show decode cX4_shiftRegister 32 = .ok (.invokevirtual 107, 3) from by decide +kernel) rfl (fun v σ' hPo => ?_)
    obtain ⟨⟨rfl, rfl⟩, g11, hI12⟩ := hPo
    show V 0 0 35 [(2, .int s0), (0, .ref 12), (1, .int x1)] [.int (f_X4_quickNumber  M)] LAY (M, L)
    refine x_goto C (show decode cX4_shiftRegister 35 = .ok (.goto 18, 3) from by decide +kernel) (tgt := 53) (by decide) ?_
    refine x_lv C [1, 2] rfl ?_
    exact b_X4_shiftRegister_53 r C x1 (f_X4_quickNumber  M) M (x_rgw g11 (lo' := 0) (hi' := 63) (by decide) (by decide)) hI h
set_option maxRecDepth 20000 in
set_option maxHeartbeats 4000000 in
theorem k_X4_shiftRegister (l : Launch) (M : St) (L : Nat → Nat → Int64) (hI : InvK INVC M) : XM l yX4_shiftRegister cX4_shiftRegister 5 none R_X4_shiftRegister LAY [.ref 12] (M, L) (P_X4_shiftRegister (f_X4_shiftRegister M) L) := by
  refine XM.of (by decide) (Nat.le_of_ble_eq_true rfl) LAY_in cl_ok fl_X4_ok kc_X4_ok (fun V C => ?_)
  obtain ⟨r, h⟩ : ∃ r, f_X4_shiftRegister M = r := ⟨_, rfl⟩
  rw [h] at C
  change C_X4_shiftRegister l r L V at C
  unfold f_X4_shiftRegister at h
  show V 0 0 0 [(0, .ref 12)] [] LAY (M, L)
  refine x_run C e_X4_shiftRegister_1 e_X4_shiftRegister_1_k (pc' := 18) (lv' := [(1, .int (M 11 1)), (0, .ref 12)]) (st' := [.int ((M 11 0) &&& 32)]) (σ' := (M, L)) rfl ⟨trivial, trivial, trivial, trivial, trivial, trivial, trivial, trivial, trivial, trivial⟩ ?_
  refine x_if_ne C (show decode cX4_shiftRegister 18 = .ok (.ifCond .ne 7, 3) from by decide +kernel) (tgt := 25) (by decide) (fun c1 => ?_) (fun c1 => ?_)
  · rw [if_neg c1] at h
    have g2 : xrg 1 32 ((M 11 0) &&& 32) := (x_c_ne (x_rg_and (x := (M 11 0)) (m := 32) (k := 32) (by decide) (by decide)) (by decide) c1)
    refine x_run C e_X4_shiftRegister_2 e_X4_shiftRegister_2_k (pc' := 26) (lv' := [(1, .int (M 11 1)), (0, .ref 12)]) (st' := [.int 0]) (σ' := (M, L)) rfl ⟨trivial, trivial⟩ ?_
    refine x_lv C [1, 0] rfl ?_
    exact b_X4_shiftRegister_26 r C (M 11 1) 0 M (x_rgw (x_rgc (x := 0) (k := 0) (by decide)) (lo' := 0) (hi' := 1) (by decide) (by decide)) hI h
  · rw [if_pos c1] at h
    have g3 : xrg 0 0 ((M 11 0) &&& 32) := (x_c_eq (x_rg_and (x := (M 11 0)) (m := 32) (k := 32) (by decide) (by decide)) (x_rgc (x := 0) (k := 0) (by decide)) c1).1
    refine x_run C e_X4_shiftRegister_3 e_X4_shiftRegister_3_k (pc' := 22) (lv' := [(1, .int (M 11 1)), (0, .ref 12)]) (st' := [.int 1]) (σ' := (M, L)) rfl ⟨trivial, trivial⟩ ?_
    refine x_goto C (show decode cX4_shiftRegister 22 = .ok (.goto 4, 3) from by decide +kernel) (tgt := 26) (by decide) ?_
    refine x_lv C [1, 0] rfl ?_
    exact b_X4_shiftRegister_26 r C (M 11 1) 1 M (x_rgw (x_rgc (x := 1) (k := 1) (by decide)) (lo' := 0) (hi' := 1) (by decide) (by decide)) hI h
-- X4_shiftMemory
def e_X4_shiftMemory_1 : List xI := [(0, .aload_n 0, 1, .null), (1, .getfield 26, 3, .null), (4, .aload_n 0, 1, .null), (5, .getfield 30, 3, .null), (8, .getfield 250, 3, .null), (11, .iconst 1, 1, .int 1)]
theorem e_X4_shiftMemory_1_k : e_X4_shiftMemory_1.all (fun q => xokB cX4_shiftMemory q && xokL q) = true := by decide +kernel
def e_X4_shiftMemory_2 : List xI := [(15, .aload_n 0, 1, .null), (16, .getfield 26, 3, .null), (19, .iconst 1, 1, .int 1)]
theorem e_X4_shiftMemory_2_k : e_X4_shiftMemory_2.all (fun q => xokB cX4_shiftMemory q && xokL q) = true := by decide +kernel
def e_X4_shiftMemory_3 : List xI := [(23, .istore_n 1, 1, .null), (24, .aload_n 0, 1, .null), (25, .getfield 26, 3, .null), (28, .iconst 1, 1, .int 1), (29, .aload_n 0, 1, .null), (30, .getfield 39, 3, .null), (33, .iload_n 1, 1, .null), (34, .iconst 1, 1, .int 1), (35, .aload_n 0, 1, .null), (36, .getfield 30, 3, .null)]
theorem e_X4_shiftMemory_3_k : e_X4_shiftMemory_3.all (fun q => xokB cX4_shiftMemory q && xokL q) = true := by decide +kernel
def e_X4_shiftMemory_4 : List xI := [(42, .aload_n 0, 1, .null), (43, .getfield 30, 3, .null)]
theorem e_X4_shiftMemory_4_k : e_X4_shiftMemory_4.all (fun q => xokB cX4_shiftMemory q && xokL q) = true := by decide +kernel
def e_X4_shiftMemory_5 : List xI := [(49, .iconst 1, 1, .int 1)]
theorem e_X4_shiftMemory_5_k : e_X4_shiftMemory_5.all (fun q => xokB cX4_shiftMemory q && xokL q) = true := by decide +kernel
def e_X4_shiftMemory_6 : List xI := [(57, .iconst 0, 1, .int 0)]
theorem e_X4_shiftMemory_6_k : e_X4_shiftMemory_6.all (fun q => xokB cX4_shiftMemory q && xokL q) = true := by decide +kernel
def e_X4_shiftMemory_7 : List xI := [(53, .iconst 1, 1, .int 1)]
theorem e_X4_shiftMemory_7_k : e_X4_shiftMemory_7.all (fun q => xokB cX4_shiftMemory q && xokL q) = true := by decide +kernel
def e_X4_shiftMemory_8 : List xI := [(58, .iconst 1, 1, .int 1)]
theorem e_X4_shiftMemory_8_k : e_X4_shiftMemory_8.all (fun q => xokB cX4_shiftMemory q && xokL q) = true := by decide +kernel
abbrev P_X4_shiftMemory (r : St) (L : Nat → Nat → Int64) : Option Value → xG → Prop := fun v σ' => PoV r L v σ' ∧ InvK INVC r
abbrev R_X4_shiftMemory : Room := { frames := 4, cells := 0, slots := 0, locals := 102 }
abbrev C_X4_shiftMemory (l : Launch) (r : St) (L : Nat → Nat → Int64) (V : XJ) : Prop := XC l yX4_shiftMemory.cls yX4_shiftMemory.name cX4_shiftMemory 2 R_X4_shiftMemory 0 0 fl_X4 kc_X4 LAY.length (xfin none LAY (P_X4_shiftMemory r L)) V
def f_X4_shiftMemory_58 (s0 : Int32) (s1 : Int32) (s2 : Int32) (s3 : Int32) (s5 : Int32) (M : St) : St := (xb (f_X1_shifted s3 s2 s1 s0 1 M) fun q16 => (xb (f_X6_write s5 q16.1 q16.2) fun q19 => q19))
def f_X4_shiftMemory (M : St) : St := (xb (f_X6_find (M 11 3) 1 M) fun q1 => (xb (f_X6_read 1 q1) fun q4 => (if (f_X3_bit8  q4.2) = 1 then f_X4_shiftMemory_58 1 (f_X3_upperRegister  q4.2) 1 q4.1 1 q4.2 else f_X4_shiftMemory_58 0 (f_X3_upperRegister  q4.2) 1 q4.1 1 q4.2)))
set_option maxRecDepth 20000 in
set_option maxHeartbeats 4000000 in
theorem b_X4_shiftMemory_58 {l : Launch} {L : Nat → Nat → Int64} {V : XJ} (r : St) (C : C_X4_shiftMemory l r L V) (s0 : Int32) (s1 : Int32) (s2 : Int32) (s3 : Int32) (s5 : Int32) (M : St) (ws0 : xrg 0 1 s0) (ws1 : xrg 0 7 s1) (ws2 : xrg 1 1 s2) (ws5 : xrg 1 1 s5) (hI : InvK INVC M) (h : f_X4_shiftMemory_58 s0 s1 s2 s3 s5 M = r) : V 0 0 58 [] [.int s0, .int s1, .int s2, .int s3, .ref 13, .int s5, .ref 10] LAY (M, L) := by
  unfold f_X4_shiftMemory_58 at h
  refine x_run C e_X4_shiftMemory_8 e_X4_shiftMemory_8_k (pc' := 59) (lv' := []) (st' := [.int 1, .int s0, .int s1, .int s2, .int s3, .ref 13, .int s5, .ref 10]) (σ' := (M, L)) rfl ⟨trivial, trivial⟩ ?_
  refine x_callV C (k := 13) (ci := 0) (rest := [.int s5, .ref 10]) (avs := [.int s3, .int s2, .int s1, .int s0, .int 1]) (k_X1_shifted l s3 s2 s1 s0 1 M L hI) yoX1_shifted ml_X4_288 rfl rfl rfl rfl ⟨Nat.zero_le _, Nat.zero_le _⟩ (show decode cX4_shiftMemory 59 = .ok (.invokevirtual 288, 3) from by decide +kernel) rfl (fun v σ' hPo => ?_)
  obtain ⟨⟨rfl, rfl⟩, g17, hI18⟩ := hPo
  generalize hq16 : f_X1_shifted s3 s2 s1 s0 1 M = q16 at h g17 hI18 ⊢
  obtain ⟨r16, M16⟩ := q16
  have h := xb_eq h
  try dsimp only at h g17 hI18
  show V 0 0 62 [] [.int r16, .int s5, .ref 10] LAY (M16, L)
  refine x_callV C (k := 10) (ci := 4) (rest := []) (avs := [.int s5, .int r16]) (k_X6_write l s5 r16 M16 L hI18) yoX6_write ml_X4_253 rfl rfl rfl rfl ⟨Nat.zero_le _, Nat.zero_le _⟩ (show decode cX4_shiftMemory 62 = .ok (.invokevirtual 253, 3) from by decide +kernel) rfl (fun v σ' hPo => ?_)
  obtain ⟨⟨rfl, rfl⟩, hI21⟩ := hPo
  generalize hq19 : f_X6_write s5 r16 M16 = q19 at h hI21 ⊢
  have h := xb_eq h
  show V 0 0 65 [] [] LAY (q19, L)
  subst h
  exact x_vret C (show decode cX4_shiftMemory 65 = .ok (.return_, 1) from by decide +kernel) (x_finV ⟨⟨rfl, rfl⟩, hI21⟩) (Nat.le_refl 0) (Nat.le_refl 0)
set_option maxRecDepth 20000 in
set_option maxHeartbeats 4000000 in
theorem k_X4_shiftMemory (l : Launch) (M : St) (L : Nat → Nat → Int64) (hI : InvK INVC M) : XM l yX4_shiftMemory cX4_shiftMemory 2 none R_X4_shiftMemory LAY [.ref 12] (M, L) (P_X4_shiftMemory (f_X4_shiftMemory M) L) := by
  refine XM.of (by decide) (Nat.le_of_ble_eq_true rfl) LAY_in cl_ok fl_X4_ok kc_X4_ok (fun V C => ?_)
  obtain ⟨r, h⟩ : ∃ r, f_X4_shiftMemory M = r := ⟨_, rfl⟩
  rw [h] at C
  change C_X4_shiftMemory l r L V at C
  unfold f_X4_shiftMemory at h
  show V 0 0 0 [(0, .ref 12)] [] LAY (M, L)
  refine x_run C e_X4_shiftMemory_1 e_X4_shiftMemory_1_k (pc' := 12) (lv' := [(0, .ref 12)]) (st' := [.int 1, .int (M 11 3), .ref 10]) (σ' := (M, L)) rfl ⟨trivial, trivial, trivial, trivial, trivial, trivial, trivial⟩ ?_
  refine x_callV C (k := 10) (ci := 4) (rest := []) (avs := [.int (M 11 3), .int 1]) (k_X6_find l (M 11 3) 1 M L hI) yoX6_find ml_X4_241 rfl rfl rfl rfl ⟨Nat.zero_le _, Nat.zero_le _⟩ (show decode cX4_shiftMemory 12 = .ok (.invokevirtual 241, 3) from by decide +kernel) rfl (fun v σ' hPo => ?_)
  obtain ⟨⟨rfl, rfl⟩, hI3⟩ := hPo
  generalize hq1 : f_X6_find (M 11 3) 1 M = q1 at h hI3 ⊢
  have h := xb_eq h
  show V 0 0 15 [(0, .ref 12)] [] LAY (q1, L)
  refine x_run C e_X4_shiftMemory_2 e_X4_shiftMemory_2_k (pc' := 20) (lv' := [(0, .ref 12)]) (st' := [.int 1, .ref 10]) (σ' := (q1, L)) rfl ⟨trivial, trivial, trivial, trivial⟩ ?_
  refine x_callV C (k := 10) (ci := 4) (rest := []) (avs := [.int 1]) (k_X6_read l 1 q1 L hI3) yoX6_read ml_X4_244 rfl rfl rfl rfl ⟨Nat.zero_le _, Nat.zero_le _⟩ (show decode cX4_shiftMemory 20 = .ok (.invokevirtual 244, 3) from by decide +kernel) rfl (fun v σ' hPo => ?_)
  obtain ⟨⟨rfl, rfl⟩, g5, hI6⟩ := hPo
  generalize hq4 : f_X6_read 1 q1 = q4 at h g5 hI6 ⊢
  obtain ⟨r4, M4⟩ := q4
  have h := xb_eq h
  try dsimp only at h g5 hI6
  show V 0 0 23 [(0, .ref 12)] [.int r4] LAY (M4, L)
  refine x_run C e_X4_shiftMemory_3 e_X4_shiftMemory_3_k (pc' := 39) (lv' := [(1, .int r4), (0, .ref 12)]) (st' := [.ref 11, .int 1, .int r4, .ref 13, .int 1, .ref 10]) (σ' := (M4, L)) rfl ⟨trivial, trivial, trivial, trivial, trivial, trivial, trivial, trivial, trivial, trivial, trivial⟩ ?_
  refine x_callV C (k := 11) (ci := 2) (rest := [.int 1, .int r4, .ref 13, .int 1, .ref 10]) (avs := []) (k_X3_upperRegister l  M4 L hI6) yoX3_upperRegister ml_X4_116 rfl rfl rfl rfl ⟨Nat.zero_le _, Nat.zero_le _⟩ (show decode cX4_shiftMemory 39 = .ok (.invokevirtual 116, 3) from by decide +kernel) rfl (fun v σ' hPo => ?_)
  obtain ⟨⟨rfl, rfl⟩, g8, hI9⟩ := hPo
  show V 0 0 42 [(1, .int r4), (0, .ref 12)] [.int (f_X3_upperRegister  M4), .int 1, .int r4, .ref 13, .int 1, .ref 10] LAY (M4, L)
  refine x_run C e_X4_shiftMemory_4 e_X4_shiftMemory_4_k (pc' := 46) (lv' := [(1, .int r4), (0, .ref 12)]) (st' := [.ref 11, .int (f_X3_upperRegister  M4), .int 1, .int r4, .ref 13, .int 1, .ref 10]) (σ' := (M4, L)) rfl ⟨trivial, trivial, trivial⟩ ?_
  refine x_callV C (k := 11) (ci := 2) (rest := [.int (f_X3_upperRegister  M4), .int 1, .int r4, .ref 13, .int 1, .ref 10]) (avs := []) (k_X3_bit8 l  M4 L hI6) yoX3_bit8 ml_X4_270 rfl rfl rfl rfl ⟨Nat.zero_le _, Nat.zero_le _⟩ (show decode cX4_shiftMemory 46 = .ok (.invokevirtual 270, 3) from by decide +kernel) rfl (fun v σ' hPo => ?_)
  obtain ⟨⟨rfl, rfl⟩, g11, hI12⟩ := hPo
  show V 0 0 49 [(1, .int r4), (0, .ref 12)] [.int (f_X3_bit8  M4), .int (f_X3_upperRegister  M4), .int 1, .int r4, .ref 13, .int 1, .ref 10] LAY (M4, L)
  refine x_run C e_X4_shiftMemory_5 e_X4_shiftMemory_5_k (pc' := 50) (lv' := [(1, .int r4), (0, .ref 12)]) (st' := [.int 1, .int (f_X3_bit8  M4), .int (f_X3_upperRegister  M4), .int 1, .int r4, .ref 13, .int 1, .ref 10]) (σ' := (M4, L)) rfl ⟨trivial, trivial⟩ ?_
  refine x_icmp_ne C (show decode cX4_shiftMemory 50 = .ok (.if_icmp .ne 7, 3) from by decide +kernel) (tgt := 57) (by decide) (fun c13 => ?_) (fun c13 => ?_)
  · rw [if_neg c13] at h
    have g14 : xrg 0 0 (f_X3_bit8  M4) := (x_c_neh g11 (by decide) c13)
    refine x_run C e_X4_shiftMemory_6 e_X4_shiftMemory_6_k (pc' := 58) (lv' := [(1, .int r4), (0, .ref 12)]) (st' := [.int 0, .int (f_X3_upperRegister  M4), .int 1, .int r4, .ref 13, .int 1, .ref 10]) (σ' := (M4, L)) rfl ⟨trivial, trivial⟩ ?_
    refine x_lv C [] rfl ?_
    exact b_X4_shiftMemory_58 r C 0 (f_X3_upperRegister  M4) 1 r4 1 M4 (x_rgw (x_rgc (x := 0) (k := 0) (by decide)) (lo' := 0) (hi' := 1) (by decide) (by decide)) g8 (x_rgc (x := 1) (k := 1) (by decide)) (x_rgc (x := 1) (k := 1) (by decide)) hI6 h
  · rw [if_pos c13] at h
    have g15 : xrg 1 1 (f_X3_bit8  M4) := (x_c_eq g11 (x_rgc (x := 1) (k := 1) (by decide)) c13).1
    refine x_run C e_X4_shiftMemory_7 e_X4_shiftMemory_7_k (pc' := 54) (lv' := [(1, .int r4), (0, .ref 12)]) (st' := [.int 1, .int (f_X3_upperRegister  M4), .int 1, .int r4, .ref 13, .int 1, .ref 10]) (σ' := (M4, L)) rfl ⟨trivial, trivial⟩ ?_
    refine x_goto C (show decode cX4_shiftMemory 54 = .ok (.goto 4, 3) from by decide +kernel) (tgt := 58) (by decide) ?_
    refine x_lv C [] rfl ?_
    exact b_X4_shiftMemory_58 r C 1 (f_X3_upperRegister  M4) 1 r4 1 M4 (x_rgw (x_rgc (x := 1) (k := 1) (by decide)) (lo' := 0) (hi' := 1) (by decide) (by decide)) g8 (x_rgc (x := 1) (k := 1) (by decide)) (x_rgc (x := 1) (k := 1) (by decide)) hI6 h
-- X4_negate
def e_X4_negate_1 : List xI := [(0, .aload_n 0, 1, .null), (1, .getfield 30, 3, .null), (4, .getfield 65, 3, .null), (7, .istore_n 2, 1, .null), (8, .aload_n 0, 1, .null), (9, .getfield 26, 3, .null), (12, .aload_n 0, 1, .null), (13, .getfield 30, 3, .null), (16, .getfield 250, 3, .null), (19, .iload_n 2, 1, .null)]
theorem e_X4_negate_1_k : e_X4_negate_1.all (fun q => xokB cX4_negate q && xokL q) = true := by decide +kernel
def e_X4_negate_2 : List xI := [(23, .aload_n 0, 1, .null), (24, .getfield 26, 3, .null), (27, .iload_n 2, 1, .null), (28, .aload_n 0, 1, .null), (29, .getfield 39, 3, .null), (32, .aload_n 1, 1, .null), (33, .iconst 0, 1, .int 0), (34, .aload_n 0, 1, .null), (35, .getfield 26, 3, .null), (38, .iload_n 2, 1, .null)]
theorem e_X4_negate_2_k : e_X4_negate_2.all (fun q => xokB cX4_negate q && xokL q) = true := by decide +kernel
def e_X4_negate_3 : List xI := [(42, .iload_n 2, 1, .null)]
theorem e_X4_negate_3_k : e_X4_negate_3.all (fun q => xokB cX4_negate q && xokL q) = true := by decide +kernel
abbrev P_X4_negate (r : St) (L : Nat → Nat → Int64) : Option Value → xG → Prop := fun v σ' => PoV r L v σ' ∧ InvK INVC r
abbrev R_X4_negate : Room := { frames := 4, cells := 0, slots := 0, locals := 102 }
abbrev C_X4_negate (l : Launch) (r : St) (L : Nat → Nat → Int64) (V : XJ) : Prop := XC l yX4_negate.cls yX4_negate.name cX4_negate 3 R_X4_negate 0 0 fl_X4 kc_X4 LAY.length (xfin none LAY (P_X4_negate r L)) V
def f_X4_negate (a1 : Nat) (M : St) : St := (xb (f_X6_find (M 11 3) (M 11 1) M) fun q1 => (xb (f_X6_read (M 11 1) q1) fun q4 => (xb (f_X1_combined a1 0 q4.1 (M 11 1) q4.2) fun q7 => (xb (f_X6_write (M 11 1) q7.1 q7.2) fun q10 => q10))))
set_option maxRecDepth 20000 in
set_option maxHeartbeats 4000000 in
theorem k_X4_negate (l : Launch) (a1 : Nat) (M : St) (L : Nat → Nat → Int64) (hb1 : a1 < 66) (hI : InvK INVC M) : XM l yX4_negate cX4_negate 3 none R_X4_negate LAY [.ref 12, .ref (1000 + a1)] (M, L) (P_X4_negate (f_X4_negate a1 M) L) := by
  refine XM.of (by decide) (Nat.le_of_ble_eq_true rfl) LAY_in cl_ok fl_X4_ok kc_X4_ok (fun V C => ?_)
  obtain ⟨r, h⟩ : ∃ r, f_X4_negate a1 M = r := ⟨_, rfl⟩
  rw [h] at C
  change C_X4_negate l r L V at C
  unfold f_X4_negate at h
  show V 0 0 0 [(0, .ref 12), (1, .ref (1000 + a1))] [] LAY (M, L)
  refine x_run C e_X4_negate_1 e_X4_negate_1_k (pc' := 20) (lv' := [(2, .int (M 11 1)), (0, .ref 12), (1, .ref (1000 + a1))]) (st' := [.int (M 11 1), .int (M 11 3), .ref 10]) (σ' := (M, L)) rfl ⟨trivial, trivial, trivial, trivial, trivial, trivial, trivial, trivial, trivial, trivial, trivial⟩ ?_
  refine x_callV C (k := 10) (ci := 4) (rest := []) (avs := [.int (M 11 3), .int (M 11 1)]) (k_X6_find l (M 11 3) (M 11 1) M L hI) yoX6_find ml_X4_241 rfl rfl rfl rfl ⟨Nat.zero_le _, Nat.zero_le _⟩ (show decode cX4_negate 20 = .ok (.invokevirtual 241, 3) from by decide +kernel) rfl (fun v σ' hPo => ?_)
  obtain ⟨⟨rfl, rfl⟩, hI3⟩ := hPo
  generalize hq1 : f_X6_find (M 11 3) (M 11 1) M = q1 at h hI3 ⊢
  have h := xb_eq h
  show V 0 0 23 [(2, .int (M 11 1)), (0, .ref 12), (1, .ref (1000 + a1))] [] LAY (q1, L)
  refine x_run C e_X4_negate_2 e_X4_negate_2_k (pc' := 39) (lv' := [(2, .int (M 11 1)), (0, .ref 12), (1, .ref (1000 + a1))]) (st' := [.int (M 11 1), .ref 10, .int 0, .ref (1000 + a1), .ref 13, .int (M 11 1), .ref 10]) (σ' := (q1, L)) rfl ⟨trivial, trivial, trivial, trivial, trivial, trivial, trivial, trivial, trivial, trivial, trivial⟩ ?_
  refine x_callV C (k := 10) (ci := 4) (rest := [.int 0, .ref (1000 + a1), .ref 13, .int (M 11 1), .ref 10]) (avs := [.int (M 11 1)]) (k_X6_read l (M 11 1) q1 L hI3) yoX6_read ml_X4_244 rfl rfl rfl rfl ⟨Nat.zero_le _, Nat.zero_le _⟩ (show decode cX4_negate 39 = .ok (.invokevirtual 244, 3) from by decide +kernel) rfl (fun v σ' hPo => ?_)
  obtain ⟨⟨rfl, rfl⟩, g5, hI6⟩ := hPo
  generalize hq4 : f_X6_read (M 11 1) q1 = q4 at h g5 hI6 ⊢
  obtain ⟨r4, M4⟩ := q4
  have h := xb_eq h
  try dsimp only at h g5 hI6
  show V 0 0 42 [(2, .int (M 11 1)), (0, .ref 12), (1, .ref (1000 + a1))] [.int r4, .int 0, .ref (1000 + a1), .ref 13, .int (M 11 1), .ref 10] LAY (M4, L)
  refine x_run C e_X4_negate_3 e_X4_negate_3_k (pc' := 43) (lv' := [(2, .int (M 11 1)), (0, .ref 12), (1, .ref (1000 + a1))]) (st' := [.int (M 11 1), .int r4, .int 0, .ref (1000 + a1), .ref 13, .int (M 11 1), .ref 10]) (σ' := (M4, L)) rfl ⟨trivial, trivial⟩ ?_
  refine x_callV C (k := 13) (ci := 0) (rest := [.int (M 11 1), .ref 10]) (avs := [.ref (1000 + a1), .int 0, .int r4, .int (M 11 1)]) (k_X1_combined l a1 0 r4 (M 11 1) M4 L hb1 hI6) yoX1_combined ml_X4_256 rfl rfl rfl rfl ⟨Nat.zero_le _, Nat.zero_le _⟩ (show decode cX4_negate 43 = .ok (.invokevirtual 256, 3) from by decide +kernel) rfl (fun v σ' hPo => ?_)
  obtain ⟨⟨rfl, rfl⟩, g8, hI9⟩ := hPo
  generalize hq7 : f_X1_combined a1 0 r4 (M 11 1) M4 = q7 at h g8 hI9 ⊢
  obtain ⟨r7, M7⟩ := q7
  have h := xb_eq h
  try dsimp only at h g8 hI9
  show V 0 0 46 [(2, .int (M 11 1)), (0, .ref 12), (1, .ref (1000 + a1))] [.int r7, .int (M 11 1), .ref 10] LAY (M7, L)
  refine x_callV C (k := 10) (ci := 4) (rest := []) (avs := [.int (M 11 1), .int r7]) (k_X6_write l (M 11 1) r7 M7 L hI9) yoX6_write ml_X4_253 rfl rfl rfl rfl ⟨Nat.zero_le _, Nat.zero_le _⟩ (show decode cX4_negate 46 = .ok (.invokevirtual 253, 3) from by decide +kernel) rfl (fun v σ' hPo => ?_)
  obtain ⟨⟨rfl, rfl⟩, hI12⟩ := hPo
  generalize hq10 : f_X6_write (M 11 1) r7 M7 = q10 at h hI12 ⊢
  have h := xb_eq h
  show V 0 0 49 [(2, .int (M 11 1)), (0, .ref 12), (1, .ref (1000 + a1))] [] LAY (q10, L)
  subst h
  exact x_vret C (show decode cX4_negate 49 = .ok (.return_, 1) from by decide +kernel) (x_finV ⟨⟨rfl, rfl⟩, hI12⟩) (Nat.le_refl 0) (Nat.le_refl 0)
-- X4_turn
def e_X4_turn_1 : List xI := [(0, .aload_n 0, 1, .null), (1, .getfield 26, 3, .null), (4, .aload_n 0, 1, .null), (5, .getfield 30, 3, .null), (8, .getfield 250, 3, .null), (11, .aload_n 0, 1, .null), (12, .getfield 30, 3, .null), (15, .getfield 65, 3, .null)]
theorem e_X4_turn_1_k : e_X4_turn_1.all (fun q => xokB cX4_turn q && xokL q) = true := by decide +kernel
def e_X4_turn_2 : List xI := [(21, .aload_n 0, 1, .null), (22, .getfield 26, 3, .null), (25, .aload_n 0, 1, .null), (26, .getfield 30, 3, .null), (29, .getfield 65, 3, .null), (32, .aload_n 0, 1, .null), (33, .getfield 39, 3, .null), (36, .aload_n 0, 1, .null), (37, .getfield 26, 3, .null), (40, .aload_n 0, 1, .null), (41, .getfield 30, 3, .null), (44, .getfield 65, 3, .null)]
theorem e_X4_turn_2_k : e_X4_turn_2.all (fun q => xokB cX4_turn q && xokL q) = true := by decide +kernel
def e_X4_turn_3 : List xI := [(50, .iconst (-1), 1, .int (-1)), (51, .ixor, 1, .null), (52, .aload_n 0, 1, .null), (53, .getfield 30, 3, .null), (56, .getfield 65, 3, .null)]
theorem e_X4_turn_3_k : e_X4_turn_3.all (fun q => xokB cX4_turn q && xokL q) = true := by decide +kernel
abbrev P_X4_turn (r : St) (L : Nat → Nat → Int64) : Option Value → xG → Prop := fun v σ' => PoV r L v σ' ∧ InvK INVC r
abbrev R_X4_turn : Room := { frames := 4, cells := 0, slots := 0, locals := 102 }
abbrev C_X4_turn (l : Launch) (r : St) (L : Nat → Nat → Int64) (V : XJ) : Prop := XC l yX4_turn.cls yX4_turn.name cX4_turn 1 R_X4_turn 0 0 fl_X4 kc_X4 LAY.length (xfin none LAY (P_X4_turn r L)) V
def f_X4_turn (M : St) : St := (xb (f_X6_find (M 11 3) (M 11 1) M) fun q1 => (xb (f_X6_read (q1 11 1) q1) fun q4 => (xb (f_X1_tested (q4.1 ^^^ (-1)) (q4.2 11 1) q4.2) fun q7 => (xb (f_X6_write (q1 11 1) q7.1 q7.2) fun q10 => q10))))
set_option maxRecDepth 20000 in
set_option maxHeartbeats 4000000 in
theorem k_X4_turn (l : Launch) (M : St) (L : Nat → Nat → Int64) (hI : InvK INVC M) : XM l yX4_turn cX4_turn 1 none R_X4_turn LAY [.ref 12] (M, L) (P_X4_turn (f_X4_turn M) L) := by
  refine XM.of (by decide) (Nat.le_of_ble_eq_true rfl) LAY_in cl_ok fl_X4_ok kc_X4_ok (fun V C => ?_)
  obtain ⟨r, h⟩ : ∃ r, f_X4_turn M = r := ⟨_, rfl⟩
  rw [h] at C
  change C_X4_turn l r L V at C
  unfold f_X4_turn at h
  show V 0 0 0 [(0, .ref 12)] [] LAY (M, L)
  refine x_run C e_X4_turn_1 e_X4_turn_1_k (pc' := 18) (lv' := [(0, .ref 12)]) (st' := [.int (M 11 1), .int (M 11 3), .ref 10]) (σ' := (M, L)) rfl ⟨trivial, trivial, trivial, trivial, trivial, trivial, trivial, trivial, trivial⟩ ?_
  refine x_callV C (k := 10) (ci := 4) (rest := []) (avs := [.int (M 11 3), .int (M 11 1)]) (k_X6_find l (M 11 3) (M 11 1) M L hI) yoX6_find ml_X4_241 rfl rfl rfl rfl ⟨Nat.zero_le _, Nat.zero_le _⟩ (show decode cX4_turn 18 = .ok (.invokevirtual 241, 3) from by decide +kernel) rfl (fun v σ' hPo => ?_)
  obtain ⟨⟨rfl, rfl⟩, hI3⟩ := hPo
  generalize hq1 : f_X6_find (M 11 3) (M 11 1) M = q1 at h hI3 ⊢
  have h := xb_eq h
  show V 0 0 21 [(0, .ref 12)] [] LAY (q1, L)
  refine x_run C e_X4_turn_2 e_X4_turn_2_k (pc' := 47) (lv' := [(0, .ref 12)]) (st' := [.int (q1 11 1), .ref 10, .ref 13, .int (q1 11 1), .ref 10]) (σ' := (q1, L)) rfl ⟨trivial, trivial, trivial, trivial, trivial, trivial, trivial, trivial, trivial, trivial, trivial, trivial, trivial⟩ ?_
  refine x_callV C (k := 10) (ci := 4) (rest := [.ref 13, .int (q1 11 1), .ref 10]) (avs := [.int (q1 11 1)]) (k_X6_read l (q1 11 1) q1 L hI3) yoX6_read ml_X4_244 rfl rfl rfl rfl ⟨Nat.zero_le _, Nat.zero_le _⟩ (show decode cX4_turn 47 = .ok (.invokevirtual 244, 3) from by decide +kernel) rfl (fun v σ' hPo => ?_)
  obtain ⟨⟨rfl, rfl⟩, g5, hI6⟩ := hPo
  generalize hq4 : f_X6_read (q1 11 1) q1 = q4 at h g5 hI6 ⊢
  obtain ⟨r4, M4⟩ := q4
  have h := xb_eq h
  try dsimp only at h g5 hI6
  show V 0 0 50 [(0, .ref 12)] [.int r4, .ref 13, .int (q1 11 1), .ref 10] LAY (M4, L)
  refine x_run C e_X4_turn_3 e_X4_turn_3_k (pc' := 59) (lv' := [(0, .ref 12)]) (st' := [.int (M4 11 1), .int (r4 ^^^ (-1)), .ref 13, .int (q1 11 1), .ref 10]) (σ' := (M4, L)) rfl ⟨trivial, trivial, trivial, trivial, trivial, trivial⟩ ?_
  refine x_callV C (k := 13) (ci := 0) (rest := [.int (q1 11 1), .ref 10]) (avs := [.int (r4 ^^^ (-1)), .int (M4 11 1)]) (k_X1_tested l (r4 ^^^ (-1)) (M4 11 1) M4 L hI6) yoX1_tested ml_X4_70 rfl rfl rfl rfl ⟨Nat.zero_le _, Nat.zero_le _⟩ (show decode cX4_turn 59 = .ok (.invokevirtual 70, 3) from by decide +kernel) rfl (fun v σ' hPo => ?_)
  obtain ⟨⟨rfl, rfl⟩, g8, hI9⟩ := hPo
  generalize hq7 : f_X1_tested (r4 ^^^ (-1)) (M4 11 1) M4 = q7 at h g8 hI9 ⊢
  obtain ⟨r7, M7⟩ := q7
  have h := xb_eq h
  try dsimp only at h g8 hI9
  show V 0 0 62 [(0, .ref 12)] [.int r7, .int (q1 11 1), .ref 10] LAY (M7, L)
  refine x_callV C (k := 10) (ci := 4) (rest := []) (avs := [.int (q1 11 1), .int r7]) (k_X6_write l (q1 11 1) r7 M7 L hI9) yoX6_write ml_X4_253 rfl rfl rfl rfl ⟨Nat.zero_le _, Nat.zero_le _⟩ (show decode cX4_turn 62 = .ok (.invokevirtual 253, 3) from by decide +kernel) rfl (fun v σ' hPo => ?_)
  obtain ⟨⟨rfl, rfl⟩, hI12⟩ := hPo
  generalize hq10 : f_X6_write (q1 11 1) r7 M7 = q10 at h hI12 ⊢
  have h := xb_eq h
  show V 0 0 65 [(0, .ref 12)] [] LAY (q10, L)
  subst h
  exact x_vret C (show decode cX4_turn 65 = .ok (.return_, 1) from by decide +kernel) (x_finV ⟨⟨rfl, rfl⟩, hI12⟩) (Nat.le_refl 0) (Nat.le_refl 0)
-- X4_extend
def e_X4_extend_1 : List xI := [(0, .aload_n 0, 1, .null), (1, .getfield 30, 3, .null), (4, .getfield 65, 3, .null), (7, .istore_n 1, 1, .null), (8, .aload_n 0, 1, .null), (9, .getfield 26, 3, .null), (12, .aload_n 0, 1, .null), (13, .getfield 30, 3, .null), (16, .getfield 250, 3, .null), (19, .iload_n 1, 1, .null)]
theorem e_X4_extend_1_k : e_X4_extend_1.all (fun q => xokB cX4_extend q && xokL q) = true := by decide +kernel
def e_X4_extend_2 : List xI := [(23, .aload_n 0, 1, .null), (24, .getfield 26, 3, .null), (27, .iload_n 1, 1, .null), (28, .aload_n 0, 1, .null), (29, .getfield 39, 3, .null), (32, .aload_n 0, 1, .null), (33, .getfield 26, 3, .null), (36, .iload_n 1, 1, .null), (37, .iconst 1, 1, .int 1), (38, .isub, 1, .null)]
theorem e_X4_extend_2_k : e_X4_extend_2.all (fun q => xokB cX4_extend q && xokL q) = true := by decide +kernel
def e_X4_extend_3 : List xI := [(42, .iload_n 1, 1, .null), (43, .iconst 1, 1, .int 1), (44, .isub, 1, .null)]
theorem e_X4_extend_3_k : e_X4_extend_3.all (fun q => xokB cX4_extend q && xokL q) = true := by decide +kernel
def e_X4_extend_4 : List xI := [(48, .iload_n 1, 1, .null)]
theorem e_X4_extend_4_k : e_X4_extend_4.all (fun q => xokB cX4_extend q && xokL q) = true := by decide +kernel
abbrev P_X4_extend (r : St) (L : Nat → Nat → Int64) : Option Value → xG → Prop := fun v σ' => PoV r L v σ' ∧ InvK INVC r
abbrev R_X4_extend : Room := { frames := 4, cells := 0, slots := 0, locals := 102 }
abbrev C_X4_extend (l : Launch) (r : St) (L : Nat → Nat → Int64) (V : XJ) : Prop := XC l yX4_extend.cls yX4_extend.name cX4_extend 2 R_X4_extend 0 0 fl_X4 kc_X4 LAY.length (xfin none LAY (P_X4_extend r L)) V
def f_X4_extend (M : St) : St := (xb (f_X6_find (M 11 3) (M 11 1) M) fun q1 => (xb (f_X6_read ((M 11 1) - 1) q1) fun q4 => (xb (f_X1_tested (f_X10_extended q4.1 ((M 11 1) - 1)) (M 11 1) q4.2) fun q10 => (xb (f_X6_write (M 11 1) q10.1 q10.2) fun q13 => q13))))
set_option maxRecDepth 20000 in
set_option maxHeartbeats 4000000 in
theorem k_X4_extend (l : Launch) (M : St) (L : Nat → Nat → Int64) (hI : InvK INVC M) : XM l yX4_extend cX4_extend 2 none R_X4_extend LAY [.ref 12] (M, L) (P_X4_extend (f_X4_extend M) L) := by
  refine XM.of (by decide) (Nat.le_of_ble_eq_true rfl) LAY_in cl_ok fl_X4_ok kc_X4_ok (fun V C => ?_)
  obtain ⟨r, h⟩ : ∃ r, f_X4_extend M = r := ⟨_, rfl⟩
  rw [h] at C
  change C_X4_extend l r L V at C
  unfold f_X4_extend at h
  show V 0 0 0 [(0, .ref 12)] [] LAY (M, L)
  refine x_run C e_X4_extend_1 e_X4_extend_1_k (pc' := 20) (lv' := [(1, .int (M 11 1)), (0, .ref 12)]) (st' := [.int (M 11 1), .int (M 11 3), .ref 10]) (σ' := (M, L)) rfl ⟨trivial, trivial, trivial, trivial, trivial, trivial, trivial, trivial, trivial, trivial, trivial⟩ ?_
  refine x_callV C (k := 10) (ci := 4) (rest := []) (avs := [.int (M 11 3), .int (M 11 1)]) (k_X6_find l (M 11 3) (M 11 1) M L hI) yoX6_find ml_X4_241 rfl rfl rfl rfl ⟨Nat.zero_le _, Nat.zero_le _⟩ (show decode cX4_extend 20 = .ok (.invokevirtual 241, 3) from by decide +kernel) rfl (fun v σ' hPo => ?_)
  obtain ⟨⟨rfl, rfl⟩, hI3⟩ := hPo
  generalize hq1 : f_X6_find (M 11 3) (M 11 1) M = q1 at h hI3 ⊢
  have h := xb_eq h
  show V 0 0 23 [(1, .int (M 11 1)), (0, .ref 12)] [] LAY (q1, L)
  refine x_run C e_X4_extend_2 e_X4_extend_2_k (pc' := 39) (lv' := [(1, .int (M 11 1)), (0, .ref 12)]) (st' := [.int ((M 11 1) - 1), .ref 10, .ref 13, .int (M 11 1), .ref 10]) (σ' := (q1, L)) rfl ⟨trivial, trivial, trivial, trivial, trivial, trivial, trivial, trivial, trivial, trivial, trivial⟩ ?_
  refine x_callV C (k := 10) (ci := 4) (rest := [.ref 13, .int (M 11 1), .ref 10]) (avs := [.int ((M 11 1) - 1)]) (k_X6_read l ((M 11 1) - 1) q1 L hI3) yoX6_read ml_X4_244 rfl rfl rfl rfl ⟨Nat.zero_le _, Nat.zero_le _⟩ (show decode cX4_extend 39 = .ok (.invokevirtual 244, 3) from by decide +kernel) rfl (fun v σ' hPo => ?_)
  obtain ⟨⟨rfl, rfl⟩, g5, hI6⟩ := hPo
  generalize hq4 : f_X6_read ((M 11 1) - 1) q1 = q4 at h g5 hI6 ⊢
  obtain ⟨r4, M4⟩ := q4
  have h := xb_eq h
  try dsimp only at h g5 hI6
  show V 0 0 42 [(1, .int (M 11 1)), (0, .ref 12)] [.int r4, .ref 13, .int (M 11 1), .ref 10] LAY (M4, L)
  refine x_run C e_X4_extend_3 e_X4_extend_3_k (pc' := 45) (lv' := [(1, .int (M 11 1)), (0, .ref 12)]) (st' := [.int ((M 11 1) - 1), .int r4, .ref 13, .int (M 11 1), .ref 10]) (σ' := (M4, L)) rfl ⟨trivial, trivial, trivial, trivial⟩ ?_
  refine x_callSN C (rest := [.ref 13, .int (M 11 1), .ref 10]) (avs := [.int r4, .int ((M 11 1) - 1)]) (k_X10_extended l r4 ((M 11 1) - 1) M4 L) yoX10_extended ml_X4_97 rfl ⟨Nat.zero_le _, Nat.zero_le _⟩ (show decode cX4_extend 45 = .ok (.invokestatic 97, 3) from by decide +kernel) rfl (fun v σ' hPo => ?_)
  obtain ⟨⟨rfl, rfl⟩, g8, -⟩ := hPo
  show V 0 0 48 [(1, .int (M 11 1)), (0, .ref 12)] [.int (f_X10_extended r4 ((M 11 1) - 1)), .ref 13, .int (M 11 1), .ref 10] LAY (M4, L)
  refine x_run C e_X4_extend_4 e_X4_extend_4_k (pc' := 49) (lv' := [(1, .int (M 11 1)), (0, .ref 12)]) (st' := [.int (M 11 1), .int (f_X10_extended r4 ((M 11 1) - 1)), .ref 13, .int (M 11 1), .ref 10]) (σ' := (M4, L)) rfl ⟨trivial, trivial⟩ ?_
  refine x_callV C (k := 13) (ci := 0) (rest := [.int (M 11 1), .ref 10]) (avs := [.int (f_X10_extended r4 ((M 11 1) - 1)), .int (M 11 1)]) (k_X1_tested l (f_X10_extended r4 ((M 11 1) - 1)) (M 11 1) M4 L hI6) yoX1_tested ml_X4_70 rfl rfl rfl rfl ⟨Nat.zero_le _, Nat.zero_le _⟩ (show decode cX4_extend 49 = .ok (.invokevirtual 70, 3) from by decide +kernel) rfl (fun v σ' hPo => ?_)
  obtain ⟨⟨rfl, rfl⟩, g11, hI12⟩ := hPo
  generalize hq10 : f_X1_tested (f_X10_extended r4 ((M 11 1) - 1)) (M 11 1) M4 = q10 at h g11 hI12 ⊢
  obtain ⟨r10, M10⟩ := q10
  have h := xb_eq h
  try dsimp only at h g11 hI12
  show V 0 0 52 [(1, .int (M 11 1)), (0, .ref 12)] [.int r10, .int (M 11 1), .ref 10] LAY (M10, L)
  refine x_callV C (k := 10) (ci := 4) (rest := []) (avs := [.int (M 11 1), .int r10]) (k_X6_write l (M 11 1) r10 M10 L hI12) yoX6_write ml_X4_253 rfl rfl rfl rfl ⟨Nat.zero_le _, Nat.zero_le _⟩ (show decode cX4_extend 52 = .ok (.invokevirtual 253, 3) from by decide +kernel) rfl (fun v σ' hPo => ?_)
  obtain ⟨⟨rfl, rfl⟩, hI15⟩ := hPo
  generalize hq13 : f_X6_write (M 11 1) r10 M10 = q13 at h hI15 ⊢
  have h := xb_eq h
  show V 0 0 55 [(1, .int (M 11 1)), (0, .ref 12)] [] LAY (q13, L)
  subst h
  exact x_vret C (show decode cX4_extend 55 = .ok (.return_, 1) from by decide +kernel) (x_finV ⟨⟨rfl, rfl⟩, hI15⟩) (Nat.le_refl 0) (Nat.le_refl 0)
-- X4_testAndSet
def e_X4_testAndSet_1 : List xI := [(0, .aload_n 0, 1, .null), (1, .getfield 26, 3, .null), (4, .aload_n 0, 1, .null), (5, .getfield 30, 3, .null), (8, .getfield 250, 3, .null), (11, .iconst 0, 1, .int 0)]
theorem e_X4_testAndSet_1_k : e_X4_testAndSet_1.all (fun q => xokB cX4_testAndSet q && xokL q) = true := by decide +kernel
def e_X4_testAndSet_2 : List xI := [(15, .aload_n 0, 1, .null), (16, .getfield 26, 3, .null), (19, .iconst 0, 1, .int 0), (20, .aload_n 0, 1, .null), (21, .getfield 39, 3, .null), (24, .aload_n 0, 1, .null), (25, .getfield 26, 3, .null), (28, .iconst 0, 1, .int 0)]
theorem e_X4_testAndSet_2_k : e_X4_testAndSet_2.all (fun q => xokB cX4_testAndSet q && xokL q) = true := by decide +kernel
def e_X4_testAndSet_3 : List xI := [(32, .iconst 0, 1, .int 0)]
theorem e_X4_testAndSet_3_k : e_X4_testAndSet_3.all (fun q => xokB cX4_testAndSet q && xokL q) = true := by decide +kernel
def e_X4_testAndSet_4 : List xI := [(36, .sipush 128, 3, .int 128), (39, .ior, 1, .null)]
theorem e_X4_testAndSet_4_k : e_X4_testAndSet_4.all (fun q => xokB cX4_testAndSet q && xokL q) = true := by decide +kernel
abbrev P_X4_testAndSet (r : St) (L : Nat → Nat → Int64) : Option Value → xG → Prop := fun v σ' => PoV r L v σ' ∧ InvK INVC r
abbrev R_X4_testAndSet : Room := { frames := 4, cells := 0, slots := 0, locals := 102 }
abbrev C_X4_testAndSet (l : Launch) (r : St) (L : Nat → Nat → Int64) (V : XJ) : Prop := XC l yX4_testAndSet.cls yX4_testAndSet.name cX4_testAndSet 1 R_X4_testAndSet 0 0 fl_X4 kc_X4 LAY.length (xfin none LAY (P_X4_testAndSet r L)) V
def f_X4_testAndSet (M : St) : St := (xb (f_X6_find (M 11 3) 0 M) fun q1 => (xb (f_X6_read 0 q1) fun q4 => (xb (f_X1_tested q4.1 0 q4.2) fun q7 => (xb (f_X6_write 0 (q7.1 ||| 128) q7.2) fun q10 => q10))))
set_option maxRecDepth 20000 in
set_option maxHeartbeats 4000000 in
theorem k_X4_testAndSet (l : Launch) (M : St) (L : Nat → Nat → Int64) (hI : InvK INVC M) : XM l yX4_testAndSet cX4_testAndSet 1 none R_X4_testAndSet LAY [.ref 12] (M, L) (P_X4_testAndSet (f_X4_testAndSet M) L) := by
  refine XM.of (by decide) (Nat.le_of_ble_eq_true rfl) LAY_in cl_ok fl_X4_ok kc_X4_ok (fun V C => ?_)
  obtain ⟨r, h⟩ : ∃ r, f_X4_testAndSet M = r := ⟨_, rfl⟩
  rw [h] at C
  change C_X4_testAndSet l r L V at C
  unfold f_X4_testAndSet at h
  show V 0 0 0 [(0, .ref 12)] [] LAY (M, L)
  refine x_run C e_X4_testAndSet_1 e_X4_testAndSet_1_k (pc' := 12) (lv' := [(0, .ref 12)]) (st' := [.int 0, .int (M 11 3), .ref 10]) (σ' := (M, L)) rfl ⟨trivial, trivial, trivial, trivial, trivial, trivial, trivial⟩ ?_
  refine x_callV C (k := 10) (ci := 4) (rest := []) (avs := [.int (M 11 3), .int 0]) (k_X6_find l (M 11 3) 0 M L hI) yoX6_find ml_X4_241 rfl rfl rfl rfl ⟨Nat.zero_le _, Nat.zero_le _⟩ (show decode cX4_testAndSet 12 = .ok (.invokevirtual 241, 3) from by decide +kernel) rfl (fun v σ' hPo => ?_)
  obtain ⟨⟨rfl, rfl⟩, hI3⟩ := hPo
  generalize hq1 : f_X6_find (M 11 3) 0 M = q1 at h hI3 ⊢
  have h := xb_eq h
  show V 0 0 15 [(0, .ref 12)] [] LAY (q1, L)
  refine x_run C e_X4_testAndSet_2 e_X4_testAndSet_2_k (pc' := 29) (lv' := [(0, .ref 12)]) (st' := [.int 0, .ref 10, .ref 13, .int 0, .ref 10]) (σ' := (q1, L)) rfl ⟨trivial, trivial, trivial, trivial, trivial, trivial, trivial, trivial, trivial⟩ ?_
  refine x_callV C (k := 10) (ci := 4) (rest := [.ref 13, .int 0, .ref 10]) (avs := [.int 0]) (k_X6_read l 0 q1 L hI3) yoX6_read ml_X4_244 rfl rfl rfl rfl ⟨Nat.zero_le _, Nat.zero_le _⟩ (show decode cX4_testAndSet 29 = .ok (.invokevirtual 244, 3) from by decide +kernel) rfl (fun v σ' hPo => ?_)
  obtain ⟨⟨rfl, rfl⟩, g5, hI6⟩ := hPo
  generalize hq4 : f_X6_read 0 q1 = q4 at h g5 hI6 ⊢
  obtain ⟨r4, M4⟩ := q4
  have h := xb_eq h
  try dsimp only at h g5 hI6
  show V 0 0 32 [(0, .ref 12)] [.int r4, .ref 13, .int 0, .ref 10] LAY (M4, L)
  refine x_run C e_X4_testAndSet_3 e_X4_testAndSet_3_k (pc' := 33) (lv' := [(0, .ref 12)]) (st' := [.int 0, .int r4, .ref 13, .int 0, .ref 10]) (σ' := (M4, L)) rfl ⟨trivial, trivial⟩ ?_
  refine x_callV C (k := 13) (ci := 0) (rest := [.int 0, .ref 10]) (avs := [.int r4, .int 0]) (k_X1_tested l r4 0 M4 L hI6) yoX1_tested ml_X4_70 rfl rfl rfl rfl ⟨Nat.zero_le _, Nat.zero_le _⟩ (show decode cX4_testAndSet 33 = .ok (.invokevirtual 70, 3) from by decide +kernel) rfl (fun v σ' hPo => ?_)
  obtain ⟨⟨rfl, rfl⟩, g8, hI9⟩ := hPo
  generalize hq7 : f_X1_tested r4 0 M4 = q7 at h g8 hI9 ⊢
  obtain ⟨r7, M7⟩ := q7
  have h := xb_eq h
  try dsimp only at h g8 hI9
  show V 0 0 36 [(0, .ref 12)] [.int r7, .int 0, .ref 10] LAY (M7, L)
  refine x_run C e_X4_testAndSet_4 e_X4_testAndSet_4_k (pc' := 40) (lv' := [(0, .ref 12)]) (st' := [.int (r7 ||| 128), .int 0, .ref 10]) (σ' := (M7, L)) rfl ⟨trivial, trivial, trivial⟩ ?_
  refine x_callV C (k := 10) (ci := 4) (rest := []) (avs := [.int 0, .int (r7 ||| 128)]) (k_X6_write l 0 (r7 ||| 128) M7 L hI9) yoX6_write ml_X4_253 rfl rfl rfl rfl ⟨Nat.zero_le _, Nat.zero_le _⟩ (show decode cX4_testAndSet 40 = .ok (.invokevirtual 253, 3) from by decide +kernel) rfl (fun v σ' hPo => ?_)
  obtain ⟨⟨rfl, rfl⟩, hI12⟩ := hPo
  generalize hq10 : f_X6_write 0 (r7 ||| 128) M7 = q10 at h hI12 ⊢
  have h := xb_eq h
  show V 0 0 43 [(0, .ref 12)] [] LAY (q10, L)
  subst h
  exact x_vret C (show decode cX4_testAndSet 43 = .ok (.return_, 1) from by decide +kernel) (x_finV ⟨⟨rfl, rfl⟩, hI12⟩) (Nat.le_refl 0) (Nat.le_refl 0)
-- X3_condition
def e_X3_condition_1 : List xI := [(0, .aload_n 0, 1, .null), (1, .getfield 9, 3, .null), (4, .bipush 8, 2, .int 8), (6, .iushr, 1, .null), (7, .bipush 15, 2, .int 15), (9, .iand, 1, .null)]
theorem e_X3_condition_1_k : e_X3_condition_1.all (fun q => xokB cX3_condition q && xokL q) = true := by decide +kernel
abbrev P_X3_condition (r : Int32) (M0 : St) (L : Nat → Nat → Int64) : Option Value → xG → Prop := fun v σ' => PoI r M0 L v σ' ∧ xrg 0 15 r ∧ InvK INVC M0
abbrev R_X3_condition : Room := { frames := 0, cells := 0, slots := 0, locals := 0 }
abbrev C_X3_condition (l : Launch) (r : Int32) (M0 : St) (L : Nat → Nat → Int64) (V : XJ) : Prop := XC l yX3_condition.cls yX3_condition.name cX3_condition 1 R_X3_condition 0 0 fl_X3 kc_X3 LAY.length (xfin (some .int) LAY (P_X3_condition r M0 L)) V
def f_X3_condition (M : St) : Int32 := ((ius (M 11 0) 8) &&& 15)
set_option maxRecDepth 20000 in
set_option maxHeartbeats 4000000 in
theorem k_X3_condition (l : Launch) (M : St) (L : Nat → Nat → Int64) (hI : InvK INVC M) : XM l yX3_condition cX3_condition 1 (some .int) R_X3_condition LAY [.ref 11] (M, L) (P_X3_condition (f_X3_condition M) M L) := by
  refine XM.of (by decide) (Nat.le_of_ble_eq_true rfl) LAY_in cl_ok fl_X3_ok kc_X3_ok (fun V C => ?_)
  obtain ⟨r, h⟩ : ∃ r, f_X3_condition M = r := ⟨_, rfl⟩
  rw [h] at C
  change C_X3_condition l r M L V at C
  unfold f_X3_condition at h
  show V 0 0 0 [(0, .ref 11)] [] LAY (M, L)
  refine x_run C e_X3_condition_1 e_X3_condition_1_k (pc' := 10) (lv' := [(0, .ref 11)]) (st' := [.int ((ius (M 11 0) 8) &&& 15)]) (σ' := (M, L)) rfl ⟨trivial, trivial, trivial, trivial, trivial, trivial, trivial⟩ ?_
  subst h
  exact x_iret C (show decode cX3_condition 10 = .ok (.ireturn, 1) from by decide +kernel) (x_finI rfl ⟨⟨rfl, rfl⟩, (x_rg_and (x := (ius (M 11 0) 8)) (m := 15) (k := 15) (by decide) (by decide)), hI⟩) (Nat.le_refl 0) (Nat.le_refl 0)
-- X8_holds
def e_X8_holds_1 : List xI := [(0, .aload_n 0, 1, .null), (1, .bipush 8, 2, .int 8)]
theorem e_X8_holds_1_k : e_X8_holds_1.all (fun q => xokB cX8_holds q && xokL q) = true := by decide +kernel
def e_X8_holds_2 : List xI := [(6, .aload_n 0, 1, .null), (7, .iconst 2, 1, .int 2)]
theorem e_X8_holds_2_k : e_X8_holds_2.all (fun q => xokB cX8_holds q && xokL q) = true := by decide +kernel
def e_X8_holds_3 : List xI := [(18, .iconst 0, 1, .int 0)]
theorem e_X8_holds_3_k : e_X8_holds_3.all (fun q => xokB cX8_holds q && xokL q) = true := by decide +kernel
def e_X8_holds_4 : List xI := [(14, .iconst 1, 1, .int 1)]
theorem e_X8_holds_4_k : e_X8_holds_4.all (fun q => xokB cX8_holds q && xokL q) = true := by decide +kernel
def e_X8_holds_5 : List xI := [(19, .istore_n 2, 1, .null), (20, .iload_n 1, 1, .null)]
theorem e_X8_holds_5_k : e_X8_holds_5.all (fun q => xokB cX8_holds q && xokL q) = true := by decide +kernel
def e_X8_holds_6 : List xI := [(100, .iconst 1, 1, .int 1)]
theorem e_X8_holds_6_k : e_X8_holds_6.all (fun q => xokB cX8_holds q && xokL q) = true := by decide +kernel
def e_X8_holds_7 : List xI := [(252, .iconst 0, 1, .int 0)]
theorem e_X8_holds_7_k : e_X8_holds_7.all (fun q => xokB cX8_holds q && xokL q) = true := by decide +kernel
def e_X8_holds_8 : List xI := [(102, .aload_n 0, 1, .null), (103, .iconst 5, 1, .int 5)]
theorem e_X8_holds_8_k : e_X8_holds_8.all (fun q => xokB cX8_holds q && xokL q) = true := by decide +kernel
def e_X8_holds_9 : List xI := [(114, .iconst 0, 1, .int 0)]
theorem e_X8_holds_9_k : e_X8_holds_9.all (fun q => xokB cX8_holds q && xokL q) = true := by decide +kernel
def e_X8_holds_10 : List xI := [(110, .iconst 1, 1, .int 1)]
theorem e_X8_holds_10_k : e_X8_holds_10.all (fun q => xokB cX8_holds q && xokL q) = true := by decide +kernel
def e_X8_holds_11 : List xI := [(116, .aload_n 0, 1, .null), (117, .iconst 5, 1, .int 5)]
theorem e_X8_holds_11_k : e_X8_holds_11.all (fun q => xokB cX8_holds q && xokL q) = true := by decide +kernel
def e_X8_holds_12 : List xI := [(122, .aload_n 0, 1, .null), (123, .iconst 1, 1, .int 1)]
theorem e_X8_holds_12_k : e_X8_holds_12.all (fun q => xokB cX8_holds q && xokL q) = true := by decide +kernel
def e_X8_holds_13 : List xI := [(134, .iconst 0, 1, .int 0)]
theorem e_X8_holds_13_k : e_X8_holds_13.all (fun q => xokB cX8_holds q && xokL q) = true := by decide +kernel
def e_X8_holds_14 : List xI := [(130, .iconst 1, 1, .int 1)]
theorem e_X8_holds_14_k : e_X8_holds_14.all (fun q => xokB cX8_holds q && xokL q) = true := by decide +kernel
def e_X8_holds_15 : List xI := [(136, .aload_n 0, 1, .null), (137, .iconst 1, 1, .int 1)]
theorem e_X8_holds_15_k : e_X8_holds_15.all (fun q => xokB cX8_holds q && xokL q) = true := by decide +kernel
def e_X8_holds_16 : List xI := [(142, .aload_n 0, 1, .null), (143, .iconst 4, 1, .int 4)]
theorem e_X8_holds_16_k : e_X8_holds_16.all (fun q => xokB cX8_holds q && xokL q) = true := by decide +kernel
def e_X8_holds_17 : List xI := [(154, .iconst 0, 1, .int 0)]
theorem e_X8_holds_17_k : e_X8_holds_17.all (fun q => xokB cX8_holds q && xokL q) = true := by decide +kernel
def e_X8_holds_18 : List xI := [(150, .iconst 1, 1, .int 1)]
theorem e_X8_holds_18_k : e_X8_holds_18.all (fun q => xokB cX8_holds q && xokL q) = true := by decide +kernel
def e_X8_holds_19 : List xI := [(156, .aload_n 0, 1, .null), (157, .iconst 4, 1, .int 4)]
theorem e_X8_holds_19_k : e_X8_holds_19.all (fun q => xokB cX8_holds q && xokL q) = true := by decide +kernel
def e_X8_holds_20 : List xI := [(162, .aload_n 0, 1, .null), (163, .iconst 2, 1, .int 2)]
theorem e_X8_holds_20_k : e_X8_holds_20.all (fun q => xokB cX8_holds q && xokL q) = true := by decide +kernel
def e_X8_holds_21 : List xI := [(174, .iconst 0, 1, .int 0)]
theorem e_X8_holds_21_k : e_X8_holds_21.all (fun q => xokB cX8_holds q && xokL q) = true := by decide +kernel
def e_X8_holds_22 : List xI := [(170, .iconst 1, 1, .int 1)]
theorem e_X8_holds_22_k : e_X8_holds_22.all (fun q => xokB cX8_holds q && xokL q) = true := by decide +kernel
def e_X8_holds_23 : List xI := [(176, .aload_n 0, 1, .null), (177, .iconst 2, 1, .int 2)]
theorem e_X8_holds_23_k : e_X8_holds_23.all (fun q => xokB cX8_holds q && xokL q) = true := by decide +kernel
def e_X8_holds_24 : List xI := [(182, .aload_n 0, 1, .null), (183, .bipush 8, 2, .int 8)]
theorem e_X8_holds_24_k : e_X8_holds_24.all (fun q => xokB cX8_holds q && xokL q) = true := by decide +kernel
def e_X8_holds_25 : List xI := [(195, .iconst 0, 1, .int 0)]
theorem e_X8_holds_25_k : e_X8_holds_25.all (fun q => xokB cX8_holds q && xokL q) = true := by decide +kernel
def e_X8_holds_26 : List xI := [(191, .iconst 1, 1, .int 1)]
theorem e_X8_holds_26_k : e_X8_holds_26.all (fun q => xokB cX8_holds q && xokL q) = true := by decide +kernel
def e_X8_holds_27 : List xI := [(197, .aload_n 0, 1, .null), (198, .bipush 8, 2, .int 8)]
theorem e_X8_holds_27_k : e_X8_holds_27.all (fun q => xokB cX8_holds q && xokL q) = true := by decide +kernel
def e_X8_holds_28 : List xI := [(204, .iload_n 2, 1, .null)]
theorem e_X8_holds_28_k : e_X8_holds_28.all (fun q => xokB cX8_holds q && xokL q) = true := by decide +kernel
def e_X8_holds_29 : List xI := [(206, .iload_n 2, 1, .null)]
theorem e_X8_holds_29_k : e_X8_holds_29.all (fun q => xokB cX8_holds q && xokL q) = true := by decide +kernel
def e_X8_holds_30 : List xI := [(214, .iconst 0, 1, .int 0)]
theorem e_X8_holds_30_k : e_X8_holds_30.all (fun q => xokB cX8_holds q && xokL q) = true := by decide +kernel
def e_X8_holds_31 : List xI := [(210, .iconst 1, 1, .int 1)]
theorem e_X8_holds_31_k : e_X8_holds_31.all (fun q => xokB cX8_holds q && xokL q) = true := by decide +kernel
def e_X8_holds_32 : List xI := [(216, .iload_n 2, 1, .null)]
theorem e_X8_holds_32_k : e_X8_holds_32.all (fun q => xokB cX8_holds q && xokL q) = true := by decide +kernel
def e_X8_holds_33 : List xI := [(232, .iconst 0, 1, .int 0)]
theorem e_X8_holds_33_k : e_X8_holds_33.all (fun q => xokB cX8_holds q && xokL q) = true := by decide +kernel
def e_X8_holds_34 : List xI := [(220, .aload_n 0, 1, .null), (221, .iconst 4, 1, .int 4)]
theorem e_X8_holds_34_k : e_X8_holds_34.all (fun q => xokB cX8_holds q && xokL q) = true := by decide +kernel
def e_X8_holds_35 : List xI := [(228, .iconst 1, 1, .int 1)]
theorem e_X8_holds_35_k : e_X8_holds_35.all (fun q => xokB cX8_holds q && xokL q) = true := by decide +kernel
def e_X8_holds_36 : List xI := [(234, .iload_n 2, 1, .null)]
theorem e_X8_holds_36_k : e_X8_holds_36.all (fun q => xokB cX8_holds q && xokL q) = true := by decide +kernel
def e_X8_holds_37 : List xI := [(246, .iconst 1, 1, .int 1)]
theorem e_X8_holds_37_k : e_X8_holds_37.all (fun q => xokB cX8_holds q && xokL q) = true := by decide +kernel
def e_X8_holds_38 : List xI := [(238, .aload_n 0, 1, .null), (239, .iconst 4, 1, .int 4)]
theorem e_X8_holds_38_k : e_X8_holds_38.all (fun q => xokB cX8_holds q && xokL q) = true := by decide +kernel
def e_X8_holds_39 : List xI := [(250, .iconst 0, 1, .int 0)]
theorem e_X8_holds_39_k : e_X8_holds_39.all (fun q => xokB cX8_holds q && xokL q) = true := by decide +kernel
abbrev P_X8_holds (r : Int32) (M0 : St) (L : Nat → Nat → Int64) : Option Value → xG → Prop := fun v σ' => PoI r M0 L v σ' ∧ xrg 0 1 r ∧ InvK INVC M0
abbrev R_X8_holds : Room := { frames := 1, cells := 0, slots := 0, locals := 21 }
abbrev C_X8_holds (l : Launch) (r : Int32) (M0 : St) (L : Nat → Nat → Int64) (V : XJ) : Prop := XC l yX8_holds.cls yX8_holds.name cX8_holds 3 R_X8_holds 0 0 fl_X8 kc_X8 LAY.length (xfin (some .boolean) LAY (P_X8_holds r M0 L)) V
def f_X8_holds_19 (x1 : Int32) (s0 : Int32) (M : St) : Int32 := (if x1 = 0 then 1 else (if x1 = 1 then 0 else (if x1 = 2 then (if (f_X8_has 5 M) = 0 then 1 else 0) else (if x1 = 3 then (f_X8_has 5 M) else (if x1 = 4 then (if (f_X8_has 1 M) = 0 then 1 else 0) else (if x1 = 5 then (f_X8_has 1 M) else (if x1 = 6 then (if (f_X8_has 4 M) = 0 then 1 else 0) else (if x1 = 7 then (f_X8_has 4 M) else (if x1 = 8 then (if (f_X8_has 2 M) = 0 then 1 else 0) else (if x1 = 9 then (f_X8_has 2 M) else (if x1 = 10 then (if (f_X8_has 8 M) = 0 then 1 else 0) else (if x1 = 11 then (f_X8_has 8 M) else (if x1 = 12 then s0 else (if x1 = 13 then (if s0 = 0 then 1 else 0) else (if x1 = 14 then (if s0 = 0 then 0 else (if (f_X8_has 4 M) = 0 then 1 else 0)) else (if x1 = 15 then (if s0 = 0 then 1 else (if (f_X8_has 4 M) = 0 then 0 else 1)) else 0))))))))))))))))
def f_X8_holds (a1 : Int32) (M : St) : Int32 := (if (f_X8_has 8 M) = (f_X8_has 2 M) then f_X8_holds_19 a1 1 M else f_X8_holds_19 a1 0 M)
set_option maxRecDepth 20000 in
set_option maxHeartbeats 4000000 in
theorem b_X8_holds_19 {l : Launch} {L : Nat → Nat → Int64} {V : XJ} (r : Int32) {M : St} (C : C_X8_holds l r M L V) (x1 : Int32) (s0 : Int32) (ws0 : xrg 0 1 s0) (hI : InvK INVC M) (h : f_X8_holds_19 x1 s0 M = r) : V 0 0 19 [(0, .ref 1), (1, .int x1)] [.int s0] LAY (M, L) := by
  unfold f_X8_holds_19 at h
  refine x_run C e_X8_holds_5 e_X8_holds_5_k (pc' := 21) (lv' := [(2, .int s0), (0, .ref 1), (1, .int x1)]) (st' := [.int x1]) (σ' := (M, L)) rfl ⟨trivial, trivial, trivial⟩ ?_
  by_cases c8 : x1 = 0
  · rw [if_pos c8] at h
    refine x_tin C (show decode cX8_holds 21 = .ok (.tableswitch 231 0 15 #[79, 231, 81, 95, 101, 115, 121, 135, 141, 155, 161, 176, 183, 185, 195, 213], 79) from by decide +kernel) 0 c8 (off := 79) (tgt := 100) (by decide) ?_
    refine x_run C e_X8_holds_6 e_X8_holds_6_k (pc' := 101) (lv' := [(2, .int s0), (0, .ref 1), (1, .int x1)]) (st' := [.int 1]) (σ' := (M, L)) rfl ⟨trivial, trivial⟩ ?_
    subst h
    exact x_iret C (show decode cX8_holds 101 = .ok (.ireturn, 1) from by decide +kernel) (x_finI (x_nb (x_rgw (x_rgc (x := 1) (k := 1) (by decide)) (lo' := 0) (hi' := 1) (by decide) (by decide))) ⟨⟨rfl, rfl⟩, (x_rgw (x_rgc (x := 1) (k := 1) (by decide)) (lo' := 0) (hi' := 1) (by decide) (by decide)), hI⟩) (Nat.le_refl 0) (Nat.le_refl 0)
  rw [if_neg c8] at h
  by_cases c9 : x1 = 1
  · rw [if_pos c9] at h
    refine x_tin C (show decode cX8_holds 21 = .ok (.tableswitch 231 0 15 #[79, 231, 81, 95, 101, 115, 121, 135, 141, 155, 161, 176, 183, 185, 195, 213], 79) from by decide +kernel) 1 c9 (off := 231) (tgt := 252) (by decide) ?_
    refine x_run C e_X8_holds_7 e_X8_holds_7_k (pc' := 253) (lv' := [(2, .int s0), (0, .ref 1), (1, .int x1)]) (st' := [.int 0]) (σ' := (M, L)) rfl ⟨trivial, trivial⟩ ?_
    subst h
    exact x_iret C (show decode cX8_holds 253 = .ok (.ireturn, 1) from by decide +kernel) (x_finI (x_nb (x_rgw (x_rgc (x := 0) (k := 0) (by decide)) (lo' := 0) (hi' := 1) (by decide) (by decide))) ⟨⟨rfl, rfl⟩, (x_rgw (x_rgc (x := 0) (k := 0) (by decide)) (lo' := 0) (hi' := 1) (by decide) (by decide)), hI⟩) (Nat.le_refl 0) (Nat.le_refl 0)
  rw [if_neg c9] at h
  by_cases c10 : x1 = 2
  · rw [if_pos c10] at h
    refine x_tin C (show decode cX8_holds 21 = .ok (.tableswitch 231 0 15 #[79, 231, 81, 95, 101, 115, 121, 135, 141, 155, 161, 176, 183, 185, 195, 213], 79) from by decide +kernel) 2 c10 (off := 81) (tgt := 102) (by decide) ?_
    refine x_run C e_X8_holds_8 e_X8_holds_8_k (pc' := 104) (lv' := [(2, .int s0), (0, .ref 1), (1, .int x1)]) (st' := [.int 5, .ref 1]) (σ' := (M, L)) rfl ⟨trivial, trivial, trivial⟩ ?_
    refine x_callV C (k := 1) (ci := 6) (rest := []) (avs := [.int 5]) (k_X8_has l 5 M L hI) yoX8_has ml_X8_25 rfl rfl rfl rfl ⟨Nat.zero_le _, Nat.zero_le _⟩ (show decode cX8_holds 104 = .ok (.invokevirtual 25, 3) from by decide +kernel) rfl (fun v σ' hPo => ?_)
    obtain ⟨⟨rfl, rfl⟩, g12, hI13⟩ := hPo
    show V 0 0 107 [(2, .int s0), (0, .ref 1), (1, .int x1)] [.int (f_X8_has 5 M)] LAY (M, L)
    refine x_if_ne C (show decode cX8_holds 107 = .ok (.ifCond .ne 7, 3) from by decide +kernel) (tgt := 114) (by decide) (fun c14 => ?_) (fun c14 => ?_)
    · rw [if_neg c14] at h
      have g15 : xrg 1 1 (f_X8_has 5 M) := (x_c_ne g12 (by decide) c14)
      refine x_run C e_X8_holds_9 e_X8_holds_9_k (pc' := 115) (lv' := [(2, .int s0), (0, .ref 1), (1, .int x1)]) (st' := [.int 0]) (σ' := (M, L)) rfl ⟨trivial, trivial⟩ ?_
      subst h
      exact x_iret C (show decode cX8_holds 115 = .ok (.ireturn, 1) from by decide +kernel) (x_finI (x_nb (x_rgw (x_rgc (x := 0) (k := 0) (by decide)) (lo' := 0) (hi' := 1) (by decide) (by decide))) ⟨⟨rfl, rfl⟩, (x_rgw (x_rgc (x := 0) (k := 0) (by decide)) (lo' := 0) (hi' := 1) (by decide) (by decide)), hI⟩) (Nat.le_refl 0) (Nat.le_refl 0)
    · rw [if_pos c14] at h
      have g16 : xrg 0 0 (f_X8_has 5 M) := (x_c_eq g12 (x_rgc (x := 0) (k := 0) (by decide)) c14).1
      refine x_run C e_X8_holds_10 e_X8_holds_10_k (pc' := 111) (lv' := [(2, .int s0), (0, .ref 1), (1, .int x1)]) (st' := [.int 1]) (σ' := (M, L)) rfl ⟨trivial, trivial⟩ ?_
      refine x_goto C (show decode cX8_holds 111 = .ok (.goto 4, 3) from by decide +kernel) (tgt := 115) (by decide) ?_
      subst h
      exact x_iret C (show decode cX8_holds 115 = .ok (.ireturn, 1) from by decide +kernel) (x_finI (x_nb (x_rgw (x_rgc (x := 1) (k := 1) (by decide)) (lo' := 0) (hi' := 1) (by decide) (by decide))) ⟨⟨rfl, rfl⟩, (x_rgw (x_rgc (x := 1) (k := 1) (by decide)) (lo' := 0) (hi' := 1) (by decide) (by decide)), hI⟩) (Nat.le_refl 0) (Nat.le_refl 0)
  rw [if_neg c10] at h
  by_cases c17 : x1 = 3
  · rw [if_pos c17] at h
    refine x_tin C (show decode cX8_holds 21 = .ok (.tableswitch 231 0 15 #[79, 231, 81, 95, 101, 115, 121, 135, 141, 155, 161, 176, 183, 185, 195, 213], 79) from by decide +kernel) 3 c17 (off := 95) (tgt := 116) (by decide) ?_
    refine x_run C e_X8_holds_11 e_X8_holds_11_k (pc' := 118) (lv' := [(2, .int s0), (0, .ref 1), (1, .int x1)]) (st' := [.int 5, .ref 1]) (σ' := (M, L)) rfl ⟨trivial, trivial, trivial⟩ ?_
    refine x_callV C (k := 1) (ci := 6) (rest := []) (avs := [.int 5]) (k_X8_has l 5 M L hI) yoX8_has ml_X8_25 rfl rfl rfl rfl ⟨Nat.zero_le _, Nat.zero_le _⟩ (show decode cX8_holds 118 = .ok (.invokevirtual 25, 3) from by decide +kernel) rfl (fun v σ' hPo => ?_)
    obtain ⟨⟨rfl, rfl⟩, g19, hI20⟩ := hPo
    show V 0 0 121 [(2, .int s0), (0, .ref 1), (1, .int x1)] [.int (f_X8_has 5 M)] LAY (M, L)
    subst h
    exact x_iret C (show decode cX8_holds 121 = .ok (.ireturn, 1) from by decide +kernel) (x_finI (x_nb g19) ⟨⟨rfl, rfl⟩, g19, hI⟩) (Nat.le_refl 0) (Nat.le_refl 0)
  rw [if_neg c17] at h
  by_cases c21 : x1 = 4
  · rw [if_pos c21] at h
    refine x_tin C (show decode cX8_holds 21 = .ok (.tableswitch 231 0 15 #[79, 231, 81, 95, 101, 115, 121, 135, 141, 155, 161, 176, 183, 185, 195, 213], 79) from by decide +kernel) 4 c21 (off := 101) (tgt := 122) (by decide) ?_
    refine x_run C e_X8_holds_12 e_X8_holds_12_k (pc' := 124) (lv' := [(2, .int s0), (0, .ref 1), (1, .int x1)]) (st' := [.int 1, .ref 1]) (σ' := (M, L)) rfl ⟨trivial, trivial, trivial⟩ ?_
    refine x_callV C (k := 1) (ci := 6) (rest := []) (avs := [.int 1]) (k_X8_has l 1 M L hI) yoX8_has ml_X8_25 rfl rfl rfl rfl ⟨Nat.zero_le _, Nat.zero_le _⟩ (show decode cX8_holds 124 = .ok (.invokevirtual 25, 3) from by decide +kernel) rfl (fun v σ' hPo => ?_)
    obtain ⟨⟨rfl, rfl⟩, g23, hI24⟩ := hPo
    show V 0 0 127 [(2, .int s0), (0, .ref 1), (1, .int x1)] [.int (f_X8_has 1 M)] LAY (M, L)
    refine x_if_ne C (show decode cX8_holds 127 = .ok (.ifCond .ne 7, 3) from by decide +kernel) (tgt := 134) (by decide) (fun c25 => ?_) (fun c25 => ?_)
    · rw [if_neg c25] at h
      have g26 : xrg 1 1 (f_X8_has 1 M) := (x_c_ne g23 (by decide) c25)
      refine x_run C e_X8_holds_13 e_X8_holds_13_k (pc' := 135) (lv' := [(2, .int s0), (0, .ref 1), (1, .int x1)]) (st' := [.int 0]) (σ' := (M, L)) rfl ⟨trivial, trivial⟩ ?_
      subst h
      exact x_iret C (show decode cX8_holds 135 = .ok (.ireturn, 1) from by decide +kernel) (x_finI (x_nb (x_rgw (x_rgc (x := 0) (k := 0) (by decide)) (lo' := 0) (hi' := 1) (by decide) (by decide))) ⟨⟨rfl, rfl⟩, (x_rgw (x_rgc (x := 0) (k := 0) (by decide)) (lo' := 0) (hi' := 1) (by decide) (by decide)), hI⟩) (Nat.le_refl 0) (Nat.le_refl 0)
    · rw [if_pos c25] at h
      have g27 : xrg 0 0 (f_X8_has 1 M) := (x_c_eq g23 (x_rgc (x := 0) (k := 0) (by decide)) c25).1
      refine x_run C e_X8_holds_14 e_X8_holds_14_k (pc' := 131) (lv' := [(2, .int s0), (0, .ref 1), (1, .int x1)]) (st' := [.int 1]) (σ' := (M, L)) rfl ⟨trivial, trivial⟩ ?_
      refine x_goto C (show decode cX8_holds 131 = .ok (.goto 4, 3) from by decide +kernel) (tgt := 135) (by decide) ?_
      subst h
      exact x_iret C (show decode cX8_holds 135 = .ok (.ireturn, 1) from by decide +kernel) (x_finI (x_nb (x_rgw (x_rgc (x := 1) (k := 1) (by decide)) (lo' := 0) (hi' := 1) (by decide) (by decide))) ⟨⟨rfl, rfl⟩, (x_rgw (x_rgc (x := 1) (k := 1) (by decide)) (lo' := 0) (hi' := 1) (by decide) (by decide)), hI⟩) (Nat.le_refl 0) (Nat.le_refl 0)
  rw [if_neg c21] at h
  by_cases c28 : x1 = 5
  · rw [if_pos c28] at h
    refine x_tin C (show decode cX8_holds 21 = .ok (.tableswitch 231 0 15 #[79, 231, 81, 95, 101, 115, 121, 135, 141, 155, 161, 176, 183, 185, 195, 213], 79) from by decide +kernel) 5 c28 (off := 115) (tgt := 136) (by decide) ?_
    refine x_run C e_X8_holds_15 e_X8_holds_15_k (pc' := 138) (lv' := [(2, .int s0), (0, .ref 1), (1, .int x1)]) (st' := [.int 1, .ref 1]) (σ' := (M, L)) rfl ⟨trivial, trivial, trivial⟩ ?_
    refine x_callV C (k := 1) (ci := 6) (rest := []) (avs := [.int 1]) (k_X8_has l 1 M L hI) yoX8_has ml_X8_25 rfl rfl rfl rfl ⟨Nat.zero_le _, Nat.zero_le _⟩ (show decode cX8_holds 138 = .ok (.invokevirtual 25, 3) from by decide +kernel) rfl (fun v σ' hPo => ?_)
    obtain ⟨⟨rfl, rfl⟩, g30, hI31⟩ := hPo
    show V 0 0 141 [(2, .int s0), (0, .ref 1), (1, .int x1)] [.int (f_X8_has 1 M)] LAY (M, L)
    subst h
    exact x_iret C (show decode cX8_holds 141 = .ok (.ireturn, 1) from by decide +kernel) (x_finI (x_nb g30) ⟨⟨rfl, rfl⟩, g30, hI⟩) (Nat.le_refl 0) (Nat.le_refl 0)
  rw [if_neg c28] at h
  by_cases c32 : x1 = 6
  · rw [if_pos c32] at h
    refine x_tin C (show decode cX8_holds 21 = .ok (.tableswitch 231 0 15 #[79, 231, 81, 95, 101, 115, 121, 135, 141, 155, 161, 176, 183, 185, 195, 213], 79) from by decide +kernel) 6 c32 (off := 121) (tgt := 142) (by decide) ?_
    refine x_run C e_X8_holds_16 e_X8_holds_16_k (pc' := 144) (lv' := [(2, .int s0), (0, .ref 1), (1, .int x1)]) (st' := [.int 4, .ref 1]) (σ' := (M, L)) rfl ⟨trivial, trivial, trivial⟩ ?_
    refine x_callV C (k := 1) (ci := 6) (rest := []) (avs := [.int 4]) (k_X8_has l 4 M L hI) yoX8_has ml_X8_25 rfl rfl rfl rfl ⟨Nat.zero_le _, Nat.zero_le _⟩ (show decode cX8_holds 144 = .ok (.invokevirtual 25, 3) from by decide +kernel) rfl (fun v σ' hPo => ?_)
    obtain ⟨⟨rfl, rfl⟩, g34, hI35⟩ := hPo
    show V 0 0 147 [(2, .int s0), (0, .ref 1), (1, .int x1)] [.int (f_X8_has 4 M)] LAY (M, L)
    refine x_if_ne C (show decode cX8_holds 147 = .ok (.ifCond .ne 7, 3) from by decide +kernel) (tgt := 154) (by decide) (fun c36 => ?_) (fun c36 => ?_)
    · rw [if_neg c36] at h
      have g37 : xrg 1 1 (f_X8_has 4 M) := (x_c_ne g34 (by decide) c36)
      refine x_run C e_X8_holds_17 e_X8_holds_17_k (pc' := 155) (lv' := [(2, .int s0), (0, .ref 1), (1, .int x1)]) (st' := [.int 0]) (σ' := (M, L)) rfl ⟨trivial, trivial⟩ ?_
      subst h
      exact x_iret C (show decode cX8_holds 155 = .ok (.ireturn, 1) from by decide +kernel) (x_finI (x_nb (x_rgw (x_rgc (x := 0) (k := 0) (by decide)) (lo' := 0) (hi' := 1) (by decide) (by decide))) ⟨⟨rfl, rfl⟩, (x_rgw (x_rgc (x := 0) (k := 0) (by decide)) (lo' := 0) (hi' := 1) (by decide) (by decide)), hI⟩) (Nat.le_refl 0) (Nat.le_refl 0)
    · rw [if_pos c36] at h
      have g38 : xrg 0 0 (f_X8_has 4 M) := (x_c_eq g34 (x_rgc (x := 0) (k := 0) (by decide)) c36).1
      refine x_run C e_X8_holds_18 e_X8_holds_18_k (pc' := 151) (lv' := [(2, .int s0), (0, .ref 1), (1, .int x1)]) (st' := [.int 1]) (σ' := (M, L)) rfl ⟨trivial, trivial⟩ ?_
      refine x_goto C (show decode cX8_holds 151 = .ok (.goto 4, 3) from by decide +kernel) (tgt := 155) (by decide) ?_
      subst h
      exact x_iret C (show decode cX8_holds 155 = .ok (.ireturn, 1) from by decide +kernel) (x_finI (x_nb (x_rgw (x_rgc (x := 1) (k := 1) (by decide)) (lo' := 0) (hi' := 1) (by decide) (by decide))) ⟨⟨rfl, rfl⟩, (x_rgw (x_rgc (x := 1) (k := 1) (by decide)) (lo' := 0) (hi' := 1) (by decide) (by decide)), hI⟩) (Nat.le_refl 0) (Nat.le_refl 0)
  rw [if_neg c32] at h
  by_cases c39 : x1 = 7
  · rw [if_pos c39] at h
    refine x_tin C (show decode cX8_holds 21 = .ok (.tableswitch 231 0 15 #[79, 231, 81, 95, 101, 115, 121, 135, 141, 155, 161, 176, 183, 185, 195, 213], 79) from by decide +kernel) 7 c39 (off := 135) (tgt := 156) (by decide) ?_
    refine x_run C e_X8_holds_19 e_X8_holds_19_k (pc' := 158) (lv' := [(2, .int s0), (0, .ref 1), (1, .int x1)]) (st' := [.int 4, .ref 1]) (σ' := (M, L)) rfl ⟨trivial, trivial, trivial⟩ ?_
    refine x_callV C (k := 1) (ci := 6) (rest := []) (avs := [.int 4]) (k_X8_has l 4 M L hI) yoX8_has ml_X8_25 rfl rfl rfl rfl ⟨Nat.zero_le _, Nat.zero_le _⟩ (show decode cX8_holds 158 = .ok (.invokevirtual 25, 3) from by decide +kernel) rfl (fun v σ' hPo => ?_)
    obtain ⟨⟨rfl, rfl⟩, g41, hI42⟩ := hPo
    show V 0 0 161 [(2, .int s0), (0, .ref 1), (1, .int x1)] [.int (f_X8_has 4 M)] LAY (M, L)
    subst h
    exact x_iret C (show decode cX8_holds 161 = .ok (.ireturn, 1) from by decide +kernel) (x_finI (x_nb g41) ⟨⟨rfl, rfl⟩, g41, hI⟩) (Nat.le_refl 0) (Nat.le_refl 0)
  rw [if_neg c39] at h
  by_cases c43 : x1 = 8
  · rw [if_pos c43] at h
    refine x_tin C (show decode cX8_holds 21 = .ok (.tableswitch 231 0 15 #[79, 231, 81, 95, 101, 115, 121, 135, 141, 155, 161, 176, 183, 185, 195, 213], 79) from by decide +kernel) 8 c43 (off := 141) (tgt := 162) (by decide) ?_
    refine x_run C e_X8_holds_20 e_X8_holds_20_k (pc' := 164) (lv' := [(2, .int s0), (0, .ref 1), (1, .int x1)]) (st' := [.int 2, .ref 1]) (σ' := (M, L)) rfl ⟨trivial, trivial, trivial⟩ ?_
    refine x_callV C (k := 1) (ci := 6) (rest := []) (avs := [.int 2]) (k_X8_has l 2 M L hI) yoX8_has ml_X8_25 rfl rfl rfl rfl ⟨Nat.zero_le _, Nat.zero_le _⟩ (show decode cX8_holds 164 = .ok (.invokevirtual 25, 3) from by decide +kernel) rfl (fun v σ' hPo => ?_)
    obtain ⟨⟨rfl, rfl⟩, g45, hI46⟩ := hPo
    show V 0 0 167 [(2, .int s0), (0, .ref 1), (1, .int x1)] [.int (f_X8_has 2 M)] LAY (M, L)
    refine x_if_ne C (show decode cX8_holds 167 = .ok (.ifCond .ne 7, 3) from by decide +kernel) (tgt := 174) (by decide) (fun c47 => ?_) (fun c47 => ?_)
    · rw [if_neg c47] at h
      have g48 : xrg 1 1 (f_X8_has 2 M) := (x_c_ne g45 (by decide) c47)
      refine x_run C e_X8_holds_21 e_X8_holds_21_k (pc' := 175) (lv' := [(2, .int s0), (0, .ref 1), (1, .int x1)]) (st' := [.int 0]) (σ' := (M, L)) rfl ⟨trivial, trivial⟩ ?_
      subst h
      exact x_iret C (show decode cX8_holds 175 = .ok (.ireturn, 1) from by decide +kernel) (x_finI (x_nb (x_rgw (x_rgc (x := 0) (k := 0) (by decide)) (lo' := 0) (hi' := 1) (by decide) (by decide))) ⟨⟨rfl, rfl⟩, (x_rgw (x_rgc (x := 0) (k := 0) (by decide)) (lo' := 0) (hi' := 1) (by decide) (by decide)), hI⟩) (Nat.le_refl 0) (Nat.le_refl 0)
    · rw [if_pos c47] at h
      have g49 : xrg 0 0 (f_X8_has 2 M) := (x_c_eq g45 (x_rgc (x := 0) (k := 0) (by decide)) c47).1
      refine x_run C e_X8_holds_22 e_X8_holds_22_k (pc' := 171) (lv' := [(2, .int s0), (0, .ref 1), (1, .int x1)]) (st' := [.int 1]) (σ' := (M, L)) rfl ⟨trivial, trivial⟩ ?_
      refine x_goto C (show decode cX8_holds 171 = .ok (.goto 4, 3) from by decide +kernel) (tgt := 175) (by decide) ?_
      subst h
      exact x_iret C (show decode cX8_holds 175 = .ok (.ireturn, 1) from by decide +kernel) (x_finI (x_nb (x_rgw (x_rgc (x := 1) (k := 1) (by decide)) (lo' := 0) (hi' := 1) (by decide) (by decide))) ⟨⟨rfl, rfl⟩, (x_rgw (x_rgc (x := 1) (k := 1) (by decide)) (lo' := 0) (hi' := 1) (by decide) (by decide)), hI⟩) (Nat.le_refl 0) (Nat.le_refl 0)
  rw [if_neg c43] at h
  by_cases c50 : x1 = 9
  · rw [if_pos c50] at h
    refine x_tin C (show decode cX8_holds 21 = .ok (.tableswitch 231 0 15 #[79, 231, 81, 95, 101, 115, 121, 135, 141, 155, 161, 176, 183, 185, 195, 213], 79) from by decide +kernel) 9 c50 (off := 155) (tgt := 176) (by decide) ?_
    refine x_run C e_X8_holds_23 e_X8_holds_23_k (pc' := 178) (lv' := [(2, .int s0), (0, .ref 1), (1, .int x1)]) (st' := [.int 2, .ref 1]) (σ' := (M, L)) rfl ⟨trivial, trivial, trivial⟩ ?_
    refine x_callV C (k := 1) (ci := 6) (rest := []) (avs := [.int 2]) (k_X8_has l 2 M L hI) yoX8_has ml_X8_25 rfl rfl rfl rfl ⟨Nat.zero_le _, Nat.zero_le _⟩ (show decode cX8_holds 178 = .ok (.invokevirtual 25, 3) from by decide +kernel) rfl (fun v σ' hPo => ?_)
    obtain ⟨⟨rfl, rfl⟩, g52, hI53⟩ := hPo
    show V 0 0 181 [(2, .int s0), (0, .ref 1), (1, .int x1)] [.int (f_X8_has 2 M)] LAY (M, L)
    subst h
    exact x_iret C (show decode cX8_holds 181 = .ok (.ireturn, 1) from by decide +kernel) (x_finI (x_nb g52) ⟨⟨rfl, rfl⟩, g52, hI⟩) (Nat.le_refl 0) (Nat.le_refl 0)
  rw [if_neg c50] at h
  by_cases c54 : x1 = 10
  · rw [if_pos c54] at h
    refine x_tin C (show decode cX8_holds 21 = .ok (.tableswitch 231 0 15 #[79, 231, 81, 95, 101, 115, 121, 135, 141, 155, 161, 176, 183, 185, 195, 213], 79) from by decide +kernel) 10 c54 (off := 161) (tgt := 182) (by decide) ?_
    refine x_run C e_X8_holds_24 e_X8_holds_24_k (pc' := 185) (lv' := [(2, .int s0), (0, .ref 1), (1, .int x1)]) (st' := [.int 8, .ref 1]) (σ' := (M, L)) rfl ⟨trivial, trivial, trivial⟩ ?_
    refine x_callV C (k := 1) (ci := 6) (rest := []) (avs := [.int 8]) (k_X8_has l 8 M L hI) yoX8_has ml_X8_25 rfl rfl rfl rfl ⟨Nat.zero_le _, Nat.zero_le _⟩ (show decode cX8_holds 185 = .ok (.invokevirtual 25, 3) from by decide +kernel) rfl (fun v σ' hPo => ?_)
    obtain ⟨⟨rfl, rfl⟩, g56, hI57⟩ := hPo
    show V 0 0 188 [(2, .int s0), (0, .ref 1), (1, .int x1)] [.int (f_X8_has 8 M)] LAY (M, L)
    refine x_if_ne C (show decode cX8_holds 188 = .ok (.ifCond .ne 7, 3) from by decide +kernel) (tgt := 195) (by decide) (fun c58 => ?_) (fun c58 => ?_)
    · rw [if_neg c58] at h
      have g59 : xrg 1 1 (f_X8_has 8 M) := (x_c_ne g56 (by decide) c58)
      refine x_run C e_X8_holds_25 e_X8_holds_25_k (pc' := 196) (lv' := [(2, .int s0), (0, .ref 1), (1, .int x1)]) (st' := [.int 0]) (σ' := (M, L)) rfl ⟨trivial, trivial⟩ ?_
      subst h
      exact x_iret C (show decode cX8_holds 196 = .ok (.ireturn, 1) from by decide +kernel) (x_finI (x_nb (x_rgw (x_rgc (x := 0) (k := 0) (by decide)) (lo' := 0) (hi' := 1) (by decide) (by decide))) ⟨⟨rfl, rfl⟩, (x_rgw (x_rgc (x := 0) (k := 0) (by decide)) (lo' := 0) (hi' := 1) (by decide) (by decide)), hI⟩) (Nat.le_refl 0) (Nat.le_refl 0)
    · rw [if_pos c58] at h
      have g60 : xrg 0 0 (f_X8_has 8 M) := (x_c_eq g56 (x_rgc (x := 0) (k := 0) (by decide)) c58).1
      refine x_run C e_X8_holds_26 e_X8_holds_26_k (pc' := 192) (lv' := [(2, .int s0), (0, .ref 1), (1, .int x1)]) (st' := [.int 1]) (σ' := (M, L)) rfl ⟨trivial, trivial⟩ ?_
      refine x_goto C (show decode cX8_holds 192 = .ok (.goto 4, 3) from by decide +kernel) (tgt := 196) (by decide) ?_
      subst h
      exact x_iret C (show decode cX8_holds 196 = .ok (.ireturn, 1) from by decide +kernel) (x_finI (x_nb (x_rgw (x_rgc (x := 1) (k := 1) (by decide)) (lo' := 0) (hi' := 1) (by decide) (by decide))) ⟨⟨rfl, rfl⟩, (x_rgw (x_rgc (x := 1) (k := 1) (by decide)) (lo' := 0) (hi' := 1) (by decide) (by decide)), hI⟩) (Nat.le_refl 0) (Nat.le_refl 0)
  rw [if_neg c54] at h
  by_cases c61 : x1 = 11
  · rw [if_pos c61] at h
    refine x_tin C (show decode cX8_holds 21 = .ok (.tableswitch 231 0 15 #[79, 231, 81, 95, 101, 115, 121, 135, 141, 155, 161, 176, 183, 185, 195, 213], 79) from by decide +kernel) 11 c61 (off := 176) (tgt := 197) (by decide) ?_
    refine x_run C e_X8_holds_27 e_X8_holds_27_k (pc' := 200) (lv' := [(2, .int s0), (0, .ref 1), (1, .int x1)]) (st' := [.int 8, .ref 1]) (σ' := (M, L)) rfl ⟨trivial, trivial, trivial⟩ ?_
    refine x_callV C (k := 1) (ci := 6) (rest := []) (avs := [.int 8]) (k_X8_has l 8 M L hI) yoX8_has ml_X8_25 rfl rfl rfl rfl ⟨Nat.zero_le _, Nat.zero_le _⟩ (show decode cX8_holds 200 = .ok (.invokevirtual 25, 3) from by decide +kernel) rfl (fun v σ' hPo => ?_)
    obtain ⟨⟨rfl, rfl⟩, g63, hI64⟩ := hPo
    show V 0 0 203 [(2, .int s0), (0, .ref 1), (1, .int x1)] [.int (f_X8_has 8 M)] LAY (M, L)
    subst h
    exact x_iret C (show decode cX8_holds 203 = .ok (.ireturn, 1) from by decide +kernel) (x_finI (x_nb g63) ⟨⟨rfl, rfl⟩, g63, hI⟩) (Nat.le_refl 0) (Nat.le_refl 0)
  rw [if_neg c61] at h
  by_cases c65 : x1 = 12
  · rw [if_pos c65] at h
    refine x_tin C (show decode cX8_holds 21 = .ok (.tableswitch 231 0 15 #[79, 231, 81, 95, 101, 115, 121, 135, 141, 155, 161, 176, 183, 185, 195, 213], 79) from by decide +kernel) 12 c65 (off := 183) (tgt := 204) (by decide) ?_
    refine x_run C e_X8_holds_28 e_X8_holds_28_k (pc' := 205) (lv' := [(2, .int s0), (0, .ref 1), (1, .int x1)]) (st' := [.int s0]) (σ' := (M, L)) rfl ⟨trivial, trivial⟩ ?_
    subst h
    exact x_iret C (show decode cX8_holds 205 = .ok (.ireturn, 1) from by decide +kernel) (x_finI (x_nb ws0) ⟨⟨rfl, rfl⟩, ws0, hI⟩) (Nat.le_refl 0) (Nat.le_refl 0)
  rw [if_neg c65] at h
  by_cases c66 : x1 = 13
  · rw [if_pos c66] at h
    refine x_tin C (show decode cX8_holds 21 = .ok (.tableswitch 231 0 15 #[79, 231, 81, 95, 101, 115, 121, 135, 141, 155, 161, 176, 183, 185, 195, 213], 79) from by decide +kernel) 13 c66 (off := 185) (tgt := 206) (by decide) ?_
    refine x_run C e_X8_holds_29 e_X8_holds_29_k (pc' := 207) (lv' := [(2, .int s0), (0, .ref 1), (1, .int x1)]) (st' := [.int s0]) (σ' := (M, L)) rfl ⟨trivial, trivial⟩ ?_
    refine x_if_ne C (show decode cX8_holds 207 = .ok (.ifCond .ne 7, 3) from by decide +kernel) (tgt := 214) (by decide) (fun c67 => ?_) (fun c67 => ?_)
    · rw [if_neg c67] at h
      have g68 : xrg 1 1 s0 := (x_c_ne ws0 (by decide) c67)
      refine x_run C e_X8_holds_30 e_X8_holds_30_k (pc' := 215) (lv' := [(2, .int s0), (0, .ref 1), (1, .int x1)]) (st' := [.int 0]) (σ' := (M, L)) rfl ⟨trivial, trivial⟩ ?_
      subst h
      exact x_iret C (show decode cX8_holds 215 = .ok (.ireturn, 1) from by decide +kernel) (x_finI (x_nb (x_rgw (x_rgc (x := 0) (k := 0) (by decide)) (lo' := 0) (hi' := 1) (by decide) (by decide))) ⟨⟨rfl, rfl⟩, (x_rgw (x_rgc (x := 0) (k := 0) (by decide)) (lo' := 0) (hi' := 1) (by decide) (by decide)), hI⟩) (Nat.le_refl 0) (Nat.le_refl 0)
    · rw [if_pos c67] at h
      have g69 : xrg 0 0 s0 := (x_c_eq ws0 (x_rgc (x := 0) (k := 0) (by decide)) c67).1
      refine x_run C e_X8_holds_31 e_X8_holds_31_k (pc' := 211) (lv' := [(2, .int s0), (0, .ref 1), (1, .int x1)]) (st' := [.int 1]) (σ' := (M, L)) rfl ⟨trivial, trivial⟩ ?_
      refine x_goto C (show decode cX8_holds 211 = .ok (.goto 4, 3) from by decide +kernel) (tgt := 215) (by decide) ?_
      subst h
      exact x_iret C (show decode cX8_holds 215 = .ok (.ireturn, 1) from by decide +kernel) (x_finI (x_nb (x_rgw (x_rgc (x := 1) (k := 1) (by decide)) (lo' := 0) (hi' := 1) (by decide) (by decide))) ⟨⟨rfl, rfl⟩, (x_rgw (x_rgc (x := 1) (k := 1) (by decide)) (lo' := 0) (hi' := 1) (by decide) (by decide)), hI⟩) (Nat.le_refl 0) (Nat.le_refl 0)
  rw [if_neg c66] at h
  by_cases c70 : x1 = 14
  · rw [if_pos c70] at h
    refine x_tin C (show decode cX8_holds 21 = .ok (.tableswitch 231 0 15 #[79, 231, 81, 95, 101, 115, 121, 135, 141, 155, 161, 176, 183, 185, 195, 213], 79) from by decide +kernel) 14 c70 (off := 195) (tgt := 216) (by decide) ?_
    refine x_run C e_X8_holds_32 e_X8_holds_32_k (pc' := 217) (lv' := [(2, .int s0), (0, .ref 1), (1, .int x1)]) (st' := [.int s0]) (σ' := (M, L)) rfl ⟨trivial, trivial⟩ ?_
    refine x_if_eq C (show decode cX8_holds 217 = .ok (.ifCond .eq 15, 3) from by decide +kernel) (tgt := 232) (by decide) (fun c71 => ?_) (fun c71 => ?_)
    · rw [if_pos c71] at h
      have g72 : xrg 0 0 s0 := (x_c_eq ws0 (x_rgc (x := 0) (k := 0) (by decide)) c71).1
      refine x_run C e_X8_holds_33 e_X8_holds_33_k (pc' := 233) (lv' := [(2, .int s0), (0, .ref 1), (1, .int x1)]) (st' := [.int 0]) (σ' := (M, L)) rfl ⟨trivial, trivial⟩ ?_
      subst h
      exact x_iret C (show decode cX8_holds 233 = .ok (.ireturn, 1) from by decide +kernel) (x_finI (x_nb (x_rgw (x_rgc (x := 0) (k := 0) (by decide)) (lo' := 0) (hi' := 1) (by decide) (by decide))) ⟨⟨rfl, rfl⟩, (x_rgw (x_rgc (x := 0) (k := 0) (by decide)) (lo' := 0) (hi' := 1) (by decide) (by decide)), hI⟩) (Nat.le_refl 0) (Nat.le_refl 0)
    · rw [if_neg c71] at h
      have g73 : xrg 1 1 s0 := (x_c_ne ws0 (by decide) c71)
      refine x_run C e_X8_holds_34 e_X8_holds_34_k (pc' := 222) (lv' := [(2, .int s0), (0, .ref 1), (1, .int x1)]) (st' := [.int 4, .ref 1]) (σ' := (M, L)) rfl ⟨trivial, trivial, trivial⟩ ?_
      refine x_callV C (k := 1) (ci := 6) (rest := []) (avs := [.int 4]) (k_X8_has l 4 M L hI) yoX8_has ml_X8_25 rfl rfl rfl rfl ⟨Nat.zero_le _, Nat.zero_le _⟩ (show decode cX8_holds 222 = .ok (.invokevirtual 25, 3) from by decide +kernel) rfl (fun v σ' hPo => ?_)
      obtain ⟨⟨rfl, rfl⟩, g75, hI76⟩ := hPo
      show V 0 0 225 [(2, .int s0), (0, .ref 1), (1, .int x1)] [.int (f_X8_has 4 M)] LAY (M, L)
      refine x_if_ne C (show decode cX8_holds 225 = .ok (.ifCond .ne 7, 3) from by decide +kernel) (tgt := 232) (by decide) (fun c77 => ?_) (fun c77 => ?_)
      · rw [if_neg c77] at h
        have g78 : xrg 1 1 (f_X8_has 4 M) := (x_c_ne g75 (by decide) c77)
        refine x_run C e_X8_holds_33 e_X8_holds_33_k (pc' := 233) (lv' := [(2, .int s0), (0, .ref 1), (1, .int x1)]) (st' := [.int 0]) (σ' := (M, L)) rfl ⟨trivial, trivial⟩ ?_
        subst h
        exact x_iret C (show decode cX8_holds 233 = .ok (.ireturn, 1) from by decide +kernel) (x_finI (x_nb (x_rgw (x_rgc (x := 0) (k := 0) (by decide)) (lo' := 0) (hi' := 1) (by decide) (by decide))) ⟨⟨rfl, rfl⟩, (x_rgw (x_rgc (x := 0) (k := 0) (by decide)) (lo' := 0) (hi' := 1) (by decide) (by decide)), hI⟩) (Nat.le_refl 0) (Nat.le_refl 0)
      · rw [if_pos c77] at h
        have g79 : xrg 0 0 (f_X8_has 4 M) := (x_c_eq g75 (x_rgc (x := 0) (k := 0) (by decide)) c77).1
        refine x_run C e_X8_holds_35 e_X8_holds_35_k (pc' := 229) (lv' := [(2, .int s0), (0, .ref 1), (1, .int x1)]) (st' := [.int 1]) (σ' := (M, L)) rfl ⟨trivial, trivial⟩ ?_
        refine x_goto C (show decode cX8_holds 229 = .ok (.goto 4, 3) from by decide +kernel) (tgt := 233) (by decide) ?_
        subst h
        exact x_iret C (show decode cX8_holds 233 = .ok (.ireturn, 1) from by decide +kernel) (x_finI (x_nb (x_rgw (x_rgc (x := 1) (k := 1) (by decide)) (lo' := 0) (hi' := 1) (by decide) (by decide))) ⟨⟨rfl, rfl⟩, (x_rgw (x_rgc (x := 1) (k := 1) (by decide)) (lo' := 0) (hi' := 1) (by decide) (by decide)), hI⟩) (Nat.le_refl 0) (Nat.le_refl 0)
  rw [if_neg c70] at h
  by_cases c80 : x1 = 15
  · rw [if_pos c80] at h
    refine x_tin C (show decode cX8_holds 21 = .ok (.tableswitch 231 0 15 #[79, 231, 81, 95, 101, 115, 121, 135, 141, 155, 161, 176, 183, 185, 195, 213], 79) from by decide +kernel) 15 c80 (off := 213) (tgt := 234) (by decide) ?_
    refine x_run C e_X8_holds_36 e_X8_holds_36_k (pc' := 235) (lv' := [(2, .int s0), (0, .ref 1), (1, .int x1)]) (st' := [.int s0]) (σ' := (M, L)) rfl ⟨trivial, trivial⟩ ?_
    refine x_if_eq C (show decode cX8_holds 235 = .ok (.ifCond .eq 11, 3) from by decide +kernel) (tgt := 246) (by decide) (fun c81 => ?_) (fun c81 => ?_)
    · rw [if_pos c81] at h
      have g82 : xrg 0 0 s0 := (x_c_eq ws0 (x_rgc (x := 0) (k := 0) (by decide)) c81).1
      refine x_run C e_X8_holds_37 e_X8_holds_37_k (pc' := 247) (lv' := [(2, .int s0), (0, .ref 1), (1, .int x1)]) (st' := [.int 1]) (σ' := (M, L)) rfl ⟨trivial, trivial⟩ ?_
      refine x_goto C (show decode cX8_holds 247 = .ok (.goto 4, 3) from by decide +kernel) (tgt := 251) (by decide) ?_
      subst h
      exact x_iret C (show decode cX8_holds 251 = .ok (.ireturn, 1) from by decide +kernel) (x_finI (x_nb (x_rgw (x_rgc (x := 1) (k := 1) (by decide)) (lo' := 0) (hi' := 1) (by decide) (by decide))) ⟨⟨rfl, rfl⟩, (x_rgw (x_rgc (x := 1) (k := 1) (by decide)) (lo' := 0) (hi' := 1) (by decide) (by decide)), hI⟩) (Nat.le_refl 0) (Nat.le_refl 0)
    · rw [if_neg c81] at h
      have g83 : xrg 1 1 s0 := (x_c_ne ws0 (by decide) c81)
      refine x_run C e_X8_holds_38 e_X8_holds_38_k (pc' := 240) (lv' := [(2, .int s0), (0, .ref 1), (1, .int x1)]) (st' := [.int 4, .ref 1]) (σ' := (M, L)) rfl ⟨trivial, trivial, trivial⟩ ?_
      refine x_callV C (k := 1) (ci := 6) (rest := []) (avs := [.int 4]) (k_X8_has l 4 M L hI) yoX8_has ml_X8_25 rfl rfl rfl rfl ⟨Nat.zero_le _, Nat.zero_le _⟩ (show decode cX8_holds 240 = .ok (.invokevirtual 25, 3) from by decide +kernel) rfl (fun v σ' hPo => ?_)
      obtain ⟨⟨rfl, rfl⟩, g85, hI86⟩ := hPo
      show V 0 0 243 [(2, .int s0), (0, .ref 1), (1, .int x1)] [.int (f_X8_has 4 M)] LAY (M, L)
      refine x_if_eq C (show decode cX8_holds 243 = .ok (.ifCond .eq 7, 3) from by decide +kernel) (tgt := 250) (by decide) (fun c87 => ?_) (fun c87 => ?_)
      · rw [if_pos c87] at h
        have g88 : xrg 0 0 (f_X8_has 4 M) := (x_c_eq g85 (x_rgc (x := 0) (k := 0) (by decide)) c87).1
        refine x_run C e_X8_holds_39 e_X8_holds_39_k (pc' := 251) (lv' := [(2, .int s0), (0, .ref 1), (1, .int x1)]) (st' := [.int 0]) (σ' := (M, L)) rfl ⟨trivial, trivial⟩ ?_
        subst h
        exact x_iret C (show decode cX8_holds 251 = .ok (.ireturn, 1) from by decide +kernel) (x_finI (x_nb (x_rgw (x_rgc (x := 0) (k := 0) (by decide)) (lo' := 0) (hi' := 1) (by decide) (by decide))) ⟨⟨rfl, rfl⟩, (x_rgw (x_rgc (x := 0) (k := 0) (by decide)) (lo' := 0) (hi' := 1) (by decide) (by decide)), hI⟩) (Nat.le_refl 0) (Nat.le_refl 0)
      · rw [if_neg c87] at h
        have g89 : xrg 1 1 (f_X8_has 4 M) := (x_c_ne g85 (by decide) c87)
        refine x_run C e_X8_holds_37 e_X8_holds_37_k (pc' := 247) (lv' := [(2, .int s0), (0, .ref 1), (1, .int x1)]) (st' := [.int 1]) (σ' := (M, L)) rfl ⟨trivial, trivial⟩ ?_
        refine x_goto C (show decode cX8_holds 247 = .ok (.goto 4, 3) from by decide +kernel) (tgt := 251) (by decide) ?_
        subst h
        exact x_iret C (show decode cX8_holds 251 = .ok (.ireturn, 1) from by decide +kernel) (x_finI (x_nb (x_rgw (x_rgc (x := 1) (k := 1) (by decide)) (lo' := 0) (hi' := 1) (by decide) (by decide))) ⟨⟨rfl, rfl⟩, (x_rgw (x_rgc (x := 1) (k := 1) (by decide)) (lo' := 0) (hi' := 1) (by decide) (by decide)), hI⟩) (Nat.le_refl 0) (Nat.le_refl 0)
  rw [if_neg c80] at h
  have hz : x1.toInt < 0 ∨ 15 < x1.toInt := by
    have zc8 := lv_neT (a := 0) c8 (by decide)
    have zc9 := lv_neT (a := 1) c9 (by decide)
    have zc10 := lv_neT (a := 2) c10 (by decide)
    have zc17 := lv_neT (a := 3) c17 (by decide)
    have zc21 := lv_neT (a := 4) c21 (by decide)
    have zc28 := lv_neT (a := 5) c28 (by decide)
    have zc32 := lv_neT (a := 6) c32 (by decide)
    have zc39 := lv_neT (a := 7) c39 (by decide)
    have zc43 := lv_neT (a := 8) c43 (by decide)
    have zc50 := lv_neT (a := 9) c50 (by decide)
    have zc54 := lv_neT (a := 10) c54 (by decide)
    have zc61 := lv_neT (a := 11) c61 (by decide)
    have zc65 := lv_neT (a := 12) c65 (by decide)
    have zc66 := lv_neT (a := 13) c66 (by decide)
    have zc70 := lv_neT (a := 14) c70 (by decide)
    have zc80 := lv_neT (a := 15) c80 (by decide)
    omega
  refine x_tout C (show decode cX8_holds 21 = .ok (.tableswitch 231 0 15 #[79, 231, 81, 95, 101, 115, 121, 135, 141, 155, 161, 176, 183, 185, 195, 213], 79) from by decide +kernel) hz (tgt := 252) (by decide) ?_
  refine x_run C e_X8_holds_7 e_X8_holds_7_k (pc' := 253) (lv' := [(2, .int s0), (0, .ref 1), (1, .int x1)]) (st' := [.int 0]) (σ' := (M, L)) rfl ⟨trivial, trivial⟩ ?_
  subst h
  exact x_iret C (show decode cX8_holds 253 = .ok (.ireturn, 1) from by decide +kernel) (x_finI (x_nb (x_rgw (x_rgc (x := 0) (k := 0) (by decide)) (lo' := 0) (hi' := 1) (by decide) (by decide))) ⟨⟨rfl, rfl⟩, (x_rgw (x_rgc (x := 0) (k := 0) (by decide)) (lo' := 0) (hi' := 1) (by decide) (by decide)), hI⟩) (Nat.le_refl 0) (Nat.le_refl 0)
set_option maxRecDepth 20000 in
set_option maxHeartbeats 4000000 in
theorem k_X8_holds (l : Launch) (a1 : Int32) (M : St) (L : Nat → Nat → Int64) (hI : InvK INVC M) : XM l yX8_holds cX8_holds 3 (some .boolean) R_X8_holds LAY [.ref 1, .int a1] (M, L) (P_X8_holds (f_X8_holds a1 M) M L) := by
  refine XM.of (by decide) (Nat.le_of_ble_eq_true rfl) LAY_in cl_ok fl_X8_ok kc_X8_ok (fun V C => ?_)
  obtain ⟨r, h⟩ : ∃ r, f_X8_holds a1 M = r := ⟨_, rfl⟩
  rw [h] at C
  change C_X8_holds l r M L V at C
  unfold f_X8_holds at h
  show V 0 0 0 [(0, .ref 1), (1, .int a1)] [] LAY (M, L)
  refine x_run C e_X8_holds_1 e_X8_holds_1_k (pc' := 3) (lv' := [(0, .ref 1), (1, .int a1)]) (st' := [.int 8, .ref 1]) (σ' := (M, L)) rfl ⟨trivial, trivial, trivial⟩ ?_
  refine x_callV C (k := 1) (ci := 6) (rest := []) (avs := [.int 8]) (k_X8_has l 8 M L hI) yoX8_has ml_X8_25 rfl rfl rfl rfl ⟨Nat.zero_le _, Nat.zero_le _⟩ (show decode cX8_holds 3 = .ok (.invokevirtual 25, 3) from by decide +kernel) rfl (fun v σ' hPo => ?_)
  obtain ⟨⟨rfl, rfl⟩, g2, hI3⟩ := hPo
  show V 0 0 6 [(0, .ref 1), (1, .int a1)] [.int (f_X8_has 8 M)] LAY (M, L)
  refine x_run C e_X8_holds_2 e_X8_holds_2_k (pc' := 8) (lv' := [(0, .ref 1), (1, .int a1)]) (st' := [.int 2, .ref 1, .int (f_X8_has 8 M)]) (σ' := (M, L)) rfl ⟨trivial, trivial, trivial⟩ ?_
  refine x_callV C (k := 1) (ci := 6) (rest := [.int (f_X8_has 8 M)]) (avs := [.int 2]) (k_X8_has l 2 M L hI) yoX8_has ml_X8_25 rfl rfl rfl rfl ⟨Nat.zero_le _, Nat.zero_le _⟩ (show decode cX8_holds 8 = .ok (.invokevirtual 25, 3) from by decide +kernel) rfl (fun v σ' hPo => ?_)
  obtain ⟨⟨rfl, rfl⟩, g5, hI6⟩ := hPo
  show V 0 0 11 [(0, .ref 1), (1, .int a1)] [.int (f_X8_has 2 M), .int (f_X8_has 8 M)] LAY (M, L)
  refine x_icmp_ne C (show decode cX8_holds 11 = .ok (.if_icmp .ne 7, 3) from by decide +kernel) (tgt := 18) (by decide) (fun c7 => ?_) (fun c7 => ?_)
  · rw [if_neg c7] at h
    refine x_run C e_X8_holds_3 e_X8_holds_3_k (pc' := 19) (lv' := [(0, .ref 1), (1, .int a1)]) (st' := [.int 0]) (σ' := (M, L)) rfl ⟨trivial, trivial⟩ ?_
    exact b_X8_holds_19 r C a1 0  (x_rgw (x_rgc (x := 0) (k := 0) (by decide)) (lo' := 0) (hi' := 1) (by decide) (by decide)) hI h
  · rw [if_pos c7] at h
    refine x_run C e_X8_holds_4 e_X8_holds_4_k (pc' := 15) (lv' := [(0, .ref 1), (1, .int a1)]) (st' := [.int 1]) (σ' := (M, L)) rfl ⟨trivial, trivial⟩ ?_
    refine x_goto C (show decode cX8_holds 15 = .ok (.goto 4, 3) from by decide +kernel) (tgt := 19) (by decide) ?_
    exact b_X8_holds_19 r C a1 1  (x_rgw (x_rgc (x := 1) (k := 1) (by decide)) (lo' := 0) (hi' := 1) (by decide) (by decide)) hI h
-- X4_storeManyBefore
def e_X4_storeManyBefore_1 : List xI := [(0, .bipush 8, 2, .int 8), (2, .aload_n 0, 1, .null), (3, .getfield 30, 3, .null), (6, .getfield 250, 3, .null), (9, .bipush 7, 2, .int 7), (11, .iand, 1, .null), (12, .iadd, 1, .null), (13, .istore_n 2, 1, .null), (14, .aload_n 0, 1, .null), (15, .getfield 21, 3, .null), (18, .iload_n 2, 1, .null), (19, .iaload, 1, .null), (20, .istore_n 3, 1, .null), (21, .iconst 0, 1, .int 0), (22, .istore 4, 2, .null)]
theorem e_X4_storeManyBefore_1_k : e_X4_storeManyBefore_1.all (fun q => xokB cX4_storeManyBefore q && xokL q) = true := by decide +kernel
def e_X4_storeManyBefore_2 : List xI := [(24, .iload 4, 2, .null), (26, .bipush 16, 2, .int 16)]
theorem e_X4_storeManyBefore_2_k : e_X4_storeManyBefore_2.all (fun q => xokB cX4_storeManyBefore q && xokL q) = true := by decide +kernel
def e_X4_storeManyBefore_3 : List xI := [(84, .aload_n 0, 1, .null), (85, .getfield 21, 3, .null), (88, .iload_n 2, 1, .null), (89, .iload_n 3, 1, .null), (90, .iastore, 1, .null)]
theorem e_X4_storeManyBefore_3_k : e_X4_storeManyBefore_3.all (fun q => xokB cX4_storeManyBefore q && xokL q) = true := by decide +kernel
def e_X4_storeManyBefore_4 : List xI := [(31, .iload_n 1, 1, .null), (32, .iload 4, 2, .null), (34, .iushr, 1, .null), (35, .iconst 1, 1, .int 1), (36, .iand, 1, .null)]
theorem e_X4_storeManyBefore_4_k : e_X4_storeManyBefore_4.all (fun q => xokB cX4_storeManyBefore q && xokL q) = true := by decide +kernel
def e_X4_storeManyBefore_5 : List xI := [(40, .iload_n 3, 1, .null), (41, .aload_n 0, 1, .null), (42, .getfield 30, 3, .null), (45, .getfield 65, 3, .null)]
theorem e_X4_storeManyBefore_5_k : e_X4_storeManyBefore_5.all (fun q => xokB cX4_storeManyBefore q && xokL q) = true := by decide +kernel
def e_X4_storeManyBefore_6 : List xI := [(51, .isub, 1, .null), (52, .istore_n 3, 1, .null), (53, .aload_n 0, 1, .null), (54, .getfield 22, 3, .null), (57, .iload_n 3, 1, .null), (58, .aload_n 0, 1, .null), (59, .getfield 30, 3, .null), (62, .getfield 65, 3, .null), (65, .aload_n 0, 1, .null), (66, .getfield 21, 3, .null), (69, .bipush 15, 2, .int 15), (71, .iload 4, 2, .null), (73, .isub, 1, .null), (74, .iaload, 1, .null)]
theorem e_X4_storeManyBefore_6_k : e_X4_storeManyBefore_6.all (fun q => xokB cX4_storeManyBefore q && xokL q) = true := by decide +kernel
def e_X4_storeManyBefore_7 : List xI := [(78, .iinc 4 1, 3, .null)]
theorem e_X4_storeManyBefore_7_k : e_X4_storeManyBefore_7.all (fun q => xokB cX4_storeManyBefore q && xokL q) = true := by decide +kernel
abbrev P_X4_storeManyBefore (r : St) (L : Nat → Nat → Int64) : Option Value → xG → Prop := fun v σ' => PoV r L v σ' ∧ InvK INVC r
abbrev R_X4_storeManyBefore : Room := { frames := 2, cells := 0, slots := 0, locals := 53 }
abbrev C_X4_storeManyBefore (l : Launch) (r : St) (L : Nat → Nat → Int64) (V : XJ) : Prop := XC l yX4_storeManyBefore.cls yX4_storeManyBefore.name cX4_storeManyBefore 5 R_X4_storeManyBefore 0 0 fl_X4 kc_X4 LAY.length (xfin none LAY (P_X4_storeManyBefore r L)) V
def f_X4_storeManyBefore_78 (rec : Int32 → Int32 → Int32 → Int32 → St → St) (x1 : Int32) (x2 : Int32) (x3 : Int32) (x4 : Int32) (M : St) : St := rec x1 x2 x3 (x4 + 1) M
def f_X4_storeManyBefore_24 : Nat → Int32 → Int32 → Int32 → Int32 → St → St
  | 0, x1, x2, x3, x4, M => M
  | n + 1, x1, x2, x3, x4, M => (if 16 ≤ x4 then (xup M 2 x2.toNatClampNeg x3) else (if ((ius x1 x4) &&& 1) = 0 then f_X4_storeManyBefore_78 (f_X4_storeManyBefore_24 n) x1 x2 x3 x4 M else (xb (f_X2_write (x3 - (f_X10_bytesOf (M 11 1))) (M 11 1) (M 2 (15 - x4).toNatClampNeg) M) fun q12 => f_X4_storeManyBefore_78 (f_X4_storeManyBefore_24 n) x1 x2 (x3 - (f_X10_bytesOf (M 11 1))) x4 q12)))
def f_X4_storeManyBefore (a1 : Int32) (M : St) : St := f_X4_storeManyBefore_24 ((((16 : Int32)).toInt - (0 : Int32).toInt).toNat + 1) a1 (8 + ((M 11 3) &&& 7)) (M 2 (8 + ((M 11 3) &&& 7)).toNatClampNeg) 0 M
set_option maxRecDepth 20000 in
set_option maxHeartbeats 4000000 in
theorem b_X4_storeManyBefore_78 {l : Launch} {L : Nat → Nat → Int64} {V : XJ} (r : St) (C : C_X4_storeManyBefore l r L V) (n : Nat) (rec : Int32 → Int32 → Int32 → Int32 → St → St) (hrec : ∀ (x1 : Int32) (x2 : Int32) (x3 : Int32) (x4 : Int32) (M : St), xrg 8 15 x2 → xrg 0 16 x4 → InvK INVC M → (((16 : Int32)).toInt - x4.toInt).toNat < n → rec x1 x2 x3 x4 M = r → V 0 0 24 [(0, .ref 12), (1, .int x1), (2, .int x2), (3, .int x3), (4, .int x4)] [] LAY (M, L)) (x1 : Int32) (x2 : Int32) (x3 : Int32) (x4 : Int32) (M : St) (wx2 : xrg 8 15 x2) (wx4 : xrg 0 15 x4) (hI : InvK INVC M) (hk : (((16 : Int32)).toInt - (x4 + 1).toInt).toNat < n) (h : f_X4_storeManyBefore_78 rec x1 x2 x3 x4 M = r) : V 0 0 78 [(0, .ref 12), (1, .int x1), (2, .int x2), (3, .int x3), (4, .int x4)] [] LAY (M, L) := by
  unfold f_X4_storeManyBefore_78 at h
  refine x_run C e_X4_storeManyBefore_7 e_X4_storeManyBefore_7_k (pc' := 81) (lv' := [(4, .int (x4 + 1)), (0, .ref 12), (1, .int x1), (2, .int x2), (3, .int x3)]) (st' := []) (σ' := (M, L)) rfl ⟨trivial, trivial⟩ ?_
  refine x_goto C (show decode cX4_storeManyBefore 81 = .ok (.goto (-57), 3) from by decide +kernel) (tgt := 24) (by decide) ?_
  refine x_lv C [1, 2, 3, 4, 0] rfl ?_
  exact hrec x1 x2 x3 (x4 + 1) M wx2 (x_rgw (x_rg_add wx4 (x_rgc (x := 1) (k := 1) (by decide)) (by decide) (by decide)) (lo' := 0) (hi' := 16) (by decide) (by decide)) hI (hk) h
set_option maxRecDepth 20000 in
set_option maxHeartbeats 4000000 in
theorem b_X4_storeManyBefore_24 {l : Launch} {L : Nat → Nat → Int64} {V : XJ} (r : St) (C : C_X4_storeManyBefore l r L V) : ∀ (n : Nat) (x1 : Int32) (x2 : Int32) (x3 : Int32) (x4 : Int32) (M : St), xrg 8 15 x2 → xrg 0 16 x4 → InvK INVC M → (((16 : Int32)).toInt - x4.toInt).toNat < n → f_X4_storeManyBefore_24 n x1 x2 x3 x4 M = r → V 0 0 24 [(0, .ref 12), (1, .int x1), (2, .int x2), (3, .int x3), (4, .int x4)] [] LAY (M, L) := by
  intro n
  induction n with
  | zero => intro x1 x2 x3 x4 M  wx2 wx4 hI hm; exact absurd hm (Nat.not_lt_zero _)
  | succ n ih =>
    intro x1 x2 x3 x4 M  wx2 wx4 hI hm h
    unfold f_X4_storeManyBefore_24 at h
    refine x_run C e_X4_storeManyBefore_2 e_X4_storeManyBefore_2_k (pc' := 28) (lv' := [(0, .ref 12), (1, .int x1), (2, .int x2), (3, .int x3), (4, .int x4)]) (st' := [.int 16, .int x4]) (σ' := (M, L)) rfl ⟨trivial, trivial, trivial⟩ ?_
    refine x_icmp_ge C (show decode cX4_storeManyBefore 28 = .ok (.if_icmp .ge 56, 3) from by decide +kernel) (tgt := 84) (by decide) (fun c1 => ?_) (fun c1 => ?_)
    · rw [if_pos c1] at h
      have g2 : xrg 16 16 x4 := (x_c_le (x_rgc (x := 16) (k := 16) (by decide)) wx4 c1).2
      refine x_run C e_X4_storeManyBefore_3 e_X4_storeManyBefore_3_k (pc' := 91) (lv' := [(0, .ref 12), (1, .int x1), (2, .int x2), (3, .int x3), (4, .int x4)]) (st' := []) (σ' := ((xup M 2 x2.toNatClampNeg x3), L)) rfl ⟨trivial, trivial, trivial, trivial, (x_rgv wx2 (by decide) (by decide)), trivial⟩ ?_
      have hI3 : InvK INVC (xup M 2 x2.toNatClampNeg x3) := (hI.arr 2 (x2.toNatClampNeg) x3 (by decide))
      subst h
      exact x_vret C (show decode cX4_storeManyBefore 91 = .ok (.return_, 1) from by decide +kernel) (x_finV ⟨⟨rfl, rfl⟩, hI3⟩) (Nat.le_refl 0) (Nat.le_refl 0)
    · rw [if_neg c1] at h
      have g4 : xrg 0 15 x4 := (x_c_nle (x_rgc (x := 16) (k := 16) (by decide)) wx4 c1).2
      have hk5 := x_meas (x_nle c1) hm
      refine x_run C e_X4_storeManyBefore_4 e_X4_storeManyBefore_4_k (pc' := 37) (lv' := [(0, .ref 12), (1, .int x1), (2, .int x2), (3, .int x3), (4, .int x4)]) (st' := [.int ((ius x1 x4) &&& 1)]) (σ' := (M, L)) rfl ⟨trivial, trivial, trivial, trivial, trivial, trivial⟩ ?_
      refine x_if_eq C (show decode cX4_storeManyBefore 37 = .ok (.ifCond .eq 41, 3) from by decide +kernel) (tgt := 78) (by decide) (fun c6 => ?_) (fun c6 => ?_)
      · rw [if_pos c6] at h
        have g7 : xrg 0 0 ((ius x1 x4) &&& 1) := (x_c_eq (x_rg_and (x := (ius x1 x4)) (m := 1) (k := 1) (by decide) (by decide)) (x_rgc (x := 0) (k := 0) (by decide)) c6).1
        exact b_X4_storeManyBefore_78 r C n (f_X4_storeManyBefore_24 n) ih x1 x2 x3 x4 M wx2 g4 hI (hk5) h
      · rw [if_neg c6] at h
        have g8 : xrg 1 1 ((ius x1 x4) &&& 1) := (x_c_ne (x_rg_and (x := (ius x1 x4)) (m := 1) (k := 1) (by decide) (by decide)) (by decide) c6)
        refine x_run C e_X4_storeManyBefore_5 e_X4_storeManyBefore_5_k (pc' := 48) (lv' := [(0, .ref 12), (1, .int x1), (2, .int x2), (3, .int x3), (4, .int x4)]) (st' := [.int (M 11 1), .int x3]) (σ' := (M, L)) rfl ⟨trivial, trivial, trivial, trivial, trivial⟩ ?_
        refine x_callSN C (rest := [.int x3]) (avs := [.int (M 11 1)]) (k_X10_bytesOf l (M 11 1) M L) yoX10_bytesOf ml_X4_298 rfl ⟨Nat.zero_le _, Nat.zero_le _⟩ (show decode cX4_storeManyBefore 48 = .ok (.invokestatic 298, 3) from by decide +kernel) rfl (fun v σ' hPo => ?_)
        obtain ⟨⟨rfl, rfl⟩, g10, -⟩ := hPo
        show V 0 0 51 [(0, .ref 12), (1, .int x1), (2, .int x2), (3, .int x3), (4, .int x4)] [.int (f_X10_bytesOf (M 11 1)), .int x3] LAY (M, L)
        refine x_run C e_X4_storeManyBefore_6 e_X4_storeManyBefore_6_k (pc' := 75) (lv' := [(3, .int (x3 - (f_X10_bytesOf (M 11 1)))), (0, .ref 12), (1, .int x1), (2, .int x2), (4, .int x4)]) (st' := [.int (M 2 (15 - x4).toNatClampNeg), .int (M 11 1), .int (x3 - (f_X10_bytesOf (M 11 1))), .ref 4]) (σ' := (M, L)) rfl ⟨trivial, trivial, trivial, trivial, trivial, trivial, trivial, trivial, trivial, trivial, trivial, trivial, trivial, (x_rgv (x_rg_sub (x_rgc (x := 15) (k := 15) (by decide)) g4 (by decide) (by decide)) (by decide) (by decide)), trivial⟩ ?_
        refine x_callV C (k := 4) (ci := 1) (rest := []) (avs := [.int (x3 - (f_X10_bytesOf (M 11 1))), .int (M 11 1), .int (M 2 (15 - x4).toNatClampNeg)]) (k_X2_write l (x3 - (f_X10_bytesOf (M 11 1))) (M 11 1) (M 2 (15 - x4).toNatClampNeg) M L hI) yoX2_write ml_X4_295 rfl rfl rfl rfl ⟨Nat.zero_le _, Nat.zero_le _⟩ (show decode cX4_storeManyBefore 75 = .ok (.invokevirtual 295, 3) from by decide +kernel) rfl (fun v σ' hPo => ?_)
        obtain ⟨⟨rfl, rfl⟩, hI14⟩ := hPo
        generalize hq12 : f_X2_write (x3 - (f_X10_bytesOf (M 11 1))) (M 11 1) (M 2 (15 - x4).toNatClampNeg) M = q12 at h hI14 ⊢
        have h := xb_eq h
        show V 0 0 78 [(3, .int (x3 - (f_X10_bytesOf (M 11 1)))), (0, .ref 12), (1, .int x1), (2, .int x2), (4, .int x4)] [] LAY (q12, L)
        refine x_lv C [1, 2, 3, 0, 4] rfl ?_
        exact b_X4_storeManyBefore_78 r C n (f_X4_storeManyBefore_24 n) ih x1 x2 (x3 - (f_X10_bytesOf (M 11 1))) x4 q12 wx2 g4 hI14 (hk5) h
set_option maxRecDepth 20000 in
set_option maxHeartbeats 4000000 in
theorem k_X4_storeManyBefore (l : Launch) (a1 : Int32) (M : St) (L : Nat → Nat → Int64) (hI : InvK INVC M) : XM l yX4_storeManyBefore cX4_storeManyBefore 5 none R_X4_storeManyBefore LAY [.ref 12, .int a1] (M, L) (P_X4_storeManyBefore (f_X4_storeManyBefore a1 M) L) := by
  refine XM.of (by decide) (Nat.le_of_ble_eq_true rfl) LAY_in cl_ok fl_X4_ok kc_X4_ok (fun V C => ?_)
  obtain ⟨r, h⟩ : ∃ r, f_X4_storeManyBefore a1 M = r := ⟨_, rfl⟩
  rw [h] at C
  change C_X4_storeManyBefore l r L V at C
  unfold f_X4_storeManyBefore at h
  show V 0 0 0 [(0, .ref 12), (1, .int a1)] [] LAY (M, L)
  refine x_run C e_X4_storeManyBefore_1 e_X4_storeManyBefore_1_k (pc' := 24) (lv' := [(4, .int 0), (3, .int (M 2 (8 + ((M 11 3) &&& 7)).toNatClampNeg)), (2, .int (8 + ((M 11 3) &&& 7))), (0, .ref 12), (1, .int a1)]) (st' := []) (σ' := (M, L)) rfl ⟨trivial, trivial, trivial, trivial, trivial, trivial, trivial, trivial, trivial, trivial, trivial, (x_rgv (x_rg_add (x_rgc (x := 8) (k := 8) (by decide)) (x_rg_and (x := (M 11 3)) (m := 7) (k := 7) (by decide) (by decide)) (by decide) (by decide)) (by decide) (by decide)), trivial, trivial, trivial, trivial⟩ ?_
  refine x_lv C [3, 4, 2, 1, 0] rfl ?_
  exact b_X4_storeManyBefore_24 r C ((((16 : Int32)).toInt - (0 : Int32).toInt).toNat + 1) a1 (8 + ((M 11 3) &&& 7)) (M 2 (8 + ((M 11 3) &&& 7)).toNatClampNeg) 0 M (x_rg_add (x_rgc (x := 8) (k := 8) (by decide)) (x_rg_and (x := (M 11 3)) (m := 7) (k := 7) (by decide) (by decide)) (by decide) (by decide)) (x_rgw (x_rgc (x := 0) (k := 0) (by decide)) (lo' := 0) (hi' := 16) (by decide) (by decide)) hI (Nat.lt_succ_self _) h
-- X4_storeMany
def e_X4_storeMany_1 : List xI := [(0, .aload_n 0, 1, .null), (1, .getfield 26, 3, .null), (4, .iconst 1, 1, .int 1)]
theorem e_X4_storeMany_1_k : e_X4_storeMany_1.all (fun q => xokB cX4_storeMany q && xokL q) = true := by decide +kernel
def e_X4_storeMany_2 : List xI := [(8, .istore_n 1, 1, .null), (9, .aload_n 0, 1, .null), (10, .getfield 30, 3, .null), (13, .getfield 250, 3, .null)]
theorem e_X4_storeMany_2_k : e_X4_storeMany_2.all (fun q => xokB cX4_storeMany q && xokL q) = true := by decide +kernel
def e_X4_storeMany_3 : List xI := [(19, .iconst 4, 1, .int 4)]
theorem e_X4_storeMany_3_k : e_X4_storeMany_3.all (fun q => xokB cX4_storeMany q && xokL q) = true := by decide +kernel
def e_X4_storeMany_4 : List xI := [(29, .aload_n 0, 1, .null), (30, .getfield 26, 3, .null), (33, .aload_n 0, 1, .null), (34, .getfield 30, 3, .null), (37, .getfield 250, 3, .null), (40, .aload_n 0, 1, .null), (41, .getfield 30, 3, .null), (44, .getfield 65, 3, .null)]
theorem e_X4_storeMany_4_k : e_X4_storeMany_4.all (fun q => xokB cX4_storeMany q && xokL q) = true := by decide +kernel
def e_X4_storeMany_5 : List xI := [(50, .aload_n 0, 1, .null), (51, .getfield 26, 3, .null), (54, .getfield 247, 3, .null), (57, .istore_n 2, 1, .null), (58, .iconst 0, 1, .int 0), (59, .istore_n 3, 1, .null)]
theorem e_X4_storeMany_5_k : e_X4_storeMany_5.all (fun q => xokB cX4_storeMany q && xokL q) = true := by decide +kernel
def e_X4_storeMany_6 : List xI := [(23, .aload_n 0, 1, .null), (24, .iload_n 1, 1, .null)]
theorem e_X4_storeMany_6_k : e_X4_storeMany_6.all (fun q => xokB cX4_storeMany q && xokL q) = true := by decide +kernel
def e_X4_storeMany_7 : List xI := [(60, .iload_n 3, 1, .null), (61, .bipush 16, 2, .int 16)]
theorem e_X4_storeMany_7_k : e_X4_storeMany_7.all (fun q => xokB cX4_storeMany q && xokL q) = true := by decide +kernel
def e_X4_storeMany_8 : List xI := [(66, .iload_n 1, 1, .null), (67, .iload_n 3, 1, .null), (68, .iushr, 1, .null), (69, .iconst 1, 1, .int 1), (70, .iand, 1, .null)]
theorem e_X4_storeMany_8_k : e_X4_storeMany_8.all (fun q => xokB cX4_storeMany q && xokL q) = true := by decide +kernel
def e_X4_storeMany_9 : List xI := [(74, .aload_n 0, 1, .null), (75, .getfield 22, 3, .null), (78, .iload_n 2, 1, .null), (79, .aload_n 0, 1, .null), (80, .getfield 30, 3, .null), (83, .getfield 65, 3, .null), (86, .aload_n 0, 1, .null), (87, .getfield 21, 3, .null), (90, .iload_n 3, 1, .null), (91, .iaload, 1, .null)]
theorem e_X4_storeMany_9_k : e_X4_storeMany_9.all (fun q => xokB cX4_storeMany q && xokL q) = true := by decide +kernel
def e_X4_storeMany_10 : List xI := [(95, .iload_n 2, 1, .null), (96, .aload_n 0, 1, .null), (97, .getfield 30, 3, .null), (100, .getfield 65, 3, .null)]
theorem e_X4_storeMany_10_k : e_X4_storeMany_10.all (fun q => xokB cX4_storeMany q && xokL q) = true := by decide +kernel
def e_X4_storeMany_11 : List xI := [(106, .iadd, 1, .null), (107, .istore_n 2, 1, .null)]
theorem e_X4_storeMany_11_k : e_X4_storeMany_11.all (fun q => xokB cX4_storeMany q && xokL q) = true := by decide +kernel
def e_X4_storeMany_12 : List xI := [(108, .iinc 3 1, 3, .null)]
theorem e_X4_storeMany_12_k : e_X4_storeMany_12.all (fun q => xokB cX4_storeMany q && xokL q) = true := by decide +kernel
abbrev P_X4_storeMany (r : St) (L : Nat → Nat → Int64) : Option Value → xG → Prop := fun v σ' => PoV r L v σ' ∧ InvK INVC r
abbrev R_X4_storeMany : Room := { frames := 4, cells := 0, slots := 0, locals := 102 }
abbrev C_X4_storeMany (l : Launch) (r : St) (L : Nat → Nat → Int64) (V : XJ) : Prop := XC l yX4_storeMany.cls yX4_storeMany.name cX4_storeMany 4 R_X4_storeMany 0 0 fl_X4 kc_X4 LAY.length (xfin none LAY (P_X4_storeMany r L)) V
def f_X4_storeMany_108 (rec : Int32 → Int32 → Int32 → St → St) (x1 : Int32) (x2 : Int32) (x3 : Int32) (M : St) : St := rec x1 x2 (x3 + 1) M
def f_X4_storeMany_60 : Nat → Int32 → Int32 → Int32 → St → St
  | 0, x1, x2, x3, M => M
  | n + 1, x1, x2, x3, M => (if 16 ≤ x3 then M else (if ((ius x1 x3) &&& 1) = 0 then f_X4_storeMany_108 (f_X4_storeMany_60 n) x1 x2 x3 M else (xb (f_X2_write x2 (M 11 1) (M 2 x3.toNatClampNeg) M) fun q22 => f_X4_storeMany_108 (f_X4_storeMany_60 n) x1 (x2 + (f_X10_bytesOf (q22 11 1))) x3 q22)))
def f_X4_storeMany (M : St) : St := (xb (f_X6_fetch 1 M) fun q1 => (if (f_X9_of (q1.2 11 3)) = 4 then (xb (f_X4_storeManyBefore q1.1 q1.2) fun q12 => q12) else (xb (f_X6_find (q1.2 11 3) (q1.2 11 1) q1.2) fun q8 => f_X4_storeMany_60 ((((16 : Int32)).toInt - (0 : Int32).toInt).toNat + 1) q1.1 (q8 10 3) 0 q8)))
set_option maxRecDepth 20000 in
set_option maxHeartbeats 4000000 in
theorem b_X4_storeMany_108 {l : Launch} {L : Nat → Nat → Int64} {V : XJ} (r : St) (C : C_X4_storeMany l r L V) (n : Nat) (rec : Int32 → Int32 → Int32 → St → St) (hrec : ∀ (x1 : Int32) (x2 : Int32) (x3 : Int32) (M : St), xrg 0 16 x3 → InvK INVC M → (((16 : Int32)).toInt - x3.toInt).toNat < n → rec x1 x2 x3 M = r → V 0 0 60 [(0, .ref 12), (1, .int x1), (2, .int x2), (3, .int x3)] [] LAY (M, L)) (x1 : Int32) (x2 : Int32) (x3 : Int32) (M : St) (wx3 : xrg 0 15 x3) (hI : InvK INVC M) (hk : (((16 : Int32)).toInt - (x3 + 1).toInt).toNat < n) (h : f_X4_storeMany_108 rec x1 x2 x3 M = r) : V 0 0 108 [(0, .ref 12), (1, .int x1), (2, .int x2), (3, .int x3)] [] LAY (M, L) := by
  unfold f_X4_storeMany_108 at h
  refine x_run C e_X4_storeMany_12 e_X4_storeMany_12_k (pc' := 111) (lv' := [(3, .int (x3 + 1)), (0, .ref 12), (1, .int x1), (2, .int x2)]) (st' := []) (σ' := (M, L)) rfl ⟨trivial, trivial⟩ ?_
  refine x_goto C (show decode cX4_storeMany 111 = .ok (.goto (-51), 3) from by decide +kernel) (tgt := 60) (by decide) ?_
  refine x_lv C [1, 2, 3, 0] rfl ?_
  exact hrec x1 x2 (x3 + 1) M (x_rgw (x_rg_add wx3 (x_rgc (x := 1) (k := 1) (by decide)) (by decide) (by decide)) (lo' := 0) (hi' := 16) (by decide) (by decide)) hI (hk) h
set_option maxRecDepth 20000 in
set_option maxHeartbeats 4000000 in
theorem b_X4_storeMany_60 {l : Launch} {L : Nat → Nat → Int64} {V : XJ} (r : St) (C : C_X4_storeMany l r L V) : ∀ (n : Nat) (x1 : Int32) (x2 : Int32) (x3 : Int32) (M : St), xrg 0 16 x3 → InvK INVC M → (((16 : Int32)).toInt - x3.toInt).toNat < n → f_X4_storeMany_60 n x1 x2 x3 M = r → V 0 0 60 [(0, .ref 12), (1, .int x1), (2, .int x2), (3, .int x3)] [] LAY (M, L) := by
  intro n
  induction n with
  | zero => intro x1 x2 x3 M  wx3 hI hm; exact absurd hm (Nat.not_lt_zero _)
  | succ n ih =>
    intro x1 x2 x3 M  wx3 hI hm h
    unfold f_X4_storeMany_60 at h
    refine x_run C e_X4_storeMany_7 e_X4_storeMany_7_k (pc' := 63) (lv' := [(0, .ref 12), (1, .int x1), (2, .int x2), (3, .int x3)]) (st' := [.int 16, .int x3]) (σ' := (M, L)) rfl ⟨trivial, trivial, trivial⟩ ?_
    refine x_icmp_ge C (show decode cX4_storeMany 63 = .ok (.if_icmp .ge 51, 3) from by decide +kernel) (tgt := 114) (by decide) (fun c15 => ?_) (fun c15 => ?_)
    · rw [if_pos c15] at h
      have g16 : xrg 16 16 x3 := (x_c_le (x_rgc (x := 16) (k := 16) (by decide)) wx3 c15).2
      subst h
      exact x_vret C (show decode cX4_storeMany 114 = .ok (.return_, 1) from by decide +kernel) (x_finV ⟨⟨rfl, rfl⟩, hI⟩) (Nat.le_refl 0) (Nat.le_refl 0)
    · rw [if_neg c15] at h
      have g17 : xrg 0 15 x3 := (x_c_nle (x_rgc (x := 16) (k := 16) (by decide)) wx3 c15).2
      have hk18 := x_meas (x_nle c15) hm
      refine x_run C e_X4_storeMany_8 e_X4_storeMany_8_k (pc' := 71) (lv' := [(0, .ref 12), (1, .int x1), (2, .int x2), (3, .int x3)]) (st' := [.int ((ius x1 x3) &&& 1)]) (σ' := (M, L)) rfl ⟨trivial, trivial, trivial, trivial, trivial, trivial⟩ ?_
      refine x_if_eq C (show decode cX4_storeMany 71 = .ok (.ifCond .eq 37, 3) from by decide +kernel) (tgt := 108) (by decide) (fun c19 => ?_) (fun c19 => ?_)
      · rw [if_pos c19] at h
        have g20 : xrg 0 0 ((ius x1 x3) &&& 1) := (x_c_eq (x_rg_and (x := (ius x1 x3)) (m := 1) (k := 1) (by decide) (by decide)) (x_rgc (x := 0) (k := 0) (by decide)) c19).1
        exact b_X4_storeMany_108 r C n (f_X4_storeMany_60 n) ih x1 x2 x3 M g17 hI (hk18) h
      · rw [if_neg c19] at h
        have g21 : xrg 1 1 ((ius x1 x3) &&& 1) := (x_c_ne (x_rg_and (x := (ius x1 x3)) (m := 1) (k := 1) (by decide) (by decide)) (by decide) c19)
        refine x_run C e_X4_storeMany_9 e_X4_storeMany_9_k (pc' := 92) (lv' := [(0, .ref 12), (1, .int x1), (2, .int x2), (3, .int x3)]) (st' := [.int (M 2 x3.toNatClampNeg), .int (M 11 1), .int x2, .ref 4]) (σ' := (M, L)) rfl ⟨trivial, trivial, trivial, trivial, trivial, trivial, trivial, trivial, trivial, (x_rgv g17 (by decide) (by decide)), trivial⟩ ?_
        refine x_callV C (k := 4) (ci := 1) (rest := []) (avs := [.int x2, .int (M 11 1), .int (M 2 x3.toNatClampNeg)]) (k_X2_write l x2 (M 11 1) (M 2 x3.toNatClampNeg) M L hI) yoX2_write ml_X4_295 rfl rfl rfl rfl ⟨Nat.zero_le _, Nat.zero_le _⟩ (show decode cX4_storeMany 92 = .ok (.invokevirtual 295, 3) from by decide +kernel) rfl (fun v σ' hPo => ?_)
        obtain ⟨⟨rfl, rfl⟩, hI24⟩ := hPo
        generalize hq22 : f_X2_write x2 (M 11 1) (M 2 x3.toNatClampNeg) M = q22 at h hI24 ⊢
        have h := xb_eq h
        show V 0 0 95 [(0, .ref 12), (1, .int x1), (2, .int x2), (3, .int x3)] [] LAY (q22, L)
        refine x_run C e_X4_storeMany_10 e_X4_storeMany_10_k (pc' := 103) (lv' := [(0, .ref 12), (1, .int x1), (2, .int x2), (3, .int x3)]) (st' := [.int (q22 11 1), .int x2]) (σ' := (q22, L)) rfl ⟨trivial, trivial, trivial, trivial, trivial⟩ ?_
        refine x_callSN C (rest := [.int x2]) (avs := [.int (q22 11 1)]) (k_X10_bytesOf l (q22 11 1) q22 L) yoX10_bytesOf ml_X4_298 rfl ⟨Nat.zero_le _, Nat.zero_le _⟩ (show decode cX4_storeMany 103 = .ok (.invokestatic 298, 3) from by decide +kernel) rfl (fun v σ' hPo => ?_)
        obtain ⟨⟨rfl, rfl⟩, g26, -⟩ := hPo
        show V 0 0 106 [(0, .ref 12), (1, .int x1), (2, .int x2), (3, .int x3)] [.int (f_X10_bytesOf (q22 11 1)), .int x2] LAY (q22, L)
        refine x_run C e_X4_storeMany_11 e_X4_storeMany_11_k (pc' := 108) (lv' := [(2, .int (x2 + (f_X10_bytesOf (q22 11 1)))), (0, .ref 12), (1, .int x1), (3, .int x3)]) (st' := []) (σ' := (q22, L)) rfl ⟨trivial, trivial, trivial⟩ ?_
        refine x_lv C [1, 2, 0, 3] rfl ?_
        exact b_X4_storeMany_108 r C n (f_X4_storeMany_60 n) ih x1 (x2 + (f_X10_bytesOf (q22 11 1))) x3 q22 g17 hI24 (hk18) h
set_option maxRecDepth 20000 in
set_option maxHeartbeats 4000000 in
theorem k_X4_storeMany (l : Launch) (M : St) (L : Nat → Nat → Int64) (hI : InvK INVC M) : XM l yX4_storeMany cX4_storeMany 4 none R_X4_storeMany LAY [.ref 12] (M, L) (P_X4_storeMany (f_X4_storeMany M) L) := by
  refine XM.of (by decide) (Nat.le_of_ble_eq_true rfl) LAY_in cl_ok fl_X4_ok kc_X4_ok (fun V C => ?_)
  obtain ⟨r, h⟩ : ∃ r, f_X4_storeMany M = r := ⟨_, rfl⟩
  rw [h] at C
  change C_X4_storeMany l r L V at C
  unfold f_X4_storeMany at h
  show V 0 0 0 [(0, .ref 12)] [] LAY (M, L)
  refine x_run C e_X4_storeMany_1 e_X4_storeMany_1_k (pc' := 5) (lv' := [(0, .ref 12)]) (st' := [.int 1, .ref 10]) (σ' := (M, L)) rfl ⟨trivial, trivial, trivial, trivial⟩ ?_
  refine x_callV C (k := 10) (ci := 4) (rest := []) (avs := [.int 1]) (k_X6_fetch l 1 M L hI) yoX6_fetch ml_X4_122 rfl rfl rfl rfl ⟨Nat.zero_le _, Nat.zero_le _⟩ (show decode cX4_storeMany 5 = .ok (.invokevirtual 122, 3) from by decide +kernel) rfl (fun v σ' hPo => ?_)
  obtain ⟨⟨rfl, rfl⟩, g2, hI3⟩ := hPo
  generalize hq1 : f_X6_fetch 1 M = q1 at h g2 hI3 ⊢
  obtain ⟨r1, M1⟩ := q1
  have h := xb_eq h
  try dsimp only at h g2 hI3
  show V 0 0 8 [(0, .ref 12)] [.int r1] LAY (M1, L)
  refine x_run C e_X4_storeMany_2 e_X4_storeMany_2_k (pc' := 16) (lv' := [(1, .int r1), (0, .ref 12)]) (st' := [.int (M1 11 3)]) (σ' := (M1, L)) rfl ⟨trivial, trivial, trivial, trivial, trivial⟩ ?_
  refine x_callS C (rest := []) (avs := [.int (M1 11 3)]) (k_X9_of l (M1 11 3) M1 L) yoX9_of ml_X4_277 rfl ⟨Nat.zero_le _, Nat.zero_le _⟩ (show decode cX4_storeMany 16 = .ok (.invokestatic 277, 3) from by decide +kernel) rfl (fun v σ' hPo => ?_)
  obtain ⟨⟨rfl, rfl⟩, g5, -⟩ := hPo
  show V 0 0 19 [(1, .int r1), (0, .ref 12)] [.int (f_X9_of (M1 11 3))] LAY (M1, L)
  refine x_run C e_X4_storeMany_3 e_X4_storeMany_3_k (pc' := 20) (lv' := [(1, .int r1), (0, .ref 12)]) (st' := [.int 4, .int (f_X9_of (M1 11 3))]) (σ' := (M1, L)) rfl ⟨trivial, trivial⟩ ?_
  refine x_icmp_ne C (show decode cX4_storeMany 20 = .ok (.if_icmp .ne 9, 3) from by decide +kernel) (tgt := 29) (by decide) (fun c7 => ?_) (fun c7 => ?_)
  · rw [if_neg c7] at h
    refine x_run C e_X4_storeMany_4 e_X4_storeMany_4_k (pc' := 47) (lv' := [(1, .int r1), (0, .ref 12)]) (st' := [.int (M1 11 1), .int (M1 11 3), .ref 10]) (σ' := (M1, L)) rfl ⟨trivial, trivial, trivial, trivial, trivial, trivial, trivial, trivial, trivial⟩ ?_
    refine x_callV C (k := 10) (ci := 4) (rest := []) (avs := [.int (M1 11 3), .int (M1 11 1)]) (k_X6_find l (M1 11 3) (M1 11 1) M1 L hI3) yoX6_find ml_X4_241 rfl rfl rfl rfl ⟨Nat.zero_le _, Nat.zero_le _⟩ (show decode cX4_storeMany 47 = .ok (.invokevirtual 241, 3) from by decide +kernel) rfl (fun v σ' hPo => ?_)
    obtain ⟨⟨rfl, rfl⟩, hI10⟩ := hPo
    generalize hq8 : f_X6_find (M1 11 3) (M1 11 1) M1 = q8 at h hI10 ⊢
    have h := xb_eq h
    show V 0 0 50 [(1, .int r1), (0, .ref 12)] [] LAY (q8, L)
    refine x_run C e_X4_storeMany_5 e_X4_storeMany_5_k (pc' := 60) (lv' := [(3, .int 0), (2, .int (q8 10 3)), (1, .int r1), (0, .ref 12)]) (st' := []) (σ' := (q8, L)) rfl ⟨trivial, trivial, trivial, trivial, trivial, trivial, trivial⟩ ?_
    refine x_lv C [3, 2, 1, 0] rfl ?_
    exact b_X4_storeMany_60 r C ((((16 : Int32)).toInt - (0 : Int32).toInt).toNat + 1) r1 (q8 10 3) 0 q8 (x_rgw (x_rgc (x := 0) (k := 0) (by decide)) (lo' := 0) (hi' := 16) (by decide) (by decide)) hI10 (Nat.lt_succ_self _) h
  · rw [if_pos c7] at h
    have g11 : xrg 4 4 (f_X9_of (M1 11 3)) := (x_c_eq g5 (x_rgc (x := 4) (k := 4) (by decide)) c7).1
    refine x_run C e_X4_storeMany_6 e_X4_storeMany_6_k (pc' := 25) (lv' := [(1, .int r1), (0, .ref 12)]) (st' := [.int r1, .ref 12]) (σ' := (M1, L)) rfl ⟨trivial, trivial, trivial⟩ ?_
    refine x_callV C (k := 12) (ci := 3) (rest := []) (avs := [.int r1]) (k_X4_storeManyBefore l r1 M1 L hI3) yoX4_storeManyBefore ml_X4_292 rfl rfl rfl rfl ⟨Nat.zero_le _, Nat.zero_le _⟩ (show decode cX4_storeMany 25 = .ok (.invokevirtual 292, 3) from by decide +kernel) rfl (fun v σ' hPo => ?_)
    obtain ⟨⟨rfl, rfl⟩, hI14⟩ := hPo
    generalize hq12 : f_X4_storeManyBefore r1 M1 = q12 at h hI14 ⊢
    have h := xb_eq h
    show V 0 0 28 [(1, .int r1), (0, .ref 12)] [] LAY (q12, L)
    subst h
    exact x_vret C (show decode cX4_storeMany 28 = .ok (.return_, 1) from by decide +kernel) (x_finV ⟨⟨rfl, rfl⟩, hI14⟩) (Nat.le_refl 0) (Nat.le_refl 0)
-- X4_loadMany
def e_X4_loadMany_1 : List xI := [(0, .aload_n 0, 1, .null), (1, .getfield 26, 3, .null), (4, .iconst 1, 1, .int 1)]
theorem e_X4_loadMany_1_k : e_X4_loadMany_1.all (fun q => xokB cX4_loadMany q && xokL q) = true := by decide +kernel
def e_X4_loadMany_2 : List xI := [(8, .istore_n 1, 1, .null), (9, .aload_n 0, 1, .null), (10, .getfield 26, 3, .null), (13, .aload_n 0, 1, .null), (14, .getfield 30, 3, .null), (17, .getfield 238, 3, .null), (20, .aload_n 0, 1, .null), (21, .getfield 30, 3, .null), (24, .getfield 65, 3, .null)]
theorem e_X4_loadMany_2_k : e_X4_loadMany_2.all (fun q => xokB cX4_loadMany q && xokL q) = true := by decide +kernel
def e_X4_loadMany_3 : List xI := [(30, .aload_n 0, 1, .null), (31, .getfield 26, 3, .null), (34, .getfield 247, 3, .null), (37, .istore_n 2, 1, .null), (38, .iconst 0, 1, .int 0), (39, .istore_n 3, 1, .null)]
theorem e_X4_loadMany_3_k : e_X4_loadMany_3.all (fun q => xokB cX4_loadMany q && xokL q) = true := by decide +kernel
def e_X4_loadMany_4 : List xI := [(40, .iload_n 3, 1, .null), (41, .bipush 16, 2, .int 16)]
theorem e_X4_loadMany_4_k : e_X4_loadMany_4.all (fun q => xokB cX4_loadMany q && xokL q) = true := by decide +kernel
def e_X4_loadMany_5 : List xI := [(105, .aload_n 0, 1, .null), (106, .getfield 30, 3, .null), (109, .getfield 238, 3, .null)]
theorem e_X4_loadMany_5_k : e_X4_loadMany_5.all (fun q => xokB cX4_loadMany q && xokL q) = true := by decide +kernel
def e_X4_loadMany_6 : List xI := [(115, .iconst 3, 1, .int 3)]
theorem e_X4_loadMany_6_k : e_X4_loadMany_6.all (fun q => xokB cX4_loadMany q && xokL q) = true := by decide +kernel
def e_X4_loadMany_7 : List xI := [(119, .aload_n 0, 1, .null), (120, .getfield 21, 3, .null), (123, .bipush 8, 2, .int 8), (125, .aload_n 0, 1, .null), (126, .getfield 30, 3, .null), (129, .getfield 238, 3, .null), (132, .bipush 7, 2, .int 7), (134, .iand, 1, .null), (135, .iadd, 1, .null), (136, .iload_n 2, 1, .null), (137, .iastore, 1, .null)]
theorem e_X4_loadMany_7_k : e_X4_loadMany_7.all (fun q => xokB cX4_loadMany q && xokL q) = true := by decide +kernel
def e_X4_loadMany_8 : List xI := [(46, .iload_n 1, 1, .null), (47, .iload_n 3, 1, .null), (48, .iushr, 1, .null), (49, .iconst 1, 1, .int 1), (50, .iand, 1, .null)]
theorem e_X4_loadMany_8_k : e_X4_loadMany_8.all (fun q => xokB cX4_loadMany q && xokL q) = true := by decide +kernel
def e_X4_loadMany_9 : List xI := [(54, .aload_n 0, 1, .null), (55, .getfield 21, 3, .null), (58, .iload_n 3, 1, .null), (59, .aload_n 0, 1, .null), (60, .getfield 22, 3, .null), (63, .iload_n 2, 1, .null), (64, .aload_n 0, 1, .null), (65, .getfield 30, 3, .null), (68, .getfield 65, 3, .null), (71, .iconst 1, 1, .int 1)]
theorem e_X4_loadMany_9_k : e_X4_loadMany_9.all (fun q => xokB cX4_loadMany q && xokL q) = true := by decide +kernel
def e_X4_loadMany_10 : List xI := [(75, .aload_n 0, 1, .null), (76, .getfield 30, 3, .null), (79, .getfield 65, 3, .null)]
theorem e_X4_loadMany_10_k : e_X4_loadMany_10.all (fun q => xokB cX4_loadMany q && xokL q) = true := by decide +kernel
def e_X4_loadMany_11 : List xI := [(85, .iastore, 1, .null), (86, .iload_n 2, 1, .null), (87, .aload_n 0, 1, .null), (88, .getfield 30, 3, .null), (91, .getfield 65, 3, .null)]
theorem e_X4_loadMany_11_k : e_X4_loadMany_11.all (fun q => xokB cX4_loadMany q && xokL q) = true := by decide +kernel
def e_X4_loadMany_12 : List xI := [(97, .iadd, 1, .null), (98, .istore_n 2, 1, .null)]
theorem e_X4_loadMany_12_k : e_X4_loadMany_12.all (fun q => xokB cX4_loadMany q && xokL q) = true := by decide +kernel
def e_X4_loadMany_13 : List xI := [(99, .iinc 3 1, 3, .null)]
theorem e_X4_loadMany_13_k : e_X4_loadMany_13.all (fun q => xokB cX4_loadMany q && xokL q) = true := by decide +kernel
abbrev P_X4_loadMany (r : St) (L : Nat → Nat → Int64) : Option Value → xG → Prop := fun v σ' => PoV r L v σ' ∧ InvK INVC r
abbrev R_X4_loadMany : Room := { frames := 4, cells := 0, slots := 0, locals := 102 }
abbrev C_X4_loadMany (l : Launch) (r : St) (L : Nat → Nat → Int64) (V : XJ) : Prop := XC l yX4_loadMany.cls yX4_loadMany.name cX4_loadMany 4 R_X4_loadMany 0 0 fl_X4 kc_X4 LAY.length (xfin none LAY (P_X4_loadMany r L)) V
def f_X4_loadMany_99 (rec : Int32 → Int32 → Int32 → St → St) (x1 : Int32) (x2 : Int32) (x3 : Int32) (M : St) : St := rec x1 x2 (x3 + 1) M
def f_X4_loadMany_40 : Nat → Int32 → Int32 → Int32 → St → St
  | 0, x1, x2, x3, M => M
  | n + 1, x1, x2, x3, M => (if 16 ≤ x3 then (if (f_X9_of (M 11 2)) = 3 then (xup M 2 (8 + ((M 11 2) &&& 7)).toNatClampNeg x2) else M) else (if ((ius x1 x3) &&& 1) = 0 then f_X4_loadMany_99 (f_X4_loadMany_40 n) x1 x2 x3 M else (xb (f_X2_read x2 (M 11 1) 1 M) fun q20 => f_X4_loadMany_99 (f_X4_loadMany_40 n) x1 (x2 + (f_X10_bytesOf (q20.2 11 1))) x3 (xup q20.2 2 x3.toNatClampNeg (f_X10_extended q20.1 (q20.2 11 1))))))
def f_X4_loadMany (M : St) : St := (xb (f_X6_fetch 1 M) fun q1 => (xb (f_X6_find (q1.2 11 2) (q1.2 11 1) q1.2) fun q4 => f_X4_loadMany_40 ((((16 : Int32)).toInt - (0 : Int32).toInt).toNat + 1) q1.1 (q4 10 3) 0 q4))
set_option maxRecDepth 20000 in
set_option maxHeartbeats 4000000 in
theorem b_X4_loadMany_99 {l : Launch} {L : Nat → Nat → Int64} {V : XJ} (r : St) (C : C_X4_loadMany l r L V) (n : Nat) (rec : Int32 → Int32 → Int32 → St → St) (hrec : ∀ (x1 : Int32) (x2 : Int32) (x3 : Int32) (M : St), xrg 0 16 x3 → InvK INVC M → (((16 : Int32)).toInt - x3.toInt).toNat < n → rec x1 x2 x3 M = r → V 0 0 40 [(0, .ref 12), (1, .int x1), (2, .int x2), (3, .int x3)] [] LAY (M, L)) (x1 : Int32) (x2 : Int32) (x3 : Int32) (M : St) (wx3 : xrg 0 15 x3) (hI : InvK INVC M) (hk : (((16 : Int32)).toInt - (x3 + 1).toInt).toNat < n) (h : f_X4_loadMany_99 rec x1 x2 x3 M = r) : V 0 0 99 [(0, .ref 12), (1, .int x1), (2, .int x2), (3, .int x3)] [] LAY (M, L) := by
  unfold f_X4_loadMany_99 at h
  refine x_run C e_X4_loadMany_13 e_X4_loadMany_13_k (pc' := 102) (lv' := [(3, .int (x3 + 1)), (0, .ref 12), (1, .int x1), (2, .int x2)]) (st' := []) (σ' := (M, L)) rfl ⟨trivial, trivial⟩ ?_
  refine x_goto C (show decode cX4_loadMany 102 = .ok (.goto (-62), 3) from by decide +kernel) (tgt := 40) (by decide) ?_
  refine x_lv C [1, 2, 3, 0] rfl ?_
  exact hrec x1 x2 (x3 + 1) M (x_rgw (x_rg_add wx3 (x_rgc (x := 1) (k := 1) (by decide)) (by decide) (by decide)) (lo' := 0) (hi' := 16) (by decide) (by decide)) hI (hk) h
set_option maxRecDepth 20000 in
set_option maxHeartbeats 4000000 in
theorem b_X4_loadMany_40 {l : Launch} {L : Nat → Nat → Int64} {V : XJ} (r : St) (C : C_X4_loadMany l r L V) : ∀ (n : Nat) (x1 : Int32) (x2 : Int32) (x3 : Int32) (M : St), xrg 0 16 x3 → InvK INVC M → (((16 : Int32)).toInt - x3.toInt).toNat < n → f_X4_loadMany_40 n x1 x2 x3 M = r → V 0 0 40 [(0, .ref 12), (1, .int x1), (2, .int x2), (3, .int x3)] [] LAY (M, L) := by
  intro n
  induction n with
  | zero => intro x1 x2 x3 M  wx3 hI hm; exact absurd hm (Nat.not_lt_zero _)
  | succ n ih =>
    intro x1 x2 x3 M  wx3 hI hm h
    unfold f_X4_loadMany_40 at h
    refine x_run C e_X4_loadMany_4 e_X4_loadMany_4_k (pc' := 43) (lv' := [(0, .ref 12), (1, .int x1), (2, .int x2), (3, .int x3)]) (st' := [.int 16, .int x3]) (σ' := (M, L)) rfl ⟨trivial, trivial, trivial⟩ ?_
    refine x_icmp_ge C (show decode cX4_loadMany 43 = .ok (.if_icmp .ge 62, 3) from by decide +kernel) (tgt := 105) (by decide) (fun c7 => ?_) (fun c7 => ?_)
    · rw [if_pos c7] at h
      have g8 : xrg 16 16 x3 := (x_c_le (x_rgc (x := 16) (k := 16) (by decide)) wx3 c7).2
      refine x_run C e_X4_loadMany_5 e_X4_loadMany_5_k (pc' := 112) (lv' := [(0, .ref 12), (1, .int x1), (2, .int x2), (3, .int x3)]) (st' := [.int (M 11 2)]) (σ' := (M, L)) rfl ⟨trivial, trivial, trivial, trivial⟩ ?_
      refine x_callS C (rest := []) (avs := [.int (M 11 2)]) (k_X9_of l (M 11 2) M L) yoX9_of ml_X4_277 rfl ⟨Nat.zero_le _, Nat.zero_le _⟩ (show decode cX4_loadMany 112 = .ok (.invokestatic 277, 3) from by decide +kernel) rfl (fun v σ' hPo => ?_)
      obtain ⟨⟨rfl, rfl⟩, g10, -⟩ := hPo
      show V 0 0 115 [(0, .ref 12), (1, .int x1), (2, .int x2), (3, .int x3)] [.int (f_X9_of (M 11 2))] LAY (M, L)
      refine x_run C e_X4_loadMany_6 e_X4_loadMany_6_k (pc' := 116) (lv' := [(0, .ref 12), (1, .int x1), (2, .int x2), (3, .int x3)]) (st' := [.int 3, .int (f_X9_of (M 11 2))]) (σ' := (M, L)) rfl ⟨trivial, trivial⟩ ?_
      refine x_icmp_ne C (show decode cX4_loadMany 116 = .ok (.if_icmp .ne 22, 3) from by decide +kernel) (tgt := 138) (by decide) (fun c12 => ?_) (fun c12 => ?_)
      · rw [if_neg c12] at h
        subst h
        exact x_vret C (show decode cX4_loadMany 138 = .ok (.return_, 1) from by decide +kernel) (x_finV ⟨⟨rfl, rfl⟩, hI⟩) (Nat.le_refl 0) (Nat.le_refl 0)
      · rw [if_pos c12] at h
        have g13 : xrg 3 3 (f_X9_of (M 11 2)) := (x_c_eq g10 (x_rgc (x := 3) (k := 3) (by decide)) c12).1
        refine x_run C e_X4_loadMany_7 e_X4_loadMany_7_k (pc' := 138) (lv' := [(0, .ref 12), (1, .int x1), (2, .int x2), (3, .int x3)]) (st' := []) (σ' := ((xup M 2 (8 + ((M 11 2) &&& 7)).toNatClampNeg x2), L)) rfl ⟨trivial, trivial, trivial, trivial, trivial, trivial, trivial, trivial, trivial, trivial, (x_rgv (x_rg_add (x_rgc (x := 8) (k := 8) (by decide)) (x_rg_and (x := (M 11 2)) (m := 7) (k := 7) (by decide) (by decide)) (by decide) (by decide)) (by decide) (by decide)), trivial⟩ ?_
        have hI14 : InvK INVC (xup M 2 (8 + ((M 11 2) &&& 7)).toNatClampNeg x2) := (hI.arr 2 ((8 + ((M 11 2) &&& 7)).toNatClampNeg) x2 (by decide))
        subst h
        exact x_vret C (show decode cX4_loadMany 138 = .ok (.return_, 1) from by decide +kernel) (x_finV ⟨⟨rfl, rfl⟩, hI14⟩) (Nat.le_refl 0) (Nat.le_refl 0)
    · rw [if_neg c7] at h
      have g15 : xrg 0 15 x3 := (x_c_nle (x_rgc (x := 16) (k := 16) (by decide)) wx3 c7).2
      have hk16 := x_meas (x_nle c7) hm
      refine x_run C e_X4_loadMany_8 e_X4_loadMany_8_k (pc' := 51) (lv' := [(0, .ref 12), (1, .int x1), (2, .int x2), (3, .int x3)]) (st' := [.int ((ius x1 x3) &&& 1)]) (σ' := (M, L)) rfl ⟨trivial, trivial, trivial, trivial, trivial, trivial⟩ ?_
      refine x_if_eq C (show decode cX4_loadMany 51 = .ok (.ifCond .eq 48, 3) from by decide +kernel) (tgt := 99) (by decide) (fun c17 => ?_) (fun c17 => ?_)
      · rw [if_pos c17] at h
        have g18 : xrg 0 0 ((ius x1 x3) &&& 1) := (x_c_eq (x_rg_and (x := (ius x1 x3)) (m := 1) (k := 1) (by decide) (by decide)) (x_rgc (x := 0) (k := 0) (by decide)) c17).1
        exact b_X4_loadMany_99 r C n (f_X4_loadMany_40 n) ih x1 x2 x3 M g15 hI (hk16) h
      · rw [if_neg c17] at h
        have g19 : xrg 1 1 ((ius x1 x3) &&& 1) := (x_c_ne (x_rg_and (x := (ius x1 x3)) (m := 1) (k := 1) (by decide) (by decide)) (by decide) c17)
        refine x_run C e_X4_loadMany_9 e_X4_loadMany_9_k (pc' := 72) (lv' := [(0, .ref 12), (1, .int x1), (2, .int x2), (3, .int x3)]) (st' := [.int 1, .int (M 11 1), .int x2, .ref 4, .int x3, .ref 2]) (σ' := (M, L)) rfl ⟨trivial, trivial, trivial, trivial, trivial, trivial, trivial, trivial, trivial, trivial, trivial⟩ ?_
        refine x_callV C (k := 4) (ci := 1) (rest := [.int x3, .ref 2]) (avs := [.int x2, .int (M 11 1), .int 1]) (k_X2_read l x2 (M 11 1) 1 M L hI) yoX2_read ml_X4_301 rfl rfl rfl rfl ⟨Nat.zero_le _, Nat.zero_le _⟩ (show decode cX4_loadMany 72 = .ok (.invokevirtual 301, 3) from by decide +kernel) rfl (fun v σ' hPo => ?_)
        obtain ⟨⟨rfl, rfl⟩, g21, hI22⟩ := hPo
        generalize hq20 : f_X2_read x2 (M 11 1) 1 M = q20 at h g21 hI22 ⊢
        obtain ⟨r20, M20⟩ := q20
        have h := xb_eq h
        try dsimp only at h g21 hI22
        show V 0 0 75 [(0, .ref 12), (1, .int x1), (2, .int x2), (3, .int x3)] [.int r20, .int x3, .ref 2] LAY (M20, L)
        refine x_run C e_X4_loadMany_10 e_X4_loadMany_10_k (pc' := 82) (lv' := [(0, .ref 12), (1, .int x1), (2, .int x2), (3, .int x3)]) (st' := [.int (M20 11 1), .int r20, .int x3, .ref 2]) (σ' := (M20, L)) rfl ⟨trivial, trivial, trivial, trivial⟩ ?_
        refine x_callSN C (rest := [.int x3, .ref 2]) (avs := [.int r20, .int (M20 11 1)]) (k_X10_extended l r20 (M20 11 1) M20 L) yoX10_extended ml_X4_97 rfl ⟨Nat.zero_le _, Nat.zero_le _⟩ (show decode cX4_loadMany 82 = .ok (.invokestatic 97, 3) from by decide +kernel) rfl (fun v σ' hPo => ?_)
        obtain ⟨⟨rfl, rfl⟩, g24, -⟩ := hPo
        show V 0 0 85 [(0, .ref 12), (1, .int x1), (2, .int x2), (3, .int x3)] [.int (f_X10_extended r20 (M20 11 1)), .int x3, .ref 2] LAY (M20, L)
        refine x_run C e_X4_loadMany_11 e_X4_loadMany_11_k (pc' := 94) (lv' := [(0, .ref 12), (1, .int x1), (2, .int x2), (3, .int x3)]) (st' := [.int (M20 11 1), .int x2]) (σ' := ((xup M20 2 x3.toNatClampNeg (f_X10_extended r20 (M20 11 1))), L)) rfl ⟨(x_rgv g15 (by decide) (by decide)), trivial, trivial, trivial, trivial, trivial⟩ ?_
        have hI26 : InvK INVC (xup M20 2 x3.toNatClampNeg (f_X10_extended r20 (M20 11 1))) := (hI22.arr 2 (x3.toNatClampNeg) (f_X10_extended r20 (M20 11 1)) (by decide))
        refine x_callSN C (rest := [.int x2]) (avs := [.int (M20 11 1)]) (k_X10_bytesOf l (M20 11 1) (xup M20 2 x3.toNatClampNeg (f_X10_extended r20 (M20 11 1))) L) yoX10_bytesOf ml_X4_298 rfl ⟨Nat.zero_le _, Nat.zero_le _⟩ (show decode cX4_loadMany 94 = .ok (.invokestatic 298, 3) from by decide +kernel) rfl (fun v σ' hPo => ?_)
        obtain ⟨⟨rfl, rfl⟩, g28, -⟩ := hPo
        show V 0 0 97 [(0, .ref 12), (1, .int x1), (2, .int x2), (3, .int x3)] [.int (f_X10_bytesOf (M20 11 1)), .int x2] LAY ((xup M20 2 x3.toNatClampNeg (f_X10_extended r20 (M20 11 1))), L)
        refine x_run C e_X4_loadMany_12 e_X4_loadMany_12_k (pc' := 99) (lv' := [(2, .int (x2 + (f_X10_bytesOf (M20 11 1)))), (0, .ref 12), (1, .int x1), (3, .int x3)]) (st' := []) (σ' := ((xup M20 2 x3.toNatClampNeg (f_X10_extended r20 (M20 11 1))), L)) rfl ⟨trivial, trivial, trivial⟩ ?_
        refine x_lv C [1, 2, 0, 3] rfl ?_
        exact b_X4_loadMany_99 r C n (f_X4_loadMany_40 n) ih x1 (x2 + (f_X10_bytesOf (M20 11 1))) x3 (xup M20 2 x3.toNatClampNeg (f_X10_extended r20 (M20 11 1))) g15 hI26 (hk16) h
set_option maxRecDepth 20000 in
set_option maxHeartbeats 4000000 in
theorem k_X4_loadMany (l : Launch) (M : St) (L : Nat → Nat → Int64) (hI : InvK INVC M) : XM l yX4_loadMany cX4_loadMany 4 none R_X4_loadMany LAY [.ref 12] (M, L) (P_X4_loadMany (f_X4_loadMany M) L) := by
  refine XM.of (by decide) (Nat.le_of_ble_eq_true rfl) LAY_in cl_ok fl_X4_ok kc_X4_ok (fun V C => ?_)
  obtain ⟨r, h⟩ : ∃ r, f_X4_loadMany M = r := ⟨_, rfl⟩
  rw [h] at C
  change C_X4_loadMany l r L V at C
  unfold f_X4_loadMany at h
  show V 0 0 0 [(0, .ref 12)] [] LAY (M, L)
  refine x_run C e_X4_loadMany_1 e_X4_loadMany_1_k (pc' := 5) (lv' := [(0, .ref 12)]) (st' := [.int 1, .ref 10]) (σ' := (M, L)) rfl ⟨trivial, trivial, trivial, trivial⟩ ?_
  refine x_callV C (k := 10) (ci := 4) (rest := []) (avs := [.int 1]) (k_X6_fetch l 1 M L hI) yoX6_fetch ml_X4_122 rfl rfl rfl rfl ⟨Nat.zero_le _, Nat.zero_le _⟩ (show decode cX4_loadMany 5 = .ok (.invokevirtual 122, 3) from by decide +kernel) rfl (fun v σ' hPo => ?_)
  obtain ⟨⟨rfl, rfl⟩, g2, hI3⟩ := hPo
  generalize hq1 : f_X6_fetch 1 M = q1 at h g2 hI3 ⊢
  obtain ⟨r1, M1⟩ := q1
  have h := xb_eq h
  try dsimp only at h g2 hI3
  show V 0 0 8 [(0, .ref 12)] [.int r1] LAY (M1, L)
  refine x_run C e_X4_loadMany_2 e_X4_loadMany_2_k (pc' := 27) (lv' := [(1, .int r1), (0, .ref 12)]) (st' := [.int (M1 11 1), .int (M1 11 2), .ref 10]) (σ' := (M1, L)) rfl ⟨trivial, trivial, trivial, trivial, trivial, trivial, trivial, trivial, trivial, trivial⟩ ?_
  refine x_callV C (k := 10) (ci := 4) (rest := []) (avs := [.int (M1 11 2), .int (M1 11 1)]) (k_X6_find l (M1 11 2) (M1 11 1) M1 L hI3) yoX6_find ml_X4_241 rfl rfl rfl rfl ⟨Nat.zero_le _, Nat.zero_le _⟩ (show decode cX4_loadMany 27 = .ok (.invokevirtual 241, 3) from by decide +kernel) rfl (fun v σ' hPo => ?_)
  obtain ⟨⟨rfl, rfl⟩, hI6⟩ := hPo
  generalize hq4 : f_X6_find (M1 11 2) (M1 11 1) M1 = q4 at h hI6 ⊢
  have h := xb_eq h
  show V 0 0 30 [(1, .int r1), (0, .ref 12)] [] LAY (q4, L)
  refine x_run C e_X4_loadMany_3 e_X4_loadMany_3_k (pc' := 40) (lv' := [(3, .int 0), (2, .int (q4 10 3)), (1, .int r1), (0, .ref 12)]) (st' := []) (σ' := (q4, L)) rfl ⟨trivial, trivial, trivial, trivial, trivial, trivial, trivial⟩ ?_
  refine x_lv C [3, 2, 1, 0] rfl ?_
  exact b_X4_loadMany_40 r C ((((16 : Int32)).toInt - (0 : Int32).toInt).toNat + 1) r1 (q4 10 3) 0 q4 (x_rgw (x_rgc (x := 0) (k := 0) (by decide)) (lo' := 0) (hi' := 16) (by decide) (by decide)) hI6 (Nat.lt_succ_self _) h
-- X4_address
def e_X4_address_1 : List xI := [(0, .aload_n 0, 1, .null), (1, .getfield 26, 3, .null), (4, .aload_n 0, 1, .null), (5, .getfield 30, 3, .null), (8, .getfield 238, 3, .null), (11, .iconst 2, 1, .int 2)]
theorem e_X4_address_1_k : e_X4_address_1.all (fun q => xokB cX4_address q && xokL q) = true := by decide +kernel
def e_X4_address_2 : List xI := [(15, .aload_n 0, 1, .null), (16, .getfield 26, 3, .null), (19, .getfield 247, 3, .null)]
theorem e_X4_address_2_k : e_X4_address_2.all (fun q => xokB cX4_address q && xokL q) = true := by decide +kernel
abbrev P_X4_address (r : Int32 × St) (L : Nat → Nat → Int64) : Option Value → xG → Prop := fun v σ' => PoI r.1 r.2 L v σ' ∧ True ∧ InvK INVC r.2
abbrev R_X4_address : Room := { frames := 4, cells := 0, slots := 0, locals := 102 }
abbrev C_X4_address (l : Launch) (r : Int32 × St) (L : Nat → Nat → Int64) (V : XJ) : Prop := XC l yX4_address.cls yX4_address.name cX4_address 1 R_X4_address 0 0 fl_X4 kc_X4 LAY.length (xfin (some .int) LAY (P_X4_address r L)) V
def f_X4_address (M : St) : Int32 × St := (xb (f_X6_find (M 11 2) 2 M) fun q1 => ((q1 10 3), q1))
set_option maxRecDepth 20000 in
set_option maxHeartbeats 4000000 in
theorem k_X4_address (l : Launch) (M : St) (L : Nat → Nat → Int64) (hI : InvK INVC M) : XM l yX4_address cX4_address 1 (some .int) R_X4_address LAY [.ref 12] (M, L) (P_X4_address (f_X4_address M) L) := by
  refine XM.of (by decide) (Nat.le_of_ble_eq_true rfl) LAY_in cl_ok fl_X4_ok kc_X4_ok (fun V C => ?_)
  obtain ⟨r, h⟩ : ∃ r, f_X4_address M = r := ⟨_, rfl⟩
  rw [h] at C
  change C_X4_address l r L V at C
  unfold f_X4_address at h
  show V 0 0 0 [(0, .ref 12)] [] LAY (M, L)
  refine x_run C e_X4_address_1 e_X4_address_1_k (pc' := 12) (lv' := [(0, .ref 12)]) (st' := [.int 2, .int (M 11 2), .ref 10]) (σ' := (M, L)) rfl ⟨trivial, trivial, trivial, trivial, trivial, trivial, trivial⟩ ?_
  refine x_callV C (k := 10) (ci := 4) (rest := []) (avs := [.int (M 11 2), .int 2]) (k_X6_find l (M 11 2) 2 M L hI) yoX6_find ml_X4_241 rfl rfl rfl rfl ⟨Nat.zero_le _, Nat.zero_le _⟩ (show decode cX4_address 12 = .ok (.invokevirtual 241, 3) from by decide +kernel) rfl (fun v σ' hPo => ?_)
  obtain ⟨⟨rfl, rfl⟩, hI3⟩ := hPo
  generalize hq1 : f_X6_find (M 11 2) 2 M = q1 at h hI3 ⊢
  have h := xb_eq h
  show V 0 0 15 [(0, .ref 12)] [] LAY (q1, L)
  refine x_run C e_X4_address_2 e_X4_address_2_k (pc' := 22) (lv' := [(0, .ref 12)]) (st' := [.int (q1 10 3)]) (σ' := (q1, L)) rfl ⟨trivial, trivial, trivial, trivial⟩ ?_
  subst h
  exact x_iret C (show decode cX4_address 22 = .ok (.ireturn, 1) from by decide +kernel) (x_finI rfl ⟨⟨rfl, rfl⟩, trivial, hI3⟩) (Nat.le_refl 0) (Nat.le_refl 0)
-- X4_call
def e_X4_call_1 : List xI := [(0, .aload_n 0, 1, .null), (1, .getfield 26, 3, .null), (4, .iconst 2, 1, .int 2), (5, .aload_n 0, 1, .null), (6, .getfield 21, 3, .null), (9, .bipush 17, 2, .int 17), (11, .iaload, 1, .null)]
theorem e_X4_call_1_k : e_X4_call_1.all (fun q => xokB cX4_call q && xokL q) = true := by decide +kernel
def e_X4_call_2 : List xI := [(15, .aload_n 0, 1, .null), (16, .getfield 21, 3, .null), (19, .bipush 17, 2, .int 17), (21, .iload_n 1, 1, .null), (22, .iastore, 1, .null)]
theorem e_X4_call_2_k : e_X4_call_2.all (fun q => xokB cX4_call q && xokL q) = true := by decide +kernel
abbrev P_X4_call (r : St) (L : Nat → Nat → Int64) : Option Value → xG → Prop := fun v σ' => PoV r L v σ' ∧ InvK INVC r
abbrev R_X4_call : Room := { frames := 3, cells := 0, slots := 0, locals := 75 }
abbrev C_X4_call (l : Launch) (r : St) (L : Nat → Nat → Int64) (V : XJ) : Prop := XC l yX4_call.cls yX4_call.name cX4_call 2 R_X4_call 0 0 fl_X4 kc_X4 LAY.length (xfin none LAY (P_X4_call r L)) V
def f_X4_call (a1 : Int32) (M : St) : St := (xb (f_X6_push 2 (M 2 17) M) fun q1 => (xup q1 2 17 a1))
set_option maxRecDepth 20000 in
set_option maxHeartbeats 4000000 in
theorem k_X4_call (l : Launch) (a1 : Int32) (M : St) (L : Nat → Nat → Int64) (hI : InvK INVC M) : XM l yX4_call cX4_call 2 none R_X4_call LAY [.ref 12, .int a1] (M, L) (P_X4_call (f_X4_call a1 M) L) := by
  refine XM.of (by decide) (Nat.le_of_ble_eq_true rfl) LAY_in cl_ok fl_X4_ok kc_X4_ok (fun V C => ?_)
  obtain ⟨r, h⟩ : ∃ r, f_X4_call a1 M = r := ⟨_, rfl⟩
  rw [h] at C
  change C_X4_call l r L V at C
  unfold f_X4_call at h
  show V 0 0 0 [(0, .ref 12), (1, .int a1)] [] LAY (M, L)
  refine x_run C e_X4_call_1 e_X4_call_1_k (pc' := 12) (lv' := [(0, .ref 12), (1, .int a1)]) (st' := [.int (M 2 17), .int 2, .ref 10]) (σ' := (M, L)) rfl ⟨trivial, trivial, trivial, trivial, trivial, trivial, (x_rgv (x_rgc (x := 17) (k := 17) (by decide)) (by decide) (by decide)), trivial⟩ ?_
  refine x_callV C (k := 10) (ci := 4) (rest := []) (avs := [.int 2, .int (M 2 17)]) (k_X6_push l 2 (M 2 17) M L hI) yoX6_push ml_X4_176 rfl rfl rfl rfl ⟨Nat.zero_le _, Nat.zero_le _⟩ (show decode cX4_call 12 = .ok (.invokevirtual 176, 3) from by decide +kernel) rfl (fun v σ' hPo => ?_)
  obtain ⟨⟨rfl, rfl⟩, hI3⟩ := hPo
  generalize hq1 : f_X6_push 2 (M 2 17) M = q1 at h hI3 ⊢
  have h := xb_eq h
  show V 0 0 15 [(0, .ref 12), (1, .int a1)] [] LAY (q1, L)
  refine x_run C e_X4_call_2 e_X4_call_2_k (pc' := 23) (lv' := [(0, .ref 12), (1, .int a1)]) (st' := []) (σ' := ((xup q1 2 17 a1), L)) rfl ⟨trivial, trivial, trivial, trivial, (x_rgv (x_rgc (x := 17) (k := 17) (by decide)) (by decide) (by decide)), trivial⟩ ?_
  have hI4 : InvK INVC (xup q1 2 17 a1) := (hI3.arr 2 17 a1 (by decide))
  subst h
  exact x_vret C (show decode cX4_call 23 = .ok (.return_, 1) from by decide +kernel) (x_finV ⟨⟨rfl, rfl⟩, hI4⟩) (Nat.le_refl 0) (Nat.le_refl 0)
