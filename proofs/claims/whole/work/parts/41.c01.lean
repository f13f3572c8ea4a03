-- X2_store
def e_X2_store_1 : List xI := [(0, .aload_n 0, 1, .null), (1, .getfield 9, 3, .null), (4, .iload_n 1, 1, .null), (5, .iload_n 2, 1, .null), (6, .bipush 8, 2, .int 8), (8, .iushr, 1, .null), (9, .sipush 255, 3, .int 255), (12, .iand, 1, .null), (13, .iastore, 1, .null), (14, .aload_n 0, 1, .null), (15, .getfield 9, 3, .null), (18, .iload_n 1, 1, .null), (19, .iconst 1, 1, .int 1), (20, .iadd, 1, .null), (21, .iload_n 2, 1, .null), (22, .sipush 255, 3, .int 255), (25, .iand, 1, .null), (26, .iastore, 1, .null)]
theorem e_X2_store_1_k : e_X2_store_1.all (fun q => xokB cX2_store q && xokL q) = true := by decide +kernel
abbrev P_X2_store (r : St) (L : Nat → Nat → Int64) : Option Value → xG → Prop := fun v σ' => PoV r L v σ' ∧ InvK INVC r
abbrev R_X2_store : Room := { frames := 0, cells := 0, slots := 0, locals := 0 }
abbrev C_X2_store (l : Launch) (r : St) (L : Nat → Nat → Int64) (V : XJ) : Prop := XC l yX2_store.cls yX2_store.name cX2_store 3 R_X2_store 0 0 fl_X2 kc_X2 LAY.length (xfin none LAY (P_X2_store r L)) V
def f_X2_store (a1 : Int32) (a2 : Int32) (M : St) : St := (xup (xup M 5 a1.toNatClampNeg ((ius a2 8) &&& 255)) 5 (a1 + 1).toNatClampNeg (a2 &&& 255))
set_option maxRecDepth 20000 in
set_option maxHeartbeats 4000000 in
theorem k_X2_store (l : Launch) (a1 : Int32) (a2 : Int32) (M : St) (L : Nat → Nat → Int64) (hp1 : xrg 0 2046 a1) (hI : InvK INVC M) : XM l yX2_store cX2_store 3 none R_X2_store LAY [.ref 4, .int a1, .int a2] (M, L) (P_X2_store (f_X2_store a1 a2 M) L) := by
  refine XM.of (by decide) (Nat.le_of_ble_eq_true rfl) LAY_in cl_ok fl_X2_ok kc_X2_ok (fun V C => ?_)
  obtain ⟨r, h⟩ : ∃ r, f_X2_store a1 a2 M = r := ⟨_, rfl⟩
  rw [h] at C
  change C_X2_store l r L V at C
  unfold f_X2_store at h
  show V 0 0 0 [(0, .ref 4), (1, .int a1), (2, .int a2)] [] LAY (M, L)
  refine x_run C e_X2_store_1 e_X2_store_1_k (pc' := 27) (lv' := [(0, .ref 4), (1, .int a1), (2, .int a2)]) (st' := []) (σ' := ((xup (xup M 5 a1.toNatClampNeg ((ius a2 8) &&& 255)) 5 (a1 + 1).toNatClampNeg (a2 &&& 255)), L)) rfl ⟨trivial, trivial, trivial, trivial, trivial, trivial, trivial, trivial, (x_rgv hp1 (by decide) (by decide)), trivial, trivial, trivial, trivial, trivial, trivial, trivial, trivial, (x_rgv (x_rg_add hp1 (x_rgc (x := 1) (k := 1) (by decide)) (by decide) (by decide)) (by decide) (by decide)), trivial⟩ ?_
  have hI1 : InvK INVC (xup (xup M 5 a1.toNatClampNeg ((ius a2 8) &&& 255)) 5 (a1 + 1).toNatClampNeg (a2 &&& 255)) := ((hI.arrv 5 (a1.toNatClampNeg) (x_rg_and (x := (ius a2 8)) (m := 255) (k := 255) (by decide) (by decide)) (by decide)).arrv 5 ((a1 + 1).toNatClampNeg) (x_rg_and (x := a2) (m := 255) (k := 255) (by decide) (by decide)) (by decide))
  subst h
  exact x_vret C (show decode cX2_store 27 = .ok (.return_, 1) from by decide +kernel) (x_finV ⟨⟨rfl, rfl⟩, hI1⟩) (Nat.le_refl 0) (Nat.le_refl 0)
-- X7_maskOfLevels
def e_X7_maskOfLevels_1 : List xI := [(0, .aload_n 0, 1, .null), (1, .getfield 28, 3, .null), (4, .bipush 18, 2, .int 18), (6, .iaload, 1, .null), (7, .sipush 1792, 3, .int 1792), (10, .iand, 1, .null), (11, .bipush 8, 2, .int 8), (13, .iushr, 1, .null)]
theorem e_X7_maskOfLevels_1_k : e_X7_maskOfLevels_1.all (fun q => xokB cX7_maskOfLevels q && xokL q) = true := by decide +kernel
abbrev P_X7_maskOfLevels (r : Int32) (M0 : St) (L : Nat → Nat → Int64) : Option Value → xG → Prop := fun v σ' => PoI r M0 L v σ' ∧ xrg 0 7 r ∧ InvK INVC M0
abbrev R_X7_maskOfLevels : Room := { frames := 0, cells := 0, slots := 0, locals := 0 }
abbrev C_X7_maskOfLevels (l : Launch) (r : Int32) (M0 : St) (L : Nat → Nat → Int64) (V : XJ) : Prop := XC l yX7_maskOfLevels.cls yX7_maskOfLevels.name cX7_maskOfLevels 1 R_X7_maskOfLevels 0 0 fl_X7 kc_X7 LAY.length (xfin (some .int) LAY (P_X7_maskOfLevels r M0 L)) V
def f_X7_maskOfLevels (M : St) : Int32 := (ius ((M 2 18) &&& 1792) 8)
set_option maxRecDepth 20000 in
set_option maxHeartbeats 4000000 in
theorem k_X7_maskOfLevels (l : Launch) (M : St) (L : Nat → Nat → Int64) (hI : InvK INVC M) : XM l yX7_maskOfLevels cX7_maskOfLevels 1 (some .int) R_X7_maskOfLevels LAY [.ref 8] (M, L) (P_X7_maskOfLevels (f_X7_maskOfLevels M) M L) := by
  refine XM.of (by decide) (Nat.le_of_ble_eq_true rfl) LAY_in cl_ok fl_X7_ok kc_X7_ok (fun V C => ?_)
  obtain ⟨r, h⟩ : ∃ r, f_X7_maskOfLevels M = r := ⟨_, rfl⟩
  rw [h] at C
  change C_X7_maskOfLevels l r M L V at C
  unfold f_X7_maskOfLevels at h
  show V 0 0 0 [(0, .ref 8)] [] LAY (M, L)
  refine x_run C e_X7_maskOfLevels_1 e_X7_maskOfLevels_1_k (pc' := 14) (lv' := [(0, .ref 8)]) (st' := [.int (ius ((M 2 18) &&& 1792) 8)]) (σ' := (M, L)) rfl ⟨trivial, trivial, trivial, (x_rgv (x_rgc (x := 18) (k := 18) (by decide)) (by decide) (by decide)), trivial, trivial, trivial, trivial, trivial⟩ ?_
  subst h
  exact x_iret C (show decode cX7_maskOfLevels 14 = .ok (.ireturn, 1) from by decide +kernel) (x_finI rfl ⟨⟨rfl, rfl⟩, (x_rg_ush (k := 8) (hi := 7) (x_rg_and (x := (M 2 18)) (m := 1792) (k := 1792) (by decide) (by decide)) (by decide) (by decide) (by decide)), hI⟩) (Nat.le_refl 0) (Nat.le_refl 0)
-- X8_keep
def e_X8_keep_1 : List xI := [(0, .aload_n 0, 1, .null), (1, .getfield 9, 3, .null), (4, .iconst 0, 1, .int 0), (5, .aload_n 0, 1, .null), (6, .getfield 15, 3, .null), (9, .iconst 0, 1, .int 0), (10, .bipush 19, 2, .int 19)]
theorem e_X8_keep_1_k : e_X8_keep_1.all (fun q => xokB cX8_keep q && xokL q) = true := by decide +kernel
abbrev P_X8_keep (r : St) (L : Nat → Nat → Int64) : Option Value → xG → Prop := fun v σ' => PoV r L v σ' ∧ InvK INVC r
abbrev R_X8_keep : Room := { frames := 1, cells := 0, slots := 0, locals := 64 }
abbrev C_X8_keep (l : Launch) (r : St) (L : Nat → Nat → Int64) (V : XJ) : Prop := XC l yX8_keep.cls yX8_keep.name cX8_keep 1 R_X8_keep 0 0 fl_X8 kc_X8 LAY.length (xfin none LAY (P_X8_keep r L)) V
def f_X8_keep (M : St) : St := (xcp M 2 3)
set_option maxRecDepth 20000 in
set_option maxHeartbeats 4000000 in
theorem k_X8_keep (l : Launch) (M : St) (L : Nat → Nat → Int64) (hI : InvK INVC M) : XM l yX8_keep cX8_keep 1 none R_X8_keep LAY [.ref 1] (M, L) (P_X8_keep (f_X8_keep M) L) := by
  refine XM.of (by decide) (Nat.le_of_ble_eq_true rfl) LAY_in cl_ok fl_X8_ok kc_X8_ok (fun V C => ?_)
  obtain ⟨r, h⟩ : ∃ r, f_X8_keep M = r := ⟨_, rfl⟩
  rw [h] at C
  change C_X8_keep l r L V at C
  unfold f_X8_keep at h
  show V 0 0 0 [(0, .ref 1)] [] LAY (M, L)
  refine x_run C e_X8_keep_1 e_X8_keep_1_k (pc' := 12) (lv' := [(0, .ref 1)]) (st' := [.int 19, .int 0, .ref 3, .int 0, .ref 2]) (σ' := (M, L)) rfl ⟨trivial, trivial, trivial, trivial, trivial, trivial, trivial, trivial⟩ ?_
  refine x_acopy C cp_lk rfl rfl (by decide) cp_ws (show decode cX8_keep 12 = .ok (.invokestatic 19, 3) from by decide +kernel) ?_
  have hI1 : InvK INVC (xcp M 2 3) := (hI.cp 2 3 (by decide))
  subst h
  exact x_vret C (show decode cX8_keep 15 = .ok (.return_, 1) from by decide +kernel) (x_finV ⟨⟨rfl, rfl⟩, hI1⟩) (Nat.le_refl 0) (Nat.le_refl 0)
-- X2_writeByte
def e_X2_writeByte_1 : List xI := [(0, .iload_n 1, 1, .null), (1, .sipush 2048, 3, .int 2048)]
theorem e_X2_writeByte_1_k : e_X2_writeByte_1.all (fun q => xokB cX2_writeByte q && xokL q) = true := by decide +kernel
def e_X2_writeByte_2 : List xI := [(15, .iload_n 1, 1, .null)]
theorem e_X2_writeByte_2_k : e_X2_writeByte_2.all (fun q => xokB cX2_writeByte q && xokL q) = true := by decide +kernel
def e_X2_writeByte_3 : List xI := [(56, .aload_n 0, 1, .null), (57, .getfield 75, 3, .null), (60, .bipush 64, 2, .int 64)]
theorem e_X2_writeByte_3_k : e_X2_writeByte_3.all (fun q => xokB cX2_writeByte q && xokL q) = true := by decide +kernel
def e_X2_writeByte_4 : List xI := [(65, .aload_n 0, 1, .null), (66, .getfield 18, 3, .null), (69, .aload_n 0, 1, .null), (70, .getfield 75, 3, .null), (73, .iload_n 2, 1, .null), (74, .iastore, 1, .null), (75, .aload_n 0, 1, .null), (76, .dup, 1, .null), (77, .getfield 75, 3, .null), (80, .iconst 1, 1, .int 1), (81, .iadd, 1, .null), (82, .putfield 75, 3, .null)]
theorem e_X2_writeByte_4_k : e_X2_writeByte_4.all (fun q => xokB cX2_writeByte q && xokL q) = true := by decide +kernel
def e_X2_writeByte_5 : List xI := [(88, .aload_n 0, 1, .null), (89, .aload_n 0, 1, .null), (90, .getfield 51, 3, .null), (93, .sipush 255, 3, .int 255), (96, .iand, 1, .null), (97, .iload_n 2, 1, .null), (98, .bipush 8, 2, .int 8), (100, .ishl, 1, .null), (101, .ior, 1, .null), (102, .putfield 51, 3, .null)]
theorem e_X2_writeByte_5_k : e_X2_writeByte_5.all (fun q => xokB cX2_writeByte q && xokL q) = true := by decide +kernel
def e_X2_writeByte_6 : List xI := [(108, .aload_n 0, 1, .null), (109, .aload_n 0, 1, .null), (110, .getfield 51, 3, .null), (113, .ldc 78, 2, .null), (115, .iand, 1, .null), (116, .iload_n 2, 1, .null), (117, .ior, 1, .null), (118, .putfield 51, 3, .null)]
theorem e_X2_writeByte_6_k : e_X2_writeByte_6.all (fun q => xokB cX2_writeByte q && xokL q) = true := by decide +kernel
def e_X2_writeByte_7 : List xI := [(124, .aload_n 0, 1, .null), (125, .iload_n 2, 1, .null), (126, .bipush 7, 2, .int 7), (128, .iand, 1, .null), (129, .putfield 54, 3, .null)]
theorem e_X2_writeByte_7_k : e_X2_writeByte_7.all (fun q => xokB cX2_writeByte q && xokL q) = true := by decide +kernel
def e_X2_writeByte_8 : List xI := [(135, .aload_n 0, 1, .null), (136, .iconst 0, 1, .int 0), (137, .putfield 57, 3, .null)]
theorem e_X2_writeByte_8_k : e_X2_writeByte_8.all (fun q => xokB cX2_writeByte q && xokL q) = true := by decide +kernel
def e_X2_writeByte_9 : List xI := [(7, .aload_n 0, 1, .null), (8, .getfield 9, 3, .null), (11, .iload_n 1, 1, .null), (12, .iload_n 2, 1, .null), (13, .iastore, 1, .null)]
theorem e_X2_writeByte_9_k : e_X2_writeByte_9.all (fun q => xokB cX2_writeByte q && xokL q) = true := by decide +kernel
abbrev P_X2_writeByte (r : St) (L : Nat → Nat → Int64) : Option Value → xG → Prop := fun v σ' => PoV r L v σ' ∧ InvK INVC r
abbrev R_X2_writeByte : Room := { frames := 0, cells := 0, slots := 0, locals := 0 }
abbrev C_X2_writeByte (l : Launch) (r : St) (L : Nat → Nat → Int64) (V : XJ) : Prop := XC l yX2_writeByte.cls yX2_writeByte.name cX2_writeByte 3 R_X2_writeByte 0 0 fl_X2 kc_X2 LAY.length (xfin none LAY (P_X2_writeByte r L)) V
def f_X2_writeByte (a1 : Int32) (a2 : Int32) (M : St) : St := (if 2048 ≤ a1 then (if a1 = 4096 then (if 64 ≤ (M 4 5) then M else (xup (xup M 7 (M 4 5).toNatClampNeg a2) 4 5 ((M 4 5) + 1))) else (if a1 = 4097 then M else (if a1 = 4098 then (xup M 4 7 (((M 4 7) &&& 255) ||| (a2 <<< ((8 : Int32) &&& 31)))) else (if a1 = 4099 then (xup M 4 7 (((M 4 7) &&& 65280) ||| a2)) else (if a1 = 4100 then (xup M 4 8 (a2 &&& 7)) else (if a1 = 4101 then (xup M 4 9 0) else M)))))) else (xup M 5 a1.toNatClampNeg a2))
set_option maxRecDepth 20000 in
set_option maxHeartbeats 4000000 in
theorem k_X2_writeByte (l : Launch) (a1 : Int32) (a2 : Int32) (M : St) (L : Nat → Nat → Int64) (hp1 : xrg 0 2147483647 a1) (hp2 : xrg 0 255 a2) (hI : InvK INVC M) : XM l yX2_writeByte cX2_writeByte 3 none R_X2_writeByte LAY [.ref 4, .int a1, .int a2] (M, L) (P_X2_writeByte (f_X2_writeByte a1 a2 M) L) := by
  refine XM.of (by decide) (Nat.le_of_ble_eq_true rfl) LAY_in cl_ok fl_X2_ok kc_X2_ok (fun V C => ?_)
  obtain ⟨r, h⟩ : ∃ r, f_X2_writeByte a1 a2 M = r := ⟨_, rfl⟩
  rw [h] at C
  change C_X2_writeByte l r L V at C
  unfold f_X2_writeByte at h
  show V 0 0 0 [(0, .ref 4), (1, .int a1), (2, .int a2)] [] LAY (M, L)
  refine x_run C e_X2_writeByte_1 e_X2_writeByte_1_k (pc' := 4) (lv' := [(0, .ref 4), (1, .int a1), (2, .int a2)]) (st' := [.int 2048, .int a1]) (σ' := (M, L)) rfl ⟨trivial, trivial, trivial⟩ ?_
  refine x_icmp_ge C (show decode cX2_writeByte 4 = .ok (.if_icmp .ge 11, 3) from by decide +kernel) (tgt := 15) (by decide) (fun c1 => ?_) (fun c1 => ?_)
  · rw [if_pos c1] at h
    have g2 : xrg 2048 2147483647 a1 := (x_c_le (x_rgc (x := 2048) (k := 2048) (by decide)) hp1 c1).2
    refine x_run C e_X2_writeByte_2 e_X2_writeByte_2_k (pc' := 16) (lv' := [(0, .ref 4), (1, .int a1), (2, .int a2)]) (st' := [.int a1]) (σ' := (M, L)) rfl ⟨trivial, trivial⟩ ?_
    by_cases c3 : a1 = 4096
    · rw [if_pos c3] at h
      refine x_tin C (show decode cX2_writeByte 16 = .ok (.tableswitch 127 4096 4101 #[40, 127, 72, 92, 108, 119], 40) from by decide +kernel) 4096 c3 (off := 40) (tgt := 56) (by decide) ?_
      refine x_run C e_X2_writeByte_3 e_X2_writeByte_3_k (pc' := 62) (lv' := [(0, .ref 4), (1, .int a1), (2, .int a2)]) (st' := [.int 64, .int (M 4 5)]) (σ' := (M, L)) rfl ⟨trivial, trivial, trivial, trivial⟩ ?_
      refine x_icmp_ge C (show decode cX2_writeByte 62 = .ok (.if_icmp .ge 81, 3) from by decide +kernel) (tgt := 143) (by decide) (fun c4 => ?_) (fun c4 => ?_)
      · rw [if_pos c4] at h
        have g5 : xrg 64 64 (M 4 5) := (x_c_le (x_rgc (x := 64) (k := 64) (by decide)) (hI.at 2 rfl) c4).2
        subst h
        exact x_vret C (show decode cX2_writeByte 143 = .ok (.return_, 1) from by decide +kernel) (x_finV ⟨⟨rfl, rfl⟩, hI⟩) (Nat.le_refl 0) (Nat.le_refl 0)
      · rw [if_neg c4] at h
        have g6 : xrg 0 63 (M 4 5) := (x_c_nle (x_rgc (x := 64) (k := 64) (by decide)) (hI.at 2 rfl) c4).2
        refine x_run C e_X2_writeByte_4 e_X2_writeByte_4_k (pc' := 85) (lv' := [(0, .ref 4), (1, .int a1), (2, .int a2)]) (st' := []) (σ' := ((xup (xup M 7 (M 4 5).toNatClampNeg a2) 4 5 ((M 4 5) + 1)), L)) rfl ⟨trivial, trivial, trivial, trivial, trivial, (x_rgv g6 (by decide) (by decide)), trivial, trivial, trivial, trivial, trivial, trivial, trivial⟩ ?_
        have hI7 : InvK INVC (xup (xup M 7 (M 4 5).toNatClampNeg a2) 4 5 ((M 4 5) + 1)) := ((hI.arr 7 ((M 4 5).toNatClampNeg) a2 (by decide)).set 4 5 (x_rg_add g6 (x_rgc (x := 1) (k := 1) (by decide)) (by decide) (by decide)) (by decide))
        refine x_goto C (show decode cX2_writeByte 85 = .ok (.goto 58, 3) from by decide +kernel) (tgt := 143) (by decide) ?_
        subst h
        exact x_vret C (show decode cX2_writeByte 143 = .ok (.return_, 1) from by decide +kernel) (x_finV ⟨⟨rfl, rfl⟩, hI7⟩) (Nat.le_refl 0) (Nat.le_refl 0)
    rw [if_neg c3] at h
    by_cases c8 : a1 = 4097
    · rw [if_pos c8] at h
      refine x_tin C (show decode cX2_writeByte 16 = .ok (.tableswitch 127 4096 4101 #[40, 127, 72, 92, 108, 119], 40) from by decide +kernel) 4097 c8 (off := 127) (tgt := 143) (by decide) ?_
      subst h
      exact x_vret C (show decode cX2_writeByte 143 = .ok (.return_, 1) from by decide +kernel) (x_finV ⟨⟨rfl, rfl⟩, hI⟩) (Nat.le_refl 0) (Nat.le_refl 0)
    rw [if_neg c8] at h
    by_cases c9 : a1 = 4098
    · rw [if_pos c9] at h
      refine x_tin C (show decode cX2_writeByte 16 = .ok (.tableswitch 127 4096 4101 #[40, 127, 72, 92, 108, 119], 40) from by decide +kernel) 4098 c9 (off := 72) (tgt := 88) (by decide) ?_
      refine x_run C e_X2_writeByte_5 e_X2_writeByte_5_k (pc' := 105) (lv' := [(0, .ref 4), (1, .int a1), (2, .int a2)]) (st' := []) (σ' := ((xup M 4 7 (((M 4 7) &&& 255) ||| (a2 <<< ((8 : Int32) &&& 31)))), L)) rfl ⟨trivial, trivial, trivial, trivial, trivial, trivial, trivial, trivial, trivial, trivial, trivial⟩ ?_
      have hI10 : InvK INVC (xup M 4 7 (((M 4 7) &&& 255) ||| (a2 <<< ((8 : Int32) &&& 31)))) := (hI.set 4 7 (x_rg_or 16 (by decide) (x_rg_and (x := (M 4 7)) (m := 255) (k := 255) (by decide) (by decide)) (x_rg_shl (k := 8) (hi := 65280) hp2 (by decide) (by decide) (by decide)) (by decide) (by decide)) (by decide))
      refine x_goto C (show decode cX2_writeByte 105 = .ok (.goto 38, 3) from by decide +kernel) (tgt := 143) (by decide) ?_
      subst h
      exact x_vret C (show decode cX2_writeByte 143 = .ok (.return_, 1) from by decide +kernel) (x_finV ⟨⟨rfl, rfl⟩, hI10⟩) (Nat.le_refl 0) (Nat.le_refl 0)
    rw [if_neg c9] at h
    by_cases c11 : a1 = 4099
    · rw [if_pos c11] at h
      refine x_tin C (show decode cX2_writeByte 16 = .ok (.tableswitch 127 4096 4101 #[40, 127, 72, 92, 108, 119], 40) from by decide +kernel) 4099 c11 (off := 92) (tgt := 108) (by decide) ?_
      refine x_run C e_X2_writeByte_6 e_X2_writeByte_6_k (pc' := 121) (lv' := [(0, .ref 4), (1, .int a1), (2, .int a2)]) (st' := []) (σ' := ((xup M 4 7 (((M 4 7) &&& 65280) ||| a2)), L)) rfl ⟨trivial, trivial, trivial, trivial, trivial, trivial, trivial, trivial, trivial⟩ ?_
      have hI12 : InvK INVC (xup M 4 7 (((M 4 7) &&& 65280) ||| a2)) := (hI.set 4 7 (x_rg_or 16 (by decide) (x_rg_and (x := (M 4 7)) (m := 65280) (k := 65280) (by decide) (by decide)) hp2 (by decide) (by decide)) (by decide))
      refine x_goto C (show decode cX2_writeByte 121 = .ok (.goto 22, 3) from by decide +kernel) (tgt := 143) (by decide) ?_
      subst h
      exact x_vret C (show decode cX2_writeByte 143 = .ok (.return_, 1) from by decide +kernel) (x_finV ⟨⟨rfl, rfl⟩, hI12⟩) (Nat.le_refl 0) (Nat.le_refl 0)
    rw [if_neg c11] at h
    by_cases c13 : a1 = 4100
    · rw [if_pos c13] at h
      refine x_tin C (show decode cX2_writeByte 16 = .ok (.tableswitch 127 4096 4101 #[40, 127, 72, 92, 108, 119], 40) from by decide +kernel) 4100 c13 (off := 108) (tgt := 124) (by decide) ?_
      refine x_run C e_X2_writeByte_7 e_X2_writeByte_7_k (pc' := 132) (lv' := [(0, .ref 4), (1, .int a1), (2, .int a2)]) (st' := []) (σ' := ((xup M 4 8 (a2 &&& 7)), L)) rfl ⟨trivial, trivial, trivial, trivial, trivial, trivial⟩ ?_
      have hI14 : InvK INVC (xup M 4 8 (a2 &&& 7)) := (hI.set 4 8 (x_rg_and (x := a2) (m := 7) (k := 7) (by decide) (by decide)) (by decide))
      refine x_goto C (show decode cX2_writeByte 132 = .ok (.goto 11, 3) from by decide +kernel) (tgt := 143) (by decide) ?_
      subst h
      exact x_vret C (show decode cX2_writeByte 143 = .ok (.return_, 1) from by decide +kernel) (x_finV ⟨⟨rfl, rfl⟩, hI14⟩) (Nat.le_refl 0) (Nat.le_refl 0)
    rw [if_neg c13] at h
    by_cases c15 : a1 = 4101
    · rw [if_pos c15] at h
      refine x_tin C (show decode cX2_writeByte 16 = .ok (.tableswitch 127 4096 4101 #[40, 127, 72, 92, 108, 119], 40) from by decide +kernel) 4101 c15 (off := 119) (tgt := 135) (by decide) ?_
      refine x_run C e_X2_writeByte_8 e_X2_writeByte_8_k (pc' := 140) (lv' := [(0, .ref 4), (1, .int a1), (2, .int a2)]) (st' := []) (σ' := ((xup M 4 9 0), L)) rfl ⟨trivial, trivial, (x_rgb (x_rgw (x_rgc (x := 0) (k := 0) (by decide)) (lo' := 0) (hi' := 1) (by decide) (by decide))), trivial⟩ ?_
      have hI16 : InvK INVC (xup M 4 9 0) := (hI.fld 4 9 0 (by decide))
      refine x_goto C (show decode cX2_writeByte 140 = .ok (.goto 3, 3) from by decide +kernel) (tgt := 143) (by decide) ?_
      subst h
      exact x_vret C (show decode cX2_writeByte 143 = .ok (.return_, 1) from by decide +kernel) (x_finV ⟨⟨rfl, rfl⟩, hI16⟩) (Nat.le_refl 0) (Nat.le_refl 0)
    rw [if_neg c15] at h
    have hz : a1.toInt < 4096 ∨ 4101 < a1.toInt := by
      have zc3 := lv_neT (a := 4096) c3 (by decide)
      have zc8 := lv_neT (a := 4097) c8 (by decide)
      have zc9 := lv_neT (a := 4098) c9 (by decide)
      have zc11 := lv_neT (a := 4099) c11 (by decide)
      have zc13 := lv_neT (a := 4100) c13 (by decide)
      have zc15 := lv_neT (a := 4101) c15 (by decide)
      omega
    refine x_tout C (show decode cX2_writeByte 16 = .ok (.tableswitch 127 4096 4101 #[40, 127, 72, 92, 108, 119], 40) from by decide +kernel) hz (tgt := 143) (by decide) ?_
    subst h
    exact x_vret C (show decode cX2_writeByte 143 = .ok (.return_, 1) from by decide +kernel) (x_finV ⟨⟨rfl, rfl⟩, hI⟩) (Nat.le_refl 0) (Nat.le_refl 0)
  · rw [if_neg c1] at h
    have g17 : xrg 0 2047 a1 := (x_c_nle (x_rgc (x := 2048) (k := 2048) (by decide)) hp1 c1).2
    refine x_run C e_X2_writeByte_9 e_X2_writeByte_9_k (pc' := 14) (lv' := [(0, .ref 4), (1, .int a1), (2, .int a2)]) (st' := []) (σ' := ((xup M 5 a1.toNatClampNeg a2), L)) rfl ⟨trivial, trivial, trivial, trivial, (x_rgv g17 (by decide) (by decide)), trivial⟩ ?_
    have hI18 : InvK INVC (xup M 5 a1.toNatClampNeg a2) := (hI.arrv 5 (a1.toNatClampNeg) hp2 (by decide))
    subst h
    exact x_vret C (show decode cX2_writeByte 14 = .ok (.return_, 1) from by decide +kernel) (x_finV ⟨⟨rfl, rfl⟩, hI18⟩) (Nat.le_refl 0) (Nat.le_refl 0)
-- X2_write
def e_X2_write_1 : List xI := [(0, .iload_n 1, 1, .null), (1, .ldc 25, 2, .null), (3, .iand, 1, .null), (4, .istore 4, 2, .null), (6, .iload_n 2, 1, .null)]
theorem e_X2_write_1_k : e_X2_write_1.all (fun q => xokB cX2_write q && xokL q) = true := by decide +kernel
def e_X2_write_2 : List xI := [(10, .istore 5, 2, .null), (12, .aload_n 0, 1, .null), (13, .iload 4, 2, .null), (15, .iload 5, 2, .null), (17, .iconst 0, 1, .int 0)]
theorem e_X2_write_2_k : e_X2_write_2.all (fun q => xokB cX2_write q && xokL q) = true := by decide +kernel
def e_X2_write_3 : List xI := [(25, .iconst 0, 1, .int 0), (26, .istore 6, 2, .null)]
theorem e_X2_write_3_k : e_X2_write_3.all (fun q => xokB cX2_write q && xokL q) = true := by decide +kernel
def e_X2_write_4 : List xI := [(28, .iload 6, 2, .null), (30, .iload 5, 2, .null)]
theorem e_X2_write_4_k : e_X2_write_4.all (fun q => xokB cX2_write q && xokL q) = true := by decide +kernel
def e_X2_write_5 : List xI := [(35, .aload_n 0, 1, .null), (36, .iload 4, 2, .null), (38, .iload 6, 2, .null), (40, .iadd, 1, .null), (41, .iload_n 3, 1, .null), (42, .bipush 8, 2, .int 8), (44, .iload 5, 2, .null), (46, .iconst 1, 1, .int 1), (47, .isub, 1, .null), (48, .iload 6, 2, .null), (50, .isub, 1, .null), (51, .imul, 1, .null), (52, .iushr, 1, .null), (53, .sipush 255, 3, .int 255), (56, .iand, 1, .null)]
theorem e_X2_write_5_k : e_X2_write_5.all (fun q => xokB cX2_write q && xokL q) = true := by decide +kernel
def e_X2_write_6 : List xI := [(60, .iinc 6 1, 3, .null)]
theorem e_X2_write_6_k : e_X2_write_6.all (fun q => xokB cX2_write q && xokL q) = true := by decide +kernel
abbrev P_X2_write (r : St) (L : Nat → Nat → Int64) : Option Value → xG → Prop := fun v σ' => PoV r L v σ' ∧ InvK INVC r
abbrev R_X2_write : Room := { frames := 1, cells := 0, slots := 0, locals := 27 }
abbrev C_X2_write (l : Launch) (r : St) (L : Nat → Nat → Int64) (V : XJ) : Prop := XC l yX2_write.cls yX2_write.name cX2_write 7 R_X2_write 0 0 fl_X2 kc_X2 LAY.length (xfin none LAY (P_X2_write r L)) V
def f_X2_write_28 : Nat → Int32 → Int32 → Int32 → Int32 → St → St
  | 0, x3, x4, x5, x6, M => M
  | n + 1, x3, x4, x5, x6, M => (if x5 ≤ x6 then M else (xb (f_X2_writeByte (x4 + x6) ((ius x3 (8 * ((x5 - 1) - x6))) &&& 255) M) fun q14 => f_X2_write_28 n x3 x4 x5 (x6 + 1) q14))
def f_X2_write (a1 : Int32) (a2 : Int32) (a3 : Int32) (M : St) : St := (xb (f_X2_allows (a1 &&& 16777215) (f_X10_bytesOf a2) 0 M) fun q4 => (if q4.1 = 0 then q4.2 else f_X2_write_28 ((((f_X10_bytesOf a2)).toInt - (0 : Int32).toInt).toNat + 1) a3 (a1 &&& 16777215) (f_X10_bytesOf a2) 0 q4.2))
set_option maxRecDepth 20000 in
set_option maxHeartbeats 4000000 in
theorem b_X2_write_28 {l : Launch} {L : Nat → Nat → Int64} {V : XJ} (r : St) (C : C_X2_write l r L V) : ∀ (n : Nat) (x3 : Int32) (x4 : Int32) (x5 : Int32) (x6 : Int32) (M : St), xrg 0 16777215 x4 → xrg (-2147483648) 1073741824 x5 → xrg 0 2147483647 x6 → InvK INVC M → ((x5).toInt - x6.toInt).toNat < n → f_X2_write_28 n x3 x4 x5 x6 M = r → V 0 0 28 [(0, .ref 4), (3, .int x3), (4, .int x4), (5, .int x5), (6, .int x6)] [] LAY (M, L) := by
  intro n
  induction n with
  | zero => intro x3 x4 x5 x6 M  wx4 wx5 wx6 hI hm; exact absurd hm (Nat.not_lt_zero _)
  | succ n ih =>
    intro x3 x4 x5 x6 M  wx4 wx5 wx6 hI hm h
    unfold f_X2_write_28 at h
    refine x_run C e_X2_write_4 e_X2_write_4_k (pc' := 32) (lv' := [(0, .ref 4), (3, .int x3), (4, .int x4), (5, .int x5), (6, .int x6)]) (st' := [.int x5, .int x6]) (σ' := (M, L)) rfl ⟨trivial, trivial, trivial⟩ ?_
    refine x_icmp_ge C (show decode cX2_write 32 = .ok (.if_icmp .ge 34, 3) from by decide +kernel) (tgt := 66) (by decide) (fun c10 => ?_) (fun c10 => ?_)
    · rw [if_pos c10] at h
      subst h
      exact x_vret C (show decode cX2_write 66 = .ok (.return_, 1) from by decide +kernel) (x_finV ⟨⟨rfl, rfl⟩, hI⟩) (Nat.le_refl 0) (Nat.le_refl 0)
    · rw [if_neg c10] at h
      have g11 : xrg 1 1073741824 x5 := (x_c_nle wx5 wx6 c10).1
      have g12 : xrg 0 1073741823 x6 := (x_c_nle wx5 wx6 c10).2
      have hk13 := x_meas (x_nle c10) hm
      refine x_run C e_X2_write_5 e_X2_write_5_k (pc' := 57) (lv' := [(0, .ref 4), (3, .int x3), (4, .int x4), (5, .int x5), (6, .int x6)]) (st' := [.int ((ius x3 (8 * ((x5 - 1) - x6))) &&& 255), .int (x4 + x6), .ref 4]) (σ' := (M, L)) rfl ⟨trivial, trivial, trivial, trivial, trivial, trivial, trivial, trivial, trivial, trivial, trivial, trivial, trivial, trivial, trivial, trivial⟩ ?_
      refine x_callV C (k := 4) (ci := 1) (rest := []) (avs := [.int (x4 + x6), .int ((ius x3 (8 * ((x5 - 1) - x6))) &&& 255)]) (k_X2_writeByte l (x4 + x6) ((ius x3 (8 * ((x5 - 1) - x6))) &&& 255) M L (x_rgw (x_rg_add wx4 g12 (by decide) (by decide)) (lo' := 0) (hi' := 2147483647) (by decide) (by decide)) (x_rg_and (x := (ius x3 (8 * ((x5 - 1) - x6)))) (m := 255) (k := 255) (by decide) (by decide)) hI) yoX2_writeByte ml_X2_37 rfl rfl rfl rfl ⟨Nat.zero_le _, Nat.zero_le _⟩ (show decode cX2_write 57 = .ok (.invokevirtual 37, 3) from by decide +kernel) rfl (fun v σ' hPo => ?_)
      obtain ⟨⟨rfl, rfl⟩, hI16⟩ := hPo
      generalize hq14 : f_X2_writeByte (x4 + x6) ((ius x3 (8 * ((x5 - 1) - x6))) &&& 255) M = q14 at h hI16 ⊢
      have h := xb_eq h
      show V 0 0 60 [(0, .ref 4), (3, .int x3), (4, .int x4), (5, .int x5), (6, .int x6)] [] LAY (q14, L)
      refine x_run C e_X2_write_6 e_X2_write_6_k (pc' := 63) (lv' := [(6, .int (x6 + 1)), (0, .ref 4), (3, .int x3), (4, .int x4), (5, .int x5)]) (st' := []) (σ' := (q14, L)) rfl ⟨trivial, trivial⟩ ?_
      refine x_goto C (show decode cX2_write 63 = .ok (.goto (-35), 3) from by decide +kernel) (tgt := 28) (by decide) ?_
      refine x_lv C [1, 2, 3, 4, 0] rfl ?_
      exact ih x3 x4 x5 (x6 + 1) q14 wx4 (x_rgw g11 (lo' := (-2147483648)) (hi' := 1073741824) (by decide) (by decide)) (x_rgw (x_rg_add g12 (x_rgc (x := 1) (k := 1) (by decide)) (by decide) (by decide)) (lo' := 0) (hi' := 2147483647) (by decide) (by decide)) hI16 (hk13) h
set_option maxRecDepth 20000 in
set_option maxHeartbeats 4000000 in
theorem k_X2_write (l : Launch) (a1 : Int32) (a2 : Int32) (a3 : Int32) (M : St) (L : Nat → Nat → Int64) (hI : InvK INVC M) : XM l yX2_write cX2_write 7 none R_X2_write LAY [.ref 4, .int a1, .int a2, .int a3] (M, L) (P_X2_write (f_X2_write a1 a2 a3 M) L) := by
  refine XM.of (by decide) (Nat.le_of_ble_eq_true rfl) LAY_in cl_ok fl_X2_ok kc_X2_ok (fun V C => ?_)
  obtain ⟨r, h⟩ : ∃ r, f_X2_write a1 a2 a3 M = r := ⟨_, rfl⟩
  rw [h] at C
  change C_X2_write l r L V at C
  unfold f_X2_write at h
  show V 0 0 0 [(0, .ref 4), (1, .int a1), (2, .int a2), (3, .int a3)] [] LAY (M, L)
  refine x_run C e_X2_write_1 e_X2_write_1_k (pc' := 7) (lv' := [(4, .int (a1 &&& 16777215)), (0, .ref 4), (1, .int a1), (2, .int a2), (3, .int a3)]) (st' := [.int a2]) (σ' := (M, L)) rfl ⟨trivial, trivial, trivial, trivial, trivial, trivial⟩ ?_
  refine x_callSN C (rest := []) (avs := [.int a2]) (k_X10_bytesOf l a2 M L) yoX10_bytesOf ml_X2_26 rfl ⟨Nat.zero_le _, Nat.zero_le _⟩ (show decode cX2_write 7 = .ok (.invokestatic 26, 3) from by decide +kernel) rfl (fun v σ' hPo => ?_)
  obtain ⟨⟨rfl, rfl⟩, g2, -⟩ := hPo
  show V 0 0 10 [(4, .int (a1 &&& 16777215)), (0, .ref 4), (1, .int a1), (2, .int a2), (3, .int a3)] [.int (f_X10_bytesOf a2)] LAY (M, L)
  refine x_run C e_X2_write_2 e_X2_write_2_k (pc' := 18) (lv' := [(5, .int (f_X10_bytesOf a2)), (4, .int (a1 &&& 16777215)), (0, .ref 4), (1, .int a1), (2, .int a2), (3, .int a3)]) (st' := [.int 0, .int (f_X10_bytesOf a2), .int (a1 &&& 16777215), .ref 4]) (σ' := (M, L)) rfl ⟨trivial, trivial, trivial, trivial, trivial, trivial⟩ ?_
  refine x_callV C (k := 4) (ci := 1) (rest := []) (avs := [.int (a1 &&& 16777215), .int (f_X10_bytesOf a2), .int 0]) (k_X2_allows l (a1 &&& 16777215) (f_X10_bytesOf a2) 0 M L hI) yoX2_allows ml_X2_30 rfl rfl rfl rfl ⟨Nat.zero_le _, Nat.zero_le _⟩ (show decode cX2_write 18 = .ok (.invokevirtual 30, 3) from by decide +kernel) rfl (fun v σ' hPo => ?_)
  obtain ⟨⟨rfl, rfl⟩, g5, hI6⟩ := hPo
  generalize hq4 : f_X2_allows (a1 &&& 16777215) (f_X10_bytesOf a2) 0 M = q4 at h g5 hI6 ⊢
  obtain ⟨r4, M4⟩ := q4
  have h := xb_eq h
  try dsimp only at h g5 hI6
  show V 0 0 21 [(5, .int (f_X10_bytesOf a2)), (4, .int (a1 &&& 16777215)), (0, .ref 4), (1, .int a1), (2, .int a2), (3, .int a3)] [.int r4] LAY (M4, L)
  refine x_if_ne C (show decode cX2_write 21 = .ok (.ifCond .ne 4, 3) from by decide +kernel) (tgt := 25) (by decide) (fun c7 => ?_) (fun c7 => ?_)
  · rw [if_neg c7] at h
    have g8 : xrg 1 1 r4 := (x_c_ne g5 (by decide) c7)
    refine x_run C e_X2_write_3 e_X2_write_3_k (pc' := 28) (lv' := [(6, .int 0), (5, .int (f_X10_bytesOf a2)), (4, .int (a1 &&& 16777215)), (0, .ref 4), (1, .int a1), (2, .int a2), (3, .int a3)]) (st' := []) (σ' := (M4, L)) rfl ⟨trivial, trivial, trivial⟩ ?_
    refine x_lv C [3, 6, 2, 1, 0] rfl ?_
    exact b_X2_write_28 r C ((((f_X10_bytesOf a2)).toInt - (0 : Int32).toInt).toNat + 1) a3 (a1 &&& 16777215) (f_X10_bytesOf a2) 0 M4 (x_rg_and (x := a1) (m := 16777215) (k := 16777215) (by decide) (by decide)) g2 (x_rgw (x_rgc (x := 0) (k := 0) (by decide)) (lo' := 0) (hi' := 2147483647) (by decide) (by decide)) hI6 (Nat.lt_succ_self _) h
  · rw [if_pos c7] at h
    have g9 : xrg 0 0 r4 := (x_c_eq g5 (x_rgc (x := 0) (k := 0) (by decide)) c7).1
    subst h
    exact x_vret C (show decode cX2_write 24 = .ok (.return_, 1) from by decide +kernel) (x_finV ⟨⟨rfl, rfl⟩, hI6⟩) (Nat.le_refl 0) (Nat.le_refl 0)
-- X6_push
def e_X6_push_1 : List xI := [(0, .aload_n 0, 1, .null), (1, .getfield 15, 3, .null), (4, .bipush 15, 2, .int 15), (6, .dup2, 1, .null), (7, .iaload, 1, .null), (8, .iload_n 1, 1, .null)]
theorem e_X6_push_1_k : e_X6_push_1.all (fun q => xokB cX6_push q && xokL q) = true := by decide +kernel
def e_X6_push_2 : List xI := [(12, .isub, 1, .null), (13, .iastore, 1, .null), (14, .aload_n 0, 1, .null), (15, .getfield 18, 3, .null), (18, .aload_n 0, 1, .null), (19, .getfield 15, 3, .null), (22, .bipush 15, 2, .int 15), (24, .iaload, 1, .null), (25, .iload_n 1, 1, .null), (26, .iload_n 2, 1, .null)]
theorem e_X6_push_2_k : e_X6_push_2.all (fun q => xokB cX6_push q && xokL q) = true := by decide +kernel
abbrev P_X6_push (r : St) (L : Nat → Nat → Int64) : Option Value → xG → Prop := fun v σ' => PoV r L v σ' ∧ InvK INVC r
abbrev R_X6_push : Room := { frames := 2, cells := 0, slots := 0, locals := 53 }
abbrev C_X6_push (l : Launch) (r : St) (L : Nat → Nat → Int64) (V : XJ) : Prop := XC l yX6_push.cls yX6_push.name cX6_push 3 R_X6_push 0 0 fl_X6 kc_X6 LAY.length (xfin none LAY (P_X6_push r L)) V
def f_X6_push (a1 : Int32) (a2 : Int32) (M : St) : St := (xb (f_X2_write ((M 2 15) - (f_X10_bytesOf a1)) a1 a2 (xup M 2 15 ((M 2 15) - (f_X10_bytesOf a1)))) fun q5 => q5)
set_option maxRecDepth 20000 in
set_option maxHeartbeats 4000000 in
theorem k_X6_push (l : Launch) (a1 : Int32) (a2 : Int32) (M : St) (L : Nat → Nat → Int64) (hI : InvK INVC M) : XM l yX6_push cX6_push 3 none R_X6_push LAY [.ref 10, .int a1, .int a2] (M, L) (P_X6_push (f_X6_push a1 a2 M) L) := by
  refine XM.of (by decide) (Nat.le_of_ble_eq_true rfl) LAY_in cl_ok fl_X6_ok kc_X6_ok (fun V C => ?_)
  obtain ⟨r, h⟩ : ∃ r, f_X6_push a1 a2 M = r := ⟨_, rfl⟩
  rw [h] at C
  change C_X6_push l r L V at C
  unfold f_X6_push at h
  show V 0 0 0 [(0, .ref 10), (1, .int a1), (2, .int a2)] [] LAY (M, L)
  refine x_run C e_X6_push_1 e_X6_push_1_k (pc' := 9) (lv' := [(0, .ref 10), (1, .int a1), (2, .int a2)]) (st' := [.int a1, .int (M 2 15), .int 15, .ref 2]) (σ' := (M, L)) rfl ⟨trivial, trivial, trivial, trivial, (x_rgv (x_rgc (x := 15) (k := 15) (by decide)) (by decide) (by decide)), trivial, trivial⟩ ?_
  refine x_callSN C (rest := [.int (M 2 15), .int 15, .ref 2]) (avs := [.int a1]) (k_X10_bytesOf l a1 M L) yoX10_bytesOf ml_X6_65 rfl ⟨Nat.zero_le _, Nat.zero_le _⟩ (show decode cX6_push 9 = .ok (.invokestatic 65, 3) from by decide +kernel) rfl (fun v σ' hPo => ?_)
  obtain ⟨⟨rfl, rfl⟩, g2, -⟩ := hPo
  show V 0 0 12 [(0, .ref 10), (1, .int a1), (2, .int a2)] [.int (f_X10_bytesOf a1), .int (M 2 15), .int 15, .ref 2] LAY (M, L)
  refine x_run C e_X6_push_2 e_X6_push_2_k (pc' := 27) (lv' := [(0, .ref 10), (1, .int a1), (2, .int a2)]) (st' := [.int a2, .int a1, .int ((M 2 15) - (f_X10_bytesOf a1)), .ref 4]) (σ' := ((xup M 2 15 ((M 2 15) - (f_X10_bytesOf a1))), L)) rfl ⟨trivial, (x_rgv (x_rgc (x := 15) (k := 15) (by decide)) (by decide) (by decide)), trivial, trivial, trivial, trivial, trivial, (x_rgv (x_rgc (x := 15) (k := 15) (by decide)) (by decide) (by decide)), trivial, trivial, trivial⟩ ?_
  have hI4 : InvK INVC (xup M 2 15 ((M 2 15) - (f_X10_bytesOf a1))) := (hI.arr 2 15 ((M 2 15) - (f_X10_bytesOf a1)) (by decide))
  refine x_callV C (k := 4) (ci := 1) (rest := []) (avs := [.int ((M 2 15) - (f_X10_bytesOf a1)), .int a1, .int a2]) (k_X2_write l ((M 2 15) - (f_X10_bytesOf a1)) a1 a2 (xup M 2 15 ((M 2 15) - (f_X10_bytesOf a1))) L hI4) yoX2_write ml_X6_61 rfl rfl rfl rfl ⟨Nat.zero_le _, Nat.zero_le _⟩ (show decode cX6_push 27 = .ok (.invokevirtual 61, 3) from by decide +kernel) rfl (fun v σ' hPo => ?_)
  obtain ⟨⟨rfl, rfl⟩, hI7⟩ := hPo
  generalize hq5 : f_X2_write ((M 2 15) - (f_X10_bytesOf a1)) a1 a2 (xup M 2 15 ((M 2 15) - (f_X10_bytesOf a1))) = q5 at h hI7 ⊢
  have h := xb_eq h
  show V 0 0 30 [(0, .ref 10), (1, .int a1), (2, .int a2)] [] LAY (q5, L)
  subst h
  exact x_vret C (show decode cX6_push 30 = .ok (.return_, 1) from by decide +kernel) (x_finV ⟨⟨rfl, rfl⟩, hI7⟩) (Nat.le_refl 0) (Nat.le_refl 0)
-- X7_isOfGroupZero
def e_X7_isOfGroupZero_1 : List xI := [(0, .iload_n 0, 1, .null), (1, .iconst 2, 1, .int 2)]
theorem e_X7_isOfGroupZero_1_k : e_X7_isOfGroupZero_1.all (fun q => xokB cX7_isOfGroupZero q && xokL q) = true := by decide +kernel
def e_X7_isOfGroupZero_2 : List xI := [(10, .iconst 1, 1, .int 1)]
theorem e_X7_isOfGroupZero_2_k : e_X7_isOfGroupZero_2.all (fun q => xokB cX7_isOfGroupZero q && xokL q) = true := by decide +kernel
def e_X7_isOfGroupZero_3 : List xI := [(5, .iload_n 0, 1, .null), (6, .iconst 3, 1, .int 3)]
theorem e_X7_isOfGroupZero_3_k : e_X7_isOfGroupZero_3.all (fun q => xokB cX7_isOfGroupZero q && xokL q) = true := by decide +kernel
def e_X7_isOfGroupZero_4 : List xI := [(14, .iconst 0, 1, .int 0)]
theorem e_X7_isOfGroupZero_4_k : e_X7_isOfGroupZero_4.all (fun q => xokB cX7_isOfGroupZero q && xokL q) = true := by decide +kernel
abbrev P_X7_isOfGroupZero (r : Int32) (M0 : St) (L : Nat → Nat → Int64) : Option Value → xG → Prop := fun v σ' => PoI r M0 L v σ' ∧ xrg 0 1 r ∧ True
abbrev R_X7_isOfGroupZero : Room := { frames := 0, cells := 0, slots := 0, locals := 0 }
abbrev C_X7_isOfGroupZero (l : Launch) (r : Int32) (M0 : St) (L : Nat → Nat → Int64) (V : XJ) : Prop := XC l yX7_isOfGroupZero.cls yX7_isOfGroupZero.name cX7_isOfGroupZero 1 R_X7_isOfGroupZero 0 0 fl_X7 kc_X7 LAY.length (xfin (some .boolean) LAY (P_X7_isOfGroupZero r M0 L)) V
def f_X7_isOfGroupZero (a1 : Int32) : Int32 := (if a1 = 2 then 1 else (if a1 = 3 then 1 else 0))
set_option maxRecDepth 20000 in
set_option maxHeartbeats 4000000 in
theorem k_X7_isOfGroupZero (l : Launch) (a1 : Int32) (M : St) (L : Nat → Nat → Int64) : XM l yX7_isOfGroupZero cX7_isOfGroupZero 1 (some .boolean) R_X7_isOfGroupZero LAY [.int a1] (M, L) (P_X7_isOfGroupZero (f_X7_isOfGroupZero a1) M L) := by
  refine XM.of (by decide) (Nat.le_of_ble_eq_true rfl) LAY_in cl_ok fl_X7_ok kc_X7_ok (fun V C => ?_)
  obtain ⟨r, h⟩ : ∃ r, f_X7_isOfGroupZero a1 = r := ⟨_, rfl⟩
  rw [h] at C
  change C_X7_isOfGroupZero l r M L V at C
  unfold f_X7_isOfGroupZero at h
  show V 0 0 0 [(0, .int a1)] [] LAY (M, L)
  refine x_run C e_X7_isOfGroupZero_1 e_X7_isOfGroupZero_1_k (pc' := 2) (lv' := [(0, .int a1)]) (st' := [.int 2, .int a1]) (σ' := (M, L)) rfl ⟨trivial, trivial, trivial⟩ ?_
  refine x_icmp_eq C (show decode cX7_isOfGroupZero 2 = .ok (.if_icmp .eq 8, 3) from by decide +kernel) (tgt := 10) (by decide) (fun c1 => ?_) (fun c1 => ?_)
  · rw [if_pos c1] at h
    have g2 : xrg 2 2 a1 := (x_c_eq (x_rgt a1) (x_rgc (x := 2) (k := 2) (by decide)) c1).1
    refine x_run C e_X7_isOfGroupZero_2 e_X7_isOfGroupZero_2_k (pc' := 11) (lv' := [(0, .int a1)]) (st' := [.int 1]) (σ' := (M, L)) rfl ⟨trivial, trivial⟩ ?_
    refine x_goto C (show decode cX7_isOfGroupZero 11 = .ok (.goto 4, 3) from by decide +kernel) (tgt := 15) (by decide) ?_
    subst h
    exact x_iret C (show decode cX7_isOfGroupZero 15 = .ok (.ireturn, 1) from by decide +kernel) (x_finI (x_nb (x_rgw (x_rgc (x := 1) (k := 1) (by decide)) (lo' := 0) (hi' := 1) (by decide) (by decide))) ⟨⟨rfl, rfl⟩, (x_rgw (x_rgc (x := 1) (k := 1) (by decide)) (lo' := 0) (hi' := 1) (by decide) (by decide)), trivial⟩) (Nat.le_refl 0) (Nat.le_refl 0)
  · rw [if_neg c1] at h
    refine x_run C e_X7_isOfGroupZero_3 e_X7_isOfGroupZero_3_k (pc' := 7) (lv' := [(0, .int a1)]) (st' := [.int 3, .int a1]) (σ' := (M, L)) rfl ⟨trivial, trivial, trivial⟩ ?_
    refine x_icmp_ne C (show decode cX7_isOfGroupZero 7 = .ok (.if_icmp .ne 7, 3) from by decide +kernel) (tgt := 14) (by decide) (fun c3 => ?_) (fun c3 => ?_)
    · rw [if_neg c3] at h
      refine x_run C e_X7_isOfGroupZero_4 e_X7_isOfGroupZero_4_k (pc' := 15) (lv' := [(0, .int a1)]) (st' := [.int 0]) (σ' := (M, L)) rfl ⟨trivial, trivial⟩ ?_
      subst h
      exact x_iret C (show decode cX7_isOfGroupZero 15 = .ok (.ireturn, 1) from by decide +kernel) (x_finI (x_nb (x_rgw (x_rgc (x := 0) (k := 0) (by decide)) (lo' := 0) (hi' := 1) (by decide) (by decide))) ⟨⟨rfl, rfl⟩, (x_rgw (x_rgc (x := 0) (k := 0) (by decide)) (lo' := 0) (hi' := 1) (by decide) (by decide)), trivial⟩) (Nat.le_refl 0) (Nat.le_refl 0)
    · rw [if_pos c3] at h
      have g4 : xrg 3 3 a1 := (x_c_eq (x_rgt a1) (x_rgc (x := 3) (k := 3) (by decide)) c3).1
      refine x_run C e_X7_isOfGroupZero_2 e_X7_isOfGroupZero_2_k (pc' := 11) (lv' := [(0, .int a1)]) (st' := [.int 1]) (σ' := (M, L)) rfl ⟨trivial, trivial⟩ ?_
      refine x_goto C (show decode cX7_isOfGroupZero 11 = .ok (.goto 4, 3) from by decide +kernel) (tgt := 15) (by decide) ?_
      subst h
      exact x_iret C (show decode cX7_isOfGroupZero 15 = .ok (.ireturn, 1) from by decide +kernel) (x_finI (x_nb (x_rgw (x_rgc (x := 1) (k := 1) (by decide)) (lo' := 0) (hi' := 1) (by decide) (by decide))) ⟨⟨rfl, rfl⟩, (x_rgw (x_rgc (x := 1) (k := 1) (by decide)) (lo' := 0) (hi' := 1) (by decide) (by decide)), trivial⟩) (Nat.le_refl 0) (Nat.le_refl 0)
-- X8_takeBack
def e_X8_takeBack_1 : List xI := [(0, .aload_n 0, 1, .null), (1, .getfield 15, 3, .null), (4, .iconst 0, 1, .int 0), (5, .aload_n 0, 1, .null), (6, .getfield 9, 3, .null), (9, .iconst 0, 1, .int 0), (10, .bipush 19, 2, .int 19)]
theorem e_X8_takeBack_1_k : e_X8_takeBack_1.all (fun q => xokB cX8_takeBack q && xokL q) = true := by decide +kernel
abbrev P_X8_takeBack (r : St) (L : Nat → Nat → Int64) : Option Value → xG → Prop := fun v σ' => PoV r L v σ' ∧ InvK INVC r
abbrev R_X8_takeBack : Room := { frames := 1, cells := 0, slots := 0, locals := 64 }
abbrev C_X8_takeBack (l : Launch) (r : St) (L : Nat → Nat → Int64) (V : XJ) : Prop := XC l yX8_takeBack.cls yX8_takeBack.name cX8_takeBack 1 R_X8_takeBack 0 0 fl_X8 kc_X8 LAY.length (xfin none LAY (P_X8_takeBack r L)) V
def f_X8_takeBack (M : St) : St := (xcp M 3 2)
set_option maxRecDepth 20000 in
set_option maxHeartbeats 4000000 in
theorem k_X8_takeBack (l : Launch) (M : St) (L : Nat → Nat → Int64) (hI : InvK INVC M) : XM l yX8_takeBack cX8_takeBack 1 none R_X8_takeBack LAY [.ref 1] (M, L) (P_X8_takeBack (f_X8_takeBack M) L) := by
  refine XM.of (by decide) (Nat.le_of_ble_eq_true rfl) LAY_in cl_ok fl_X8_ok kc_X8_ok (fun V C => ?_)
  obtain ⟨r, h⟩ : ∃ r, f_X8_takeBack M = r := ⟨_, rfl⟩
  rw [h] at C
  change C_X8_takeBack l r L V at C
  unfold f_X8_takeBack at h
  show V 0 0 0 [(0, .ref 1)] [] LAY (M, L)
  refine x_run C e_X8_takeBack_1 e_X8_takeBack_1_k (pc' := 12) (lv' := [(0, .ref 1)]) (st' := [.int 19, .int 0, .ref 2, .int 0, .ref 3]) (σ' := (M, L)) rfl ⟨trivial, trivial, trivial, trivial, trivial, trivial, trivial, trivial⟩ ?_
  refine x_acopy C cp_lk rfl rfl (by decide) cp_ws (show decode cX8_takeBack 12 = .ok (.invokestatic 19, 3) from by decide +kernel) ?_
  have hI1 : InvK INVC (xcp M 3 2) := (hI.cp 3 2 (by decide))
  subst h
  exact x_vret C (show decode cX8_takeBack 15 = .ok (.return_, 1) from by decide +kernel) (x_finV ⟨⟨rfl, rfl⟩, hI1⟩) (Nat.le_refl 0) (Nat.le_refl 0)
-- X7_enters
def e_X7_enters_1 : List xI := [(0, .aload_n 0, 1, .null), (1, .getfield 28, 3, .null), (4, .bipush 18, 2, .int 18), (6, .iaload, 1, .null), (7, .istore_n 2, 1, .null), (8, .iload_n 1, 1, .null), (9, .bipush 24, 2, .int 24)]
theorem e_X7_enters_1_k : e_X7_enters_1.all (fun q => xokB cX7_enters q && xokL q) = true := by decide +kernel
def e_X7_enters_2 : List xI := [(14, .iload_n 1, 1, .null), (15, .bipush 32, 2, .int 32)]
theorem e_X7_enters_2_k : e_X7_enters_2.all (fun q => xokB cX7_enters q && xokL q) = true := by decide +kernel
def e_X7_enters_3 : List xI := [(20, .iload_n 1, 1, .null), (21, .bipush 24, 2, .int 24), (23, .isub, 1, .null), (24, .bipush 8, 2, .int 8), (26, .ishl, 1, .null)]
theorem e_X7_enters_3_k : e_X7_enters_3.all (fun q => xokB cX7_enters q && xokL q) = true := by decide +kernel
def e_X7_enters_4 : List xI := [(30, .iload_n 2, 1, .null), (31, .sipush 1792, 3, .int 1792), (34, .iand, 1, .null)]
theorem e_X7_enters_4_k : e_X7_enters_4.all (fun q => xokB cX7_enters q && xokL q) = true := by decide +kernel
def e_X7_enters_5 : List xI := [(35, .istore_n 3, 1, .null), (36, .aload_n 0, 1, .null), (37, .getfield 29, 3, .null), (40, .getfield 175, 3, .null), (43, .iload_n 2, 1, .null), (44, .sipush 8192, 3, .int 8192), (47, .iand, 1, .null)]
theorem e_X7_enters_5_k : e_X7_enters_5.all (fun q => xokB cX7_enters q && xokL q) = true := by decide +kernel
def e_X7_enters_6 : List xI := [(55, .iconst 0, 1, .int 0)]
theorem e_X7_enters_6_k : e_X7_enters_6.all (fun q => xokB cX7_enters q && xokL q) = true := by decide +kernel
def e_X7_enters_7 : List xI := [(51, .iconst 4, 1, .int 4)]
theorem e_X7_enters_7_k : e_X7_enters_7.all (fun q => xokB cX7_enters q && xokL q) = true := by decide +kernel
def e_X7_enters_8 : List xI := [(56, .ior, 1, .null), (57, .istore 4, 2, .null), (59, .aload_n 0, 1, .null), (60, .getfield 29, 3, .null), (63, .getfield 178, 3, .null), (66, .istore 5, 2, .null), (68, .aload_n 0, 1, .null), (69, .getfield 19, 3, .null)]
theorem e_X7_enters_8_k : e_X7_enters_8.all (fun q => xokB cX7_enters q && xokL q) = true := by decide +kernel
def e_X7_enters_9 : List xI := [(75, .aload_n 0, 1, .null), (76, .getfield 29, 3, .null)]
theorem e_X7_enters_9_k : e_X7_enters_9.all (fun q => xokB cX7_enters q && xokL q) = true := by decide +kernel
def e_X7_enters_10 : List xI := [(82, .aload_n 0, 1, .null), (83, .getfield 19, 3, .null), (86, .sipush 8192, 3, .int 8192), (89, .iload_n 3, 1, .null), (90, .ior, 1, .null), (91, .iload_n 2, 1, .null), (92, .bipush 31, 2, .int 31), (94, .iand, 1, .null), (95, .ior, 1, .null)]
theorem e_X7_enters_10_k : e_X7_enters_10.all (fun q => xokB cX7_enters q && xokL q) = true := by decide +kernel
def e_X7_enters_11 : List xI := [(99, .aload_n 0, 1, .null), (100, .getfield 38, 3, .null), (103, .iconst 2, 1, .int 2), (104, .aload_n 0, 1, .null), (105, .getfield 28, 3, .null), (108, .bipush 17, 2, .int 17), (110, .iaload, 1, .null)]
theorem e_X7_enters_11_k : e_X7_enters_11.all (fun q => xokB cX7_enters q && xokL q) = true := by decide +kernel
def e_X7_enters_12 : List xI := [(114, .aload_n 0, 1, .null), (115, .getfield 38, 3, .null), (118, .iconst 1, 1, .int 1), (119, .iload_n 2, 1, .null)]
theorem e_X7_enters_12_k : e_X7_enters_12.all (fun q => xokB cX7_enters q && xokL q) = true := by decide +kernel
def e_X7_enters_13 : List xI := [(123, .iload_n 1, 1, .null)]
theorem e_X7_enters_13_k : e_X7_enters_13.all (fun q => xokB cX7_enters q && xokL q) = true := by decide +kernel
def e_X7_enters_14 : List xI := [(130, .aload_n 0, 1, .null), (131, .getfield 38, 3, .null), (134, .iconst 1, 1, .int 1), (135, .aload_n 0, 1, .null), (136, .getfield 81, 3, .null)]
theorem e_X7_enters_14_k : e_X7_enters_14.all (fun q => xokB cX7_enters q && xokL q) = true := by decide +kernel
def e_X7_enters_15 : List xI := [(142, .aload_n 0, 1, .null), (143, .getfield 38, 3, .null), (146, .iconst 2, 1, .int 2), (147, .iload 5, 2, .null)]
theorem e_X7_enters_15_k : e_X7_enters_15.all (fun q => xokB cX7_enters q && xokL q) = true := by decide +kernel
def e_X7_enters_16 : List xI := [(152, .aload_n 0, 1, .null), (153, .getfield 38, 3, .null), (156, .iconst 1, 1, .int 1), (157, .iload 4, 2, .null)]
theorem e_X7_enters_16_k : e_X7_enters_16.all (fun q => xokB cX7_enters q && xokL q) = true := by decide +kernel
def e_X7_enters_17 : List xI := [(162, .aload_n 0, 1, .null), (163, .getfield 28, 3, .null), (166, .bipush 17, 2, .int 17), (168, .aload_n 0, 1, .null), (169, .getfield 29, 3, .null), (172, .iconst 4, 1, .int 4), (173, .iload_n 1, 1, .null), (174, .imul, 1, .null), (175, .iconst 2, 1, .int 2), (176, .iconst 1, 1, .int 1)]
theorem e_X7_enters_17_k : e_X7_enters_17.all (fun q => xokB cX7_enters q && xokL q) = true := by decide +kernel
def e_X7_enters_18 : List xI := [(180, .iastore, 1, .null), (181, .aload_n 0, 1, .null), (182, .getfield 29, 3, .null), (185, .getfield 138, 3, .null)]
theorem e_X7_enters_18_k : e_X7_enters_18.all (fun q => xokB cX7_enters q && xokL q) = true := by decide +kernel
def e_X7_enters_19 : List xI := [(200, .aload_n 0, 1, .null), (201, .getfield 9, 3, .null), (204, .iload_n 1, 1, .null), (205, .dup2, 1, .null), (206, .iaload, 1, .null), (207, .iconst 1, 1, .int 1), (208, .iadd, 1, .null), (209, .iastore, 1, .null), (210, .iconst 1, 1, .int 1)]
theorem e_X7_enters_19_k : e_X7_enters_19.all (fun q => xokB cX7_enters q && xokL q) = true := by decide +kernel
def e_X7_enters_20 : List xI := [(191, .aload_n 0, 1, .null), (192, .getfield 19, 3, .null)]
theorem e_X7_enters_20_k : e_X7_enters_20.all (fun q => xokB cX7_enters q && xokL q) = true := by decide +kernel
def e_X7_enters_21 : List xI := [(198, .iconst 0, 1, .int 0)]
theorem e_X7_enters_21_k : e_X7_enters_21.all (fun q => xokB cX7_enters q && xokL q) = true := by decide +kernel
abbrev P_X7_enters (r : Int32 × St) (L : Nat → Nat → Int64) : Option Value → xG → Prop := fun v σ' => PoI r.1 r.2 L v σ' ∧ xrg 0 1 r.1 ∧ InvK INVC r.2
abbrev R_X7_enters : Room := { frames := 3, cells := 0, slots := 0, locals := 84 }
abbrev C_X7_enters (l : Launch) (r : Int32 × St) (L : Nat → Nat → Int64) (V : XJ) : Prop := XC l yX7_enters.cls yX7_enters.name cX7_enters 6 R_X7_enters 0 0 fl_X7 kc_X7 LAY.length (xfin (some .boolean) LAY (P_X7_enters r L)) V
def f_X7_enters_162 (x1 : Int32) (M : St) : Int32 × St := (xb (f_X2_read (4 * x1) 2 1 M) fun q40 => (if (q40.2 4 10) = 0 then (1, (xup (xup q40.2 2 17 q40.1) 9 x1.toNatClampNeg ((q40.2 9 x1.toNatClampNeg) + 1))) else (xb (f_X8_takeBack  (xup q40.2 2 17 q40.1)) fun q48 => (0, q48))))
def f_X7_enters_56 (x1 : Int32) (x2 : Int32) (x3 : Int32) (s0 : Int32) (s1 : Int32) (M : St) : Int32 × St := (xb (f_X8_keep  M) fun q10 => (xb (f_X2_clearError  q10) fun q13 => (xb (f_X8_changeStatus ((8192 ||| x3) ||| (x2 &&& 31)) q13) fun q16 => (xb (f_X6_push 2 (q16 2 17) q16) fun q19 => (xb (f_X6_push 1 x2 q19) fun q22 => (if (f_X7_isOfGroupZero x1) = 0 then f_X7_enters_162 x1 q22 else (xb (f_X6_push 1 (q22 8 11) q22) fun q31 => (xb (f_X6_push 2 (M 4 11) q31) fun q34 => (xb (f_X6_push 1 (s1 ||| s0) q34) fun q37 => f_X7_enters_162 x1 q37)))))))))
def f_X7_enters_35 (x1 : Int32) (x2 : Int32) (s0 : Int32) (M : St) : Int32 × St := (if (x2 &&& 8192) = 0 then f_X7_enters_56 x1 x2 s0 0 (M 4 12) M else f_X7_enters_56 x1 x2 s0 4 (M 4 12) M)
def f_X7_enters_30 (x1 : Int32) (x2 : Int32) (M : St) : Int32 × St := f_X7_enters_35 x1 x2 (x2 &&& 1792) M
def f_X7_enters (a1 : Int32) (M : St) : Int32 × St := (if a1 ≤ 24 then f_X7_enters_30 a1 (M 2 18) M else (if 32 ≤ a1 then f_X7_enters_30 a1 (M 2 18) M else f_X7_enters_35 a1 (M 2 18) ((a1 - 24) <<< ((8 : Int32) &&& 31)) M))
set_option maxRecDepth 20000 in
set_option maxHeartbeats 4000000 in
theorem b_X7_enters_162 {l : Launch} {L : Nat → Nat → Int64} {V : XJ} (r : Int32 × St) (C : C_X7_enters l r L V) (x1 : Int32) (M : St) (wx1 : xrg 0 47 x1) (hI : InvK INVC M) (h : f_X7_enters_162 x1 M = r) : V 0 0 162 [(0, .ref 8), (1, .int x1)] [] LAY (M, L) := by
  unfold f_X7_enters_162 at h
  refine x_run C e_X7_enters_17 e_X7_enters_17_k (pc' := 177) (lv' := [(0, .ref 8), (1, .int x1)]) (st' := [.int 1, .int 2, .int (4 * x1), .ref 4, .int 17, .ref 2]) (σ' := (M, L)) rfl ⟨trivial, trivial, trivial, trivial, trivial, trivial, trivial, trivial, trivial, trivial, trivial⟩ ?_
  refine x_callV C (k := 4) (ci := 1) (rest := [.int 17, .ref 2]) (avs := [.int (4 * x1), .int 2, .int 1]) (k_X2_read l (4 * x1) 2 1 M L hI) yoX2_read ml_X7_67 rfl rfl rfl rfl ⟨Nat.zero_le _, Nat.zero_le _⟩ (show decode cX7_enters 177 = .ok (.invokevirtual 67, 3) from by decide +kernel) rfl (fun v σ' hPo => ?_)
  obtain ⟨⟨rfl, rfl⟩, g41, hI42⟩ := hPo
  generalize hq40 : f_X2_read (4 * x1) 2 1 M = q40 at h g41 hI42 ⊢
  obtain ⟨r40, M40⟩ := q40
  have h := xb_eq h
  try dsimp only at h g41 hI42
  show V 0 0 180 [(0, .ref 8), (1, .int x1)] [.int r40, .int 17, .ref 2] LAY (M40, L)
  refine x_run C e_X7_enters_18 e_X7_enters_18_k (pc' := 188) (lv' := [(0, .ref 8), (1, .int x1)]) (st' := [.int (M40 4 10)]) (σ' := ((xup M40 2 17 r40), L)) rfl ⟨(x_rgv (x_rgc (x := 17) (k := 17) (by decide)) (by decide) (by decide)), trivial, trivial, trivial, trivial⟩ ?_
  have hI43 : InvK INVC (xup M40 2 17 r40) := (hI42.arr 2 17 r40 (by decide))
  refine x_if_eq C (show decode cX7_enters 188 = .ok (.ifCond .eq 12, 3) from by decide +kernel) (tgt := 200) (by decide) (fun c44 => ?_) (fun c44 => ?_)
  · rw [if_pos c44] at h
    have g45 : xrg 0 0 (M40 4 10) := (x_c_eq (hI42.at 5 rfl) (x_rgc (x := 0) (k := 0) (by decide)) c44).1
    refine x_run C e_X7_enters_19 e_X7_enters_19_k (pc' := 211) (lv' := [(0, .ref 8), (1, .int x1)]) (st' := [.int 1]) (σ' := ((xup (xup M40 2 17 r40) 9 x1.toNatClampNeg ((M40 9 x1.toNatClampNeg) + 1)), L)) rfl ⟨trivial, trivial, trivial, trivial, (x_rgv wx1 (by decide) (by decide)), trivial, trivial, (x_rgv wx1 (by decide) (by decide)), trivial, trivial⟩ ?_
    have hI46 : InvK INVC (xup (xup M40 2 17 r40) 9 x1.toNatClampNeg ((M40 9 x1.toNatClampNeg) + 1)) := (hI43.arr 9 (x1.toNatClampNeg) ((M40 9 x1.toNatClampNeg) + 1) (by decide))
    subst h
    exact x_iret C (show decode cX7_enters 211 = .ok (.ireturn, 1) from by decide +kernel) (x_finI (x_nb (x_rgw (x_rgc (x := 1) (k := 1) (by decide)) (lo' := 0) (hi' := 1) (by decide) (by decide))) ⟨⟨rfl, rfl⟩, (x_rgw (x_rgc (x := 1) (k := 1) (by decide)) (lo' := 0) (hi' := 1) (by decide) (by decide)), hI46⟩) (Nat.le_refl 0) (Nat.le_refl 0)
  · rw [if_neg c44] at h
    have g47 : xrg 1 3 (M40 4 10) := (x_c_ne (hI42.at 5 rfl) (by decide) c44)
    refine x_run C e_X7_enters_20 e_X7_enters_20_k (pc' := 195) (lv' := [(0, .ref 8), (1, .int x1)]) (st' := [.ref 1]) (σ' := ((xup M40 2 17 r40), L)) rfl ⟨trivial, trivial, trivial⟩ ?_
    refine x_callV C (k := 1) (ci := 6) (rest := []) (avs := []) (k_X8_takeBack l  (xup M40 2 17 r40) L hI43) yoX8_takeBack ml_X7_163 rfl rfl rfl rfl ⟨Nat.zero_le _, Nat.zero_le _⟩ (show decode cX7_enters 195 = .ok (.invokevirtual 163, 3) from by decide +kernel) rfl (fun v σ' hPo => ?_)
    obtain ⟨⟨rfl, rfl⟩, hI50⟩ := hPo
    generalize hq48 : f_X8_takeBack  (xup M40 2 17 r40) = q48 at h hI50 ⊢
    have h := xb_eq h
    show V 0 0 198 [(0, .ref 8), (1, .int x1)] [] LAY (q48, L)
    refine x_run C e_X7_enters_21 e_X7_enters_21_k (pc' := 199) (lv' := [(0, .ref 8), (1, .int x1)]) (st' := [.int 0]) (σ' := (q48, L)) rfl ⟨trivial, trivial⟩ ?_
    subst h
    exact x_iret C (show decode cX7_enters 199 = .ok (.ireturn, 1) from by decide +kernel) (x_finI (x_nb (x_rgw (x_rgc (x := 0) (k := 0) (by decide)) (lo' := 0) (hi' := 1) (by decide) (by decide))) ⟨⟨rfl, rfl⟩, (x_rgw (x_rgc (x := 0) (k := 0) (by decide)) (lo' := 0) (hi' := 1) (by decide) (by decide)), hI50⟩) (Nat.le_refl 0) (Nat.le_refl 0)
set_option maxRecDepth 20000 in
set_option maxHeartbeats 4000000 in
theorem b_X7_enters_56 {l : Launch} {L : Nat → Nat → Int64} {V : XJ} (r : Int32 × St) (C : C_X7_enters l r L V) (x1 : Int32) (x2 : Int32) (x3 : Int32) (s0 : Int32) (s1 : Int32) (M : St) (wx1 : xrg 0 47 x1) (wx3 : xrg 0 1792 x3) (ws0 : xrg 0 4 s0) (hI : InvK INVC M) (h : f_X7_enters_56 x1 x2 x3 s0 s1 M = r) : V 0 0 56 [(0, .ref 8), (1, .int x1), (2, .int x2), (3, .int x3)] [.int s0, .int s1] LAY (M, L) := by
  unfold f_X7_enters_56 at h
  refine x_run C e_X7_enters_8 e_X7_enters_8_k (pc' := 72) (lv' := [(5, .int (M 4 11)), (4, .int (s1 ||| s0)), (0, .ref 8), (1, .int x1), (2, .int x2), (3, .int x3)]) (st' := [.ref 1]) (σ' := (M, L)) rfl ⟨trivial, trivial, trivial, trivial, trivial, trivial, trivial, trivial, trivial⟩ ?_
  refine x_callV C (k := 1) (ci := 6) (rest := []) (avs := []) (k_X8_keep l  M L hI) yoX8_keep ml_X7_124 rfl rfl rfl rfl ⟨Nat.zero_le _, Nat.zero_le _⟩ (show decode cX7_enters 72 = .ok (.invokevirtual 124, 3) from by decide +kernel) rfl (fun v σ' hPo => ?_)
  obtain ⟨⟨rfl, rfl⟩, hI12⟩ := hPo
  generalize hq10 : f_X8_keep  M = q10 at h hI12 ⊢
  have h := xb_eq h
  show V 0 0 75 [(5, .int (M 4 11)), (4, .int (s1 ||| s0)), (0, .ref 8), (1, .int x1), (2, .int x2), (3, .int x3)] [] LAY (q10, L)
  refine x_run C e_X7_enters_9 e_X7_enters_9_k (pc' := 79) (lv' := [(5, .int (M 4 11)), (4, .int (s1 ||| s0)), (0, .ref 8), (1, .int x1), (2, .int x2), (3, .int x3)]) (st' := [.ref 4]) (σ' := (q10, L)) rfl ⟨trivial, trivial, trivial⟩ ?_
  refine x_callV C (k := 4) (ci := 1) (rest := []) (avs := []) (k_X2_clearError l  q10 L hI12) yoX2_clearError ml_X7_62 rfl rfl rfl rfl ⟨Nat.zero_le _, Nat.zero_le _⟩ (show decode cX7_enters 79 = .ok (.invokevirtual 62, 3) from by decide +kernel) rfl (fun v σ' hPo => ?_)
  obtain ⟨⟨rfl, rfl⟩, hI15⟩ := hPo
  generalize hq13 : f_X2_clearError  q10 = q13 at h hI15 ⊢
  have h := xb_eq h
  show V 0 0 82 [(5, .int (M 4 11)), (4, .int (s1 ||| s0)), (0, .ref 8), (1, .int x1), (2, .int x2), (3, .int x3)] [] LAY (q13, L)
  refine x_run C e_X7_enters_10 e_X7_enters_10_k (pc' := 96) (lv' := [(5, .int (M 4 11)), (4, .int (s1 ||| s0)), (0, .ref 8), (1, .int x1), (2, .int x2), (3, .int x3)]) (st' := [.int ((8192 ||| x3) ||| (x2 &&& 31)), .ref 1]) (σ' := (q13, L)) rfl ⟨trivial, trivial, trivial, trivial, trivial, trivial, trivial, trivial, trivial, trivial⟩ ?_
  refine x_callV C (k := 1) (ci := 6) (rest := []) (avs := [.int ((8192 ||| x3) ||| (x2 &&& 31))]) (k_X8_changeStatus l ((8192 ||| x3) ||| (x2 &&& 31)) q13 L hI15) yoX8_changeStatus ml_X7_58 rfl rfl rfl rfl ⟨Nat.zero_le _, Nat.zero_le _⟩ (show decode cX7_enters 96 = .ok (.invokevirtual 58, 3) from by decide +kernel) rfl (fun v σ' hPo => ?_)
  obtain ⟨⟨rfl, rfl⟩, hI18⟩ := hPo
  generalize hq16 : f_X8_changeStatus ((8192 ||| x3) ||| (x2 &&& 31)) q13 = q16 at h hI18 ⊢
  have h := xb_eq h
  show V 0 0 99 [(5, .int (M 4 11)), (4, .int (s1 ||| s0)), (0, .ref 8), (1, .int x1), (2, .int x2), (3, .int x3)] [] LAY (q16, L)
  refine x_run C e_X7_enters_11 e_X7_enters_11_k (pc' := 111) (lv' := [(5, .int (M 4 11)), (4, .int (s1 ||| s0)), (0, .ref 8), (1, .int x1), (2, .int x2), (3, .int x3)]) (st' := [.int (q16 2 17), .int 2, .ref 10]) (σ' := (q16, L)) rfl ⟨trivial, trivial, trivial, trivial, trivial, trivial, (x_rgv (x_rgc (x := 17) (k := 17) (by decide)) (by decide) (by decide)), trivial⟩ ?_
  refine x_callV C (k := 10) (ci := 4) (rest := []) (avs := [.int 2, .int (q16 2 17)]) (k_X6_push l 2 (q16 2 17) q16 L hI18) yoX6_push ml_X7_181 rfl rfl rfl rfl ⟨Nat.zero_le _, Nat.zero_le _⟩ (show decode cX7_enters 111 = .ok (.invokevirtual 181, 3) from by decide +kernel) rfl (fun v σ' hPo => ?_)
  obtain ⟨⟨rfl, rfl⟩, hI21⟩ := hPo
  generalize hq19 : f_X6_push 2 (q16 2 17) q16 = q19 at h hI21 ⊢
  have h := xb_eq h
  show V 0 0 114 [(5, .int (M 4 11)), (4, .int (s1 ||| s0)), (0, .ref 8), (1, .int x1), (2, .int x2), (3, .int x3)] [] LAY (q19, L)
  refine x_run C e_X7_enters_12 e_X7_enters_12_k (pc' := 120) (lv' := [(5, .int (M 4 11)), (4, .int (s1 ||| s0)), (0, .ref 8), (1, .int x1), (2, .int x2), (3, .int x3)]) (st' := [.int x2, .int 1, .ref 10]) (σ' := (q19, L)) rfl ⟨trivial, trivial, trivial, trivial, trivial⟩ ?_
  refine x_callV C (k := 10) (ci := 4) (rest := []) (avs := [.int 1, .int x2]) (k_X6_push l 1 x2 q19 L hI21) yoX6_push ml_X7_181 rfl rfl rfl rfl ⟨Nat.zero_le _, Nat.zero_le _⟩ (show decode cX7_enters 120 = .ok (.invokevirtual 181, 3) from by decide +kernel) rfl (fun v σ' hPo => ?_)
  obtain ⟨⟨rfl, rfl⟩, hI24⟩ := hPo
  generalize hq22 : f_X6_push 1 x2 q19 = q22 at h hI24 ⊢
  have h := xb_eq h
  show V 0 0 123 [(5, .int (M 4 11)), (4, .int (s1 ||| s0)), (0, .ref 8), (1, .int x1), (2, .int x2), (3, .int x3)] [] LAY (q22, L)
  refine x_run C e_X7_enters_13 e_X7_enters_13_k (pc' := 124) (lv' := [(5, .int (M 4 11)), (4, .int (s1 ||| s0)), (0, .ref 8), (1, .int x1), (2, .int x2), (3, .int x3)]) (st' := [.int x1]) (σ' := (q22, L)) rfl ⟨trivial, trivial⟩ ?_
  refine x_callS C (rest := []) (avs := [.int x1]) (k_X7_isOfGroupZero l x1 q22 L) yoX7_isOfGroupZero ml_X7_169 rfl ⟨Nat.zero_le _, Nat.zero_le _⟩ (show decode cX7_enters 124 = .ok (.invokestatic 169, 3) from by decide +kernel) rfl (fun v σ' hPo => ?_)
  obtain ⟨⟨rfl, rfl⟩, g26, -⟩ := hPo
  show V 0 0 127 [(5, .int (M 4 11)), (4, .int (s1 ||| s0)), (0, .ref 8), (1, .int x1), (2, .int x2), (3, .int x3)] [.int (f_X7_isOfGroupZero x1)] LAY (q22, L)
  refine x_if_eq C (show decode cX7_enters 127 = .ok (.ifCond .eq 35, 3) from by decide +kernel) (tgt := 162) (by decide) (fun c28 => ?_) (fun c28 => ?_)
  · rw [if_pos c28] at h
    have g29 : xrg 0 0 (f_X7_isOfGroupZero x1) := (x_c_eq g26 (x_rgc (x := 0) (k := 0) (by decide)) c28).1
    refine x_lv C [2, 3] rfl ?_
    exact b_X7_enters_162 r C x1 q22 wx1 hI24 h
  · rw [if_neg c28] at h
    have g30 : xrg 1 1 (f_X7_isOfGroupZero x1) := (x_c_ne g26 (by decide) c28)
    refine x_run C e_X7_enters_14 e_X7_enters_14_k (pc' := 139) (lv' := [(5, .int (M 4 11)), (4, .int (s1 ||| s0)), (0, .ref 8), (1, .int x1), (2, .int x2), (3, .int x3)]) (st' := [.int (q22 8 11), .int 1, .ref 10]) (σ' := (q22, L)) rfl ⟨trivial, trivial, trivial, trivial, trivial, trivial⟩ ?_
    refine x_callV C (k := 10) (ci := 4) (rest := []) (avs := [.int 1, .int (q22 8 11)]) (k_X6_push l 1 (q22 8 11) q22 L hI24) yoX6_push ml_X7_181 rfl rfl rfl rfl ⟨Nat.zero_le _, Nat.zero_le _⟩ (show decode cX7_enters 139 = .ok (.invokevirtual 181, 3) from by decide +kernel) rfl (fun v σ' hPo => ?_)
    obtain ⟨⟨rfl, rfl⟩, hI33⟩ := hPo
    generalize hq31 : f_X6_push 1 (q22 8 11) q22 = q31 at h hI33 ⊢
    have h := xb_eq h
    show V 0 0 142 [(5, .int (M 4 11)), (4, .int (s1 ||| s0)), (0, .ref 8), (1, .int x1), (2, .int x2), (3, .int x3)] [] LAY (q31, L)
    refine x_run C e_X7_enters_15 e_X7_enters_15_k (pc' := 149) (lv' := [(5, .int (M 4 11)), (4, .int (s1 ||| s0)), (0, .ref 8), (1, .int x1), (2, .int x2), (3, .int x3)]) (st' := [.int (M 4 11), .int 2, .ref 10]) (σ' := (q31, L)) rfl ⟨trivial, trivial, trivial, trivial, trivial⟩ ?_
    refine x_callV C (k := 10) (ci := 4) (rest := []) (avs := [.int 2, .int (M 4 11)]) (k_X6_push l 2 (M 4 11) q31 L hI33) yoX6_push ml_X7_181 rfl rfl rfl rfl ⟨Nat.zero_le _, Nat.zero_le _⟩ (show decode cX7_enters 149 = .ok (.invokevirtual 181, 3) from by decide +kernel) rfl (fun v σ' hPo => ?_)
    obtain ⟨⟨rfl, rfl⟩, hI36⟩ := hPo
    generalize hq34 : f_X6_push 2 (M 4 11) q31 = q34 at h hI36 ⊢
    have h := xb_eq h
    show V 0 0 152 [(5, .int (M 4 11)), (4, .int (s1 ||| s0)), (0, .ref 8), (1, .int x1), (2, .int x2), (3, .int x3)] [] LAY (q34, L)
    refine x_run C e_X7_enters_16 e_X7_enters_16_k (pc' := 159) (lv' := [(5, .int (M 4 11)), (4, .int (s1 ||| s0)), (0, .ref 8), (1, .int x1), (2, .int x2), (3, .int x3)]) (st' := [.int (s1 ||| s0), .int 1, .ref 10]) (σ' := (q34, L)) rfl ⟨trivial, trivial, trivial, trivial, trivial⟩ ?_
    refine x_callV C (k := 10) (ci := 4) (rest := []) (avs := [.int 1, .int (s1 ||| s0)]) (k_X6_push l 1 (s1 ||| s0) q34 L hI36) yoX6_push ml_X7_181 rfl rfl rfl rfl ⟨Nat.zero_le _, Nat.zero_le _⟩ (show decode cX7_enters 159 = .ok (.invokevirtual 181, 3) from by decide +kernel) rfl (fun v σ' hPo => ?_)
    obtain ⟨⟨rfl, rfl⟩, hI39⟩ := hPo
    generalize hq37 : f_X6_push 1 (s1 ||| s0) q34 = q37 at h hI39 ⊢
    have h := xb_eq h
    show V 0 0 162 [(5, .int (M 4 11)), (4, .int (s1 ||| s0)), (0, .ref 8), (1, .int x1), (2, .int x2), (3, .int x3)] [] LAY (q37, L)
    refine x_lv C [2, 3] rfl ?_
    exact b_X7_enters_162 r C x1 q37 wx1 hI39 h
set_option maxRecDepth 20000 in
set_option maxHeartbeats 4000000 in
theorem b_X7_enters_35 {l : Launch} {L : Nat → Nat → Int64} {V : XJ} (r : Int32 × St) (C : C_X7_enters l r L V) (x1 : Int32) (x2 : Int32) (s0 : Int32) (M : St) (wx1 : xrg 0 47 x1) (ws0 : xrg 0 1792 s0) (hI : InvK INVC M) (h : f_X7_enters_35 x1 x2 s0 M = r) : V 0 0 35 [(0, .ref 8), (1, .int x1), (2, .int x2)] [.int s0] LAY (M, L) := by
  unfold f_X7_enters_35 at h
  refine x_run C e_X7_enters_5 e_X7_enters_5_k (pc' := 48) (lv' := [(3, .int s0), (0, .ref 8), (1, .int x1), (2, .int x2)]) (st' := [.int (x2 &&& 8192), .int (M 4 12)]) (σ' := (M, L)) rfl ⟨trivial, trivial, trivial, trivial, trivial, trivial, trivial, trivial⟩ ?_
  refine x_if_eq C (show decode cX7_enters 48 = .ok (.ifCond .eq 7, 3) from by decide +kernel) (tgt := 55) (by decide) (fun c7 => ?_) (fun c7 => ?_)
  · rw [if_pos c7] at h
    have g8 : xrg 0 0 (x2 &&& 8192) := (x_c_eq (x_rg_and (x := x2) (m := 8192) (k := 8192) (by decide) (by decide)) (x_rgc (x := 0) (k := 0) (by decide)) c7).1
    refine x_run C e_X7_enters_6 e_X7_enters_6_k (pc' := 56) (lv' := [(3, .int s0), (0, .ref 8), (1, .int x1), (2, .int x2)]) (st' := [.int 0, .int (M 4 12)]) (σ' := (M, L)) rfl ⟨trivial, trivial⟩ ?_
    refine x_lv C [1, 2, 3, 0] rfl ?_
    exact b_X7_enters_56 r C x1 x2 s0 0 (M 4 12) M wx1 ws0 (x_rgw (x_rgc (x := 0) (k := 0) (by decide)) (lo' := 0) (hi' := 4) (by decide) (by decide)) hI h
  · rw [if_neg c7] at h
    have g9 : xrg 1 8192 (x2 &&& 8192) := (x_c_ne (x_rg_and (x := x2) (m := 8192) (k := 8192) (by decide) (by decide)) (by decide) c7)
    refine x_run C e_X7_enters_7 e_X7_enters_7_k (pc' := 52) (lv' := [(3, .int s0), (0, .ref 8), (1, .int x1), (2, .int x2)]) (st' := [.int 4, .int (M 4 12)]) (σ' := (M, L)) rfl ⟨trivial, trivial⟩ ?_
    refine x_goto C (show decode cX7_enters 52 = .ok (.goto 4, 3) from by decide +kernel) (tgt := 56) (by decide) ?_
    refine x_lv C [1, 2, 3, 0] rfl ?_
    exact b_X7_enters_56 r C x1 x2 s0 4 (M 4 12) M wx1 ws0 (x_rgw (x_rgc (x := 4) (k := 4) (by decide)) (lo' := 0) (hi' := 4) (by decide) (by decide)) hI h
set_option maxRecDepth 20000 in
set_option maxHeartbeats 4000000 in
theorem b_X7_enters_30 {l : Launch} {L : Nat → Nat → Int64} {V : XJ} (r : Int32 × St) (C : C_X7_enters l r L V) (x1 : Int32) (x2 : Int32) (M : St) (wx1 : xrg 0 47 x1) (hI : InvK INVC M) (h : f_X7_enters_30 x1 x2 M = r) : V 0 0 30 [(0, .ref 8), (1, .int x1), (2, .int x2)] [] LAY (M, L) := by
  unfold f_X7_enters_30 at h
  refine x_run C e_X7_enters_4 e_X7_enters_4_k (pc' := 35) (lv' := [(0, .ref 8), (1, .int x1), (2, .int x2)]) (st' := [.int (x2 &&& 1792)]) (σ' := (M, L)) rfl ⟨trivial, trivial, trivial, trivial⟩ ?_
  exact b_X7_enters_35 r C x1 x2 (x2 &&& 1792) M wx1 (x_rg_and (x := x2) (m := 1792) (k := 1792) (by decide) (by decide)) hI h
set_option maxRecDepth 20000 in
set_option maxHeartbeats 4000000 in
theorem k_X7_enters (l : Launch) (a1 : Int32) (M : St) (L : Nat → Nat → Int64) (hp1 : xrg 0 47 a1) (hI : InvK INVC M) : XM l yX7_enters cX7_enters 6 (some .boolean) R_X7_enters LAY [.ref 8, .int a1] (M, L) (P_X7_enters (f_X7_enters a1 M) L) := by
  refine XM.of (by decide) (Nat.le_of_ble_eq_true rfl) LAY_in cl_ok fl_X7_ok kc_X7_ok (fun V C => ?_)
  obtain ⟨r, h⟩ : ∃ r, f_X7_enters a1 M = r := ⟨_, rfl⟩
  rw [h] at C
  change C_X7_enters l r L V at C
  unfold f_X7_enters at h
  show V 0 0 0 [(0, .ref 8), (1, .int a1)] [] LAY (M, L)
  refine x_run C e_X7_enters_1 e_X7_enters_1_k (pc' := 11) (lv' := [(2, .int (M 2 18)), (0, .ref 8), (1, .int a1)]) (st' := [.int 24, .int a1]) (σ' := (M, L)) rfl ⟨trivial, trivial, trivial, (x_rgv (x_rgc (x := 18) (k := 18) (by decide)) (by decide) (by decide)), trivial, trivial, trivial, trivial⟩ ?_
  refine x_icmp_le C (show decode cX7_enters 11 = .ok (.if_icmp .le 19, 3) from by decide +kernel) (tgt := 30) (by decide) (fun c1 => ?_) (fun c1 => ?_)
  · rw [if_pos c1] at h
    have g2 : xrg 0 24 a1 := (x_c_le hp1 (x_rgc (x := 24) (k := 24) (by decide)) c1).1
    refine x_lv C [1, 2, 0] rfl ?_
    exact b_X7_enters_30 r C a1 (M 2 18) M (x_rgw g2 (lo' := 0) (hi' := 47) (by decide) (by decide)) hI h
  · rw [if_neg c1] at h
    have g3 : xrg 25 47 a1 := (x_c_nle hp1 (x_rgc (x := 24) (k := 24) (by decide)) c1).1
    refine x_run C e_X7_enters_2 e_X7_enters_2_k (pc' := 17) (lv' := [(2, .int (M 2 18)), (0, .ref 8), (1, .int a1)]) (st' := [.int 32, .int a1]) (σ' := (M, L)) rfl ⟨trivial, trivial, trivial⟩ ?_
    refine x_icmp_ge C (show decode cX7_enters 17 = .ok (.if_icmp .ge 13, 3) from by decide +kernel) (tgt := 30) (by decide) (fun c4 => ?_) (fun c4 => ?_)
    · rw [if_pos c4] at h
      have g5 : xrg 32 47 a1 := (x_c_le (x_rgc (x := 32) (k := 32) (by decide)) g3 c4).2
      refine x_lv C [1, 2, 0] rfl ?_
      exact b_X7_enters_30 r C a1 (M 2 18) M (x_rgw g5 (lo' := 0) (hi' := 47) (by decide) (by decide)) hI h
    · rw [if_neg c4] at h
      have g6 : xrg 25 31 a1 := (x_c_nle (x_rgc (x := 32) (k := 32) (by decide)) g3 c4).2
      refine x_run C e_X7_enters_3 e_X7_enters_3_k (pc' := 27) (lv' := [(2, .int (M 2 18)), (0, .ref 8), (1, .int a1)]) (st' := [.int ((a1 - 24) <<< ((8 : Int32) &&& 31))]) (σ' := (M, L)) rfl ⟨trivial, trivial, trivial, trivial, trivial, trivial⟩ ?_
      refine x_goto C (show decode cX7_enters 27 = .ok (.goto 8, 3) from by decide +kernel) (tgt := 35) (by decide) ?_
      refine x_lv C [1, 2, 0] rfl ?_
      exact b_X7_enters_35 r C a1 (M 2 18) ((a1 - 24) <<< ((8 : Int32) &&& 31)) M (x_rgw g6 (lo' := 0) (hi' := 47) (by decide) (by decide)) (x_rg_shl (k := 8) (hi := 1792) (x_rgw (x_rg_sub g6 (x_rgc (x := 24) (k := 24) (by decide)) (by decide) (by decide)) (lo' := 0) (hi' := 7) (by decide) (by decide)) (by decide) (by decide) (by decide)) hI h
-- X7_workOff
def e_X7_workOff_1 : List xI := [(0, .aload_n 0, 1, .null), (1, .iload_n 1, 1, .null)]
theorem e_X7_workOff_1_k : e_X7_workOff_1.all (fun q => xokB cX7_workOff q && xokL q) = true := by decide +kernel
def e_X7_workOff_2 : List xI := [(9, .aload_n 0, 1, .null), (10, .iload_n 1, 1, .null)]
theorem e_X7_workOff_2_k : e_X7_workOff_2.all (fun q => xokB cX7_workOff q && xokL q) = true := by decide +kernel
def e_X7_workOff_3 : List xI := [(17, .aload_n 0, 1, .null), (18, .aload_n 0, 1, .null), (19, .getfield 29, 3, .null), (22, .getfield 138, 3, .null)]
theorem e_X7_workOff_3_k : e_X7_workOff_3.all (fun q => xokB cX7_workOff q && xokL q) = true := by decide +kernel
def e_X7_workOff_4 : List xI := [(35, .iconst 0, 1, .int 0)]
theorem e_X7_workOff_4_k : e_X7_workOff_4.all (fun q => xokB cX7_workOff q && xokL q) = true := by decide +kernel
def e_X7_workOff_5 : List xI := [(31, .iconst 1, 1, .int 1)]
theorem e_X7_workOff_5_k : e_X7_workOff_5.all (fun q => xokB cX7_workOff q && xokL q) = true := by decide +kernel
def e_X7_workOff_6 : List xI := [(36, .putfield 15, 3, .null)]
theorem e_X7_workOff_6_k : e_X7_workOff_6.all (fun q => xokB cX7_workOff q && xokL q) = true := by decide +kernel
abbrev P_X7_workOff (r : St) (L : Nat → Nat → Int64) : Option Value → xG → Prop := fun v σ' => PoV r L v σ' ∧ InvK INVC r
abbrev R_X7_workOff : Room := { frames := 4, cells := 0, slots := 0, locals := 109 }
abbrev C_X7_workOff (l : Launch) (r : St) (L : Nat → Nat → Int64) (V : XJ) : Prop := XC l yX7_workOff.cls yX7_workOff.name cX7_workOff 2 R_X7_workOff 0 0 fl_X7 kc_X7 LAY.length (xfin none LAY (P_X7_workOff r L)) V
def f_X7_workOff_36 (s0 : Int32) (M : St) : St := (xup M 8 7 s0)
def f_X7_workOff_31  (M : St) : St := f_X7_workOff_36 1 M
def f_X7_workOff (a1 : Int32) (M : St) : St := (xb (f_X7_enters a1 M) fun q1 => (if q1.1 = 0 then (if (f_X7_isOfGroupZero a1) = 0 then (xb (f_X7_enters (q1.2 4 10) q1.2) fun q12 => (if q12.1 = 0 then f_X7_workOff_31  q12.2 else f_X7_workOff_36 0 q12.2)) else f_X7_workOff_31  q1.2) else q1.2))
set_option maxRecDepth 20000 in
set_option maxHeartbeats 4000000 in
theorem b_X7_workOff_36 {l : Launch} {L : Nat → Nat → Int64} {V : XJ} (r : St) (C : C_X7_workOff l r L V) (s0 : Int32) (M : St) (ws0 : xrg 0 1 s0) (hI : InvK INVC M) (h : f_X7_workOff_36 s0 M = r) : V 0 0 36 [] [.int s0, .ref 8] LAY (M, L) := by
  unfold f_X7_workOff_36 at h
  refine x_run C e_X7_workOff_6 e_X7_workOff_6_k (pc' := 39) (lv' := []) (st' := []) (σ' := ((xup M 8 7 s0), L)) rfl ⟨(x_rgb ws0), trivial⟩ ?_
  have hI19 : InvK INVC (xup M 8 7 s0) := (hI.fld 8 7 s0 (by decide))
  subst h
  exact x_vret C (show decode cX7_workOff 39 = .ok (.return_, 1) from by decide +kernel) (x_finV ⟨⟨rfl, rfl⟩, hI19⟩) (Nat.le_refl 0) (Nat.le_refl 0)
set_option maxRecDepth 20000 in
set_option maxHeartbeats 4000000 in
theorem b_X7_workOff_31 {l : Launch} {L : Nat → Nat → Int64} {V : XJ} (r : St) (C : C_X7_workOff l r L V)  (M : St) (hI : InvK INVC M) (h : f_X7_workOff_31  M = r) : V 0 0 31 [] [.ref 8] LAY (M, L) := by
  unfold f_X7_workOff_31 at h
  refine x_run C e_X7_workOff_5 e_X7_workOff_5_k (pc' := 32) (lv' := []) (st' := [.int 1, .ref 8]) (σ' := (M, L)) rfl ⟨trivial, trivial⟩ ?_
  refine x_goto C (show decode cX7_workOff 32 = .ok (.goto 4, 3) from by decide +kernel) (tgt := 36) (by decide) ?_
  exact b_X7_workOff_36 r C 1 M (x_rgw (x_rgc (x := 1) (k := 1) (by decide)) (lo' := 0) (hi' := 1) (by decide) (by decide)) hI h
set_option maxRecDepth 20000 in
set_option maxHeartbeats 4000000 in
theorem k_X7_workOff (l : Launch) (a1 : Int32) (M : St) (L : Nat → Nat → Int64) (hp1 : xrg 0 47 a1) (hI : InvK INVC M) : XM l yX7_workOff cX7_workOff 2 none R_X7_workOff LAY [.ref 8, .int a1] (M, L) (P_X7_workOff (f_X7_workOff a1 M) L) := by
  refine XM.of (by decide) (Nat.le_of_ble_eq_true rfl) LAY_in cl_ok fl_X7_ok kc_X7_ok (fun V C => ?_)
  obtain ⟨r, h⟩ : ∃ r, f_X7_workOff a1 M = r := ⟨_, rfl⟩
  rw [h] at C
  change C_X7_workOff l r L V at C
  unfold f_X7_workOff at h
  show V 0 0 0 [(0, .ref 8), (1, .int a1)] [] LAY (M, L)
  refine x_run C e_X7_workOff_1 e_X7_workOff_1_k (pc' := 2) (lv' := [(0, .ref 8), (1, .int a1)]) (st' := [.int a1, .ref 8]) (σ' := (M, L)) rfl ⟨trivial, trivial, trivial⟩ ?_
  refine x_callV C (k := 8) (ci := 5) (rest := []) (avs := [.int a1]) (k_X7_enters l a1 M L hp1 hI) yoX7_enters ml_X7_172 rfl rfl rfl rfl ⟨Nat.zero_le _, Nat.zero_le _⟩ (show decode cX7_workOff 2 = .ok (.invokevirtual 172, 3) from by decide +kernel) rfl (fun v σ' hPo => ?_)
  obtain ⟨⟨rfl, rfl⟩, g2, hI3⟩ := hPo
  generalize hq1 : f_X7_enters a1 M = q1 at h g2 hI3 ⊢
  obtain ⟨r1, M1⟩ := q1
  have h := xb_eq h
  try dsimp only at h g2 hI3
  show V 0 0 5 [(0, .ref 8), (1, .int a1)] [.int r1] LAY (M1, L)
  refine x_if_eq C (show decode cX7_workOff 5 = .ok (.ifCond .eq 4, 3) from by decide +kernel) (tgt := 9) (by decide) (fun c4 => ?_) (fun c4 => ?_)
  · rw [if_pos c4] at h
    have g5 : xrg 0 0 r1 := (x_c_eq g2 (x_rgc (x := 0) (k := 0) (by decide)) c4).1
    refine x_run C e_X7_workOff_2 e_X7_workOff_2_k (pc' := 11) (lv' := [(0, .ref 8), (1, .int a1)]) (st' := [.int a1, .ref 8]) (σ' := (M1, L)) rfl ⟨trivial, trivial, trivial⟩ ?_
    refine x_callS C (rest := [.ref 8]) (avs := [.int a1]) (k_X7_isOfGroupZero l a1 M1 L) yoX7_isOfGroupZero ml_X7_169 rfl ⟨Nat.zero_le _, Nat.zero_le _⟩ (show decode cX7_workOff 11 = .ok (.invokestatic 169, 3) from by decide +kernel) rfl (fun v σ' hPo => ?_)
    obtain ⟨⟨rfl, rfl⟩, g7, -⟩ := hPo
    show V 0 0 14 [(0, .ref 8), (1, .int a1)] [.int (f_X7_isOfGroupZero a1), .ref 8] LAY (M1, L)
    refine x_if_ne C (show decode cX7_workOff 14 = .ok (.ifCond .ne 17, 3) from by decide +kernel) (tgt := 31) (by decide) (fun c9 => ?_) (fun c9 => ?_)
    · rw [if_neg c9] at h
      have g10 : xrg 1 1 (f_X7_isOfGroupZero a1) := (x_c_ne g7 (by decide) c9)
      refine x_lv C [] rfl ?_
      exact b_X7_workOff_31 r C  M1 hI3 h
    · rw [if_pos c9] at h
      have g11 : xrg 0 0 (f_X7_isOfGroupZero a1) := (x_c_eq g7 (x_rgc (x := 0) (k := 0) (by decide)) c9).1
      refine x_run C e_X7_workOff_3 e_X7_workOff_3_k (pc' := 25) (lv' := [(0, .ref 8), (1, .int a1)]) (st' := [.int (M1 4 10), .ref 8, .ref 8]) (σ' := (M1, L)) rfl ⟨trivial, trivial, trivial, trivial, trivial⟩ ?_
      refine x_callV C (k := 8) (ci := 5) (rest := [.ref 8]) (avs := [.int (M1 4 10)]) (k_X7_enters l (M1 4 10) M1 L (x_rgw (hI3.at 5 rfl) (lo' := 0) (hi' := 47) (by decide) (by decide)) hI3) yoX7_enters ml_X7_172 rfl rfl rfl rfl ⟨Nat.zero_le _, Nat.zero_le _⟩ (show decode cX7_workOff 25 = .ok (.invokevirtual 172, 3) from by decide +kernel) rfl (fun v σ' hPo => ?_)
      obtain ⟨⟨rfl, rfl⟩, g13, hI14⟩ := hPo
      generalize hq12 : f_X7_enters (M1 4 10) M1 = q12 at h g13 hI14 ⊢
      obtain ⟨r12, M12⟩ := q12
      have h := xb_eq h
      try dsimp only at h g13 hI14
      show V 0 0 28 [(0, .ref 8), (1, .int a1)] [.int r12, .ref 8] LAY (M12, L)
      refine x_if_ne C (show decode cX7_workOff 28 = .ok (.ifCond .ne 7, 3) from by decide +kernel) (tgt := 35) (by decide) (fun c15 => ?_) (fun c15 => ?_)
      · rw [if_neg c15] at h
        have g16 : xrg 1 1 r12 := (x_c_ne g13 (by decide) c15)
        refine x_run C e_X7_workOff_4 e_X7_workOff_4_k (pc' := 36) (lv' := [(0, .ref 8), (1, .int a1)]) (st' := [.int 0, .ref 8]) (σ' := (M12, L)) rfl ⟨trivial, trivial⟩ ?_
        refine x_lv C [] rfl ?_
        exact b_X7_workOff_36 r C 0 M12 (x_rgw (x_rgc (x := 0) (k := 0) (by decide)) (lo' := 0) (hi' := 1) (by decide) (by decide)) hI14 h
      · rw [if_pos c15] at h
        have g17 : xrg 0 0 r12 := (x_c_eq g13 (x_rgc (x := 0) (k := 0) (by decide)) c15).1
        refine x_lv C [] rfl ?_
        exact b_X7_workOff_31 r C  M12 hI14 h
  · rw [if_neg c4] at h
    have g18 : xrg 1 1 r1 := (x_c_ne g2 (by decide) c4)
    subst h
    exact x_vret C (show decode cX7_workOff 8 = .ok (.return_, 1) from by decide +kernel) (x_finV ⟨⟨rfl, rfl⟩, hI3⟩) (Nat.le_refl 0) (Nat.le_refl 0)
-- X7_interrupt
def e_X7_interrupt_1 : List xI := [(0, .aload_n 0, 1, .null), (1, .iconst 0, 1, .int 0), (2, .putfield 74, 3, .null), (5, .aload_n 0, 1, .null), (6, .bipush 24, 2, .int 24), (8, .iload_n 1, 1, .null), (9, .iadd, 1, .null)]
theorem e_X7_interrupt_1_k : e_X7_interrupt_1.all (fun q => xokB cX7_interrupt q && xokL q) = true := by decide +kernel
def e_X7_interrupt_2 : List xI := [(13, .bipush 24, 2, .int 24), (15, .iload_n 1, 1, .null), (16, .iadd, 1, .null)]
theorem e_X7_interrupt_2_k : e_X7_interrupt_2.all (fun q => xokB cX7_interrupt q && xokL q) = true := by decide +kernel
abbrev P_X7_interrupt (r : Int32 × St) (L : Nat → Nat → Int64) : Option Value → xG → Prop := fun v σ' => PoI r.1 r.2 L v σ' ∧ xrg 24 31 r.1 ∧ InvK INVC r.2
abbrev R_X7_interrupt : Room := { frames := 5, cells := 0, slots := 0, locals := 130 }
abbrev C_X7_interrupt (l : Launch) (r : Int32 × St) (L : Nat → Nat → Int64) (V : XJ) : Prop := XC l yX7_interrupt.cls yX7_interrupt.name cX7_interrupt 2 R_X7_interrupt 0 0 fl_X7 kc_X7 LAY.length (xfin (some .int) LAY (P_X7_interrupt r L)) V
def f_X7_interrupt (a1 : Int32) (M : St) : Int32 × St := (xb (f_X7_workOff (24 + a1) (xup M 8 8 0)) fun q2 => ((24 + a1), q2))
set_option maxRecDepth 20000 in
set_option maxHeartbeats 4000000 in
theorem k_X7_interrupt (l : Launch) (a1 : Int32) (M : St) (L : Nat → Nat → Int64) (hp1 : xrg 0 7 a1) (hI : InvK INVC M) : XM l yX7_interrupt cX7_interrupt 2 (some .int) R_X7_interrupt LAY [.ref 8, .int a1] (M, L) (P_X7_interrupt (f_X7_interrupt a1 M) L) := by
  refine XM.of (by decide) (Nat.le_of_ble_eq_true rfl) LAY_in cl_ok fl_X7_ok kc_X7_ok (fun V C => ?_)
  obtain ⟨r, h⟩ : ∃ r, f_X7_interrupt a1 M = r := ⟨_, rfl⟩
  rw [h] at C
  change C_X7_interrupt l r L V at C
  unfold f_X7_interrupt at h
  show V 0 0 0 [(0, .ref 8), (1, .int a1)] [] LAY (M, L)
  refine x_run C e_X7_interrupt_1 e_X7_interrupt_1_k (pc' := 10) (lv' := [(0, .ref 8), (1, .int a1)]) (st' := [.int (24 + a1), .ref 8]) (σ' := ((xup M 8 8 0), L)) rfl ⟨trivial, trivial, (x_rgb (x_rgw (x_rgc (x := 0) (k := 0) (by decide)) (lo' := 0) (hi' := 1) (by decide) (by decide))), trivial, trivial, trivial, trivial, trivial⟩ ?_
  have hI1 : InvK INVC (xup M 8 8 0) := (hI.fld 8 8 0 (by decide))
  refine x_callV C (k := 8) (ci := 5) (rest := []) (avs := [.int (24 + a1)]) (k_X7_workOff l (24 + a1) (xup M 8 8 0) L (x_rgw (x_rg_add (x_rgc (x := 24) (k := 24) (by decide)) hp1 (by decide) (by decide)) (lo' := 0) (hi' := 47) (by decide) (by decide)) hI1) yoX7_workOff ml_X7_121 rfl rfl rfl rfl ⟨Nat.zero_le _, Nat.zero_le _⟩ (show decode cX7_interrupt 10 = .ok (.invokevirtual 121, 3) from by decide +kernel) rfl (fun v σ' hPo => ?_)
  obtain ⟨⟨rfl, rfl⟩, hI4⟩ := hPo
  generalize hq2 : f_X7_workOff (24 + a1) (xup M 8 8 0) = q2 at h hI4 ⊢
  have h := xb_eq h
  show V 0 0 13 [(0, .ref 8), (1, .int a1)] [] LAY (q2, L)
  refine x_run C e_X7_interrupt_2 e_X7_interrupt_2_k (pc' := 17) (lv' := [(0, .ref 8), (1, .int a1)]) (st' := [.int (24 + a1)]) (σ' := (q2, L)) rfl ⟨trivial, trivial, trivial, trivial⟩ ?_
  subst h
  exact x_iret C (show decode cX7_interrupt 17 = .ok (.ireturn, 1) from by decide +kernel) (x_finI rfl ⟨⟨rfl, rfl⟩, (x_rg_add (x_rgc (x := 24) (k := 24) (by decide)) hp1 (by decide) (by decide)), hI4⟩) (Nat.le_refl 0) (Nat.le_refl 0)
-- X8_has
def e_X8_has_1 : List xI := [(0, .aload_n 0, 1, .null), (1, .getfield 9, 3, .null), (4, .bipush 18, 2, .int 18), (6, .iaload, 1, .null), (7, .iload_n 1, 1, .null), (8, .iand, 1, .null)]
theorem e_X8_has_1_k : e_X8_has_1.all (fun q => xokB cX8_has q && xokL q) = true := by decide +kernel
def e_X8_has_2 : List xI := [(16, .iconst 0, 1, .int 0)]
theorem e_X8_has_2_k : e_X8_has_2.all (fun q => xokB cX8_has q && xokL q) = true := by decide +kernel
def e_X8_has_3 : List xI := [(12, .iconst 1, 1, .int 1)]
theorem e_X8_has_3_k : e_X8_has_3.all (fun q => xokB cX8_has q && xokL q) = true := by decide +kernel
abbrev P_X8_has (r : Int32) (M0 : St) (L : Nat → Nat → Int64) : Option Value → xG → Prop := fun v σ' => PoI r M0 L v σ' ∧ xrg 0 1 r ∧ InvK INVC M0
abbrev R_X8_has : Room := { frames := 0, cells := 0, slots := 0, locals := 0 }
abbrev C_X8_has (l : Launch) (r : Int32) (M0 : St) (L : Nat → Nat → Int64) (V : XJ) : Prop := XC l yX8_has.cls yX8_has.name cX8_has 2 R_X8_has 0 0 fl_X8 kc_X8 LAY.length (xfin (some .boolean) LAY (P_X8_has r M0 L)) V
def f_X8_has (a1 : Int32) (M : St) : Int32 := (if ((M 2 18) &&& a1) = 0 then 0 else 1)
set_option maxRecDepth 20000 in
set_option maxHeartbeats 4000000 in
theorem k_X8_has (l : Launch) (a1 : Int32) (M : St) (L : Nat → Nat → Int64) (hI : InvK INVC M) : XM l yX8_has cX8_has 2 (some .boolean) R_X8_has LAY [.ref 1, .int a1] (M, L) (P_X8_has (f_X8_has a1 M) M L) := by
  refine XM.of (by decide) (Nat.le_of_ble_eq_true rfl) LAY_in cl_ok fl_X8_ok kc_X8_ok (fun V C => ?_)
  obtain ⟨r, h⟩ : ∃ r, f_X8_has a1 M = r := ⟨_, rfl⟩
  rw [h] at C
  change C_X8_has l r M L V at C
  unfold f_X8_has at h
  show V 0 0 0 [(0, .ref 1), (1, .int a1)] [] LAY (M, L)
  refine x_run C e_X8_has_1 e_X8_has_1_k (pc' := 9) (lv' := [(0, .ref 1), (1, .int a1)]) (st' := [.int ((M 2 18) &&& a1)]) (σ' := (M, L)) rfl ⟨trivial, trivial, trivial, (x_rgv (x_rgc (x := 18) (k := 18) (by decide)) (by decide) (by decide)), trivial, trivial, trivial⟩ ?_
  refine x_if_eq C (show decode cX8_has 9 = .ok (.ifCond .eq 7, 3) from by decide +kernel) (tgt := 16) (by decide) (fun c1 => ?_) (fun c1 => ?_)
  · rw [if_pos c1] at h
    have g2 : xrg 0 0 ((M 2 18) &&& a1) := (x_c_eq (x_rgt ((M 2 18) &&& a1)) (x_rgc (x := 0) (k := 0) (by decide)) c1).1
    refine x_run C e_X8_has_2 e_X8_has_2_k (pc' := 17) (lv' := [(0, .ref 1), (1, .int a1)]) (st' := [.int 0]) (σ' := (M, L)) rfl ⟨trivial, trivial⟩ ?_
    subst h
    exact x_iret C (show decode cX8_has 17 = .ok (.ireturn, 1) from by decide +kernel) (x_finI (x_nb (x_rgw (x_rgc (x := 0) (k := 0) (by decide)) (lo' := 0) (hi' := 1) (by decide) (by decide))) ⟨⟨rfl, rfl⟩, (x_rgw (x_rgc (x := 0) (k := 0) (by decide)) (lo' := 0) (hi' := 1) (by decide) (by decide)), hI⟩) (Nat.le_refl 0) (Nat.le_refl 0)
  · rw [if_neg c1] at h
    refine x_run C e_X8_has_3 e_X8_has_3_k (pc' := 13) (lv' := [(0, .ref 1), (1, .int a1)]) (st' := [.int 1]) (σ' := (M, L)) rfl ⟨trivial, trivial⟩ ?_
    refine x_goto C (show decode cX8_has 13 = .ok (.goto 4, 3) from by decide +kernel) (tgt := 17) (by decide) ?_
    subst h
    exact x_iret C (show decode cX8_has 17 = .ok (.ireturn, 1) from by decide +kernel) (x_finI (x_nb (x_rgw (x_rgc (x := 1) (k := 1) (by decide)) (lo' := 0) (hi' := 1) (by decide) (by decide))) ⟨⟨rfl, rfl⟩, (x_rgw (x_rgc (x := 1) (k := 1) (by decide)) (lo' := 0) (hi' := 1) (by decide) (by decide)), hI⟩) (Nat.le_refl 0) (Nat.le_refl 0)
-- X6_fetch
def e_X6_fetch_1 : List xI := [(0, .iconst 0, 1, .int 0), (1, .istore_n 2, 1, .null), (2, .iload_n 1, 1, .null), (3, .iconst 2, 1, .int 2)]
theorem e_X6_fetch_1_k : e_X6_fetch_1.all (fun q => xokB cX6_fetch q && xokL q) = true := by decide +kernel
def e_X6_fetch_2 : List xI := [(11, .iconst 1, 1, .int 1)]
theorem e_X6_fetch_2_k : e_X6_fetch_2.all (fun q => xokB cX6_fetch q && xokL q) = true := by decide +kernel
def e_X6_fetch_3 : List xI := [(7, .iconst 2, 1, .int 2)]
theorem e_X6_fetch_3_k : e_X6_fetch_3.all (fun q => xokB cX6_fetch q && xokL q) = true := by decide +kernel
def e_X6_fetch_4 : List xI := [(12, .istore_n 3, 1, .null)]
theorem e_X6_fetch_4_k : e_X6_fetch_4.all (fun q => xokB cX6_fetch q && xokL q) = true := by decide +kernel
def e_X6_fetch_5 : List xI := [(13, .iload_n 3, 1, .null)]
theorem e_X6_fetch_5_k : e_X6_fetch_5.all (fun q => xokB cX6_fetch q && xokL q) = true := by decide +kernel
def e_X6_fetch_6 : List xI := [(56, .iload_n 1, 1, .null)]
theorem e_X6_fetch_6_k : e_X6_fetch_6.all (fun q => xokB cX6_fetch q && xokL q) = true := by decide +kernel
def e_X6_fetch_7 : List xI := [(68, .iload_n 2, 1, .null)]
theorem e_X6_fetch_7_k : e_X6_fetch_7.all (fun q => xokB cX6_fetch q && xokL q) = true := by decide +kernel
def e_X6_fetch_8 : List xI := [(60, .iload_n 2, 1, .null), (61, .sipush 255, 3, .int 255), (64, .iand, 1, .null)]
theorem e_X6_fetch_8_k : e_X6_fetch_8.all (fun q => xokB cX6_fetch q && xokL q) = true := by decide +kernel
def e_X6_fetch_9 : List xI := [(17, .iload_n 2, 1, .null), (18, .bipush 16, 2, .int 16), (20, .ishl, 1, .null), (21, .aload_n 0, 1, .null), (22, .getfield 18, 3, .null), (25, .aload_n 0, 1, .null), (26, .getfield 15, 3, .null), (29, .bipush 17, 2, .int 17), (31, .iaload, 1, .null), (32, .iconst 1, 1, .int 1), (33, .iconst 3, 1, .int 3)]
theorem e_X6_fetch_9_k : e_X6_fetch_9.all (fun q => xokB cX6_fetch q && xokL q) = true := by decide +kernel
def e_X6_fetch_10 : List xI := [(37, .ior, 1, .null), (38, .istore_n 2, 1, .null), (39, .aload_n 0, 1, .null), (40, .getfield 15, 3, .null), (43, .bipush 17, 2, .int 17), (45, .dup2, 1, .null), (46, .iaload, 1, .null), (47, .iconst 2, 1, .int 2), (48, .iadd, 1, .null), (49, .iastore, 1, .null), (50, .iinc 3 (-1), 3, .null)]
theorem e_X6_fetch_10_k : e_X6_fetch_10.all (fun q => xokB cX6_fetch q && xokL q) = true := by decide +kernel
abbrev P_X6_fetch (r : Int32 × St) (L : Nat → Nat → Int64) : Option Value → xG → Prop := fun v σ' => PoI r.1 r.2 L v σ' ∧ True ∧ InvK INVC r.2
abbrev R_X6_fetch : Room := { frames := 2, cells := 0, slots := 0, locals := 54 }
abbrev C_X6_fetch (l : Launch) (r : Int32 × St) (L : Nat → Nat → Int64) (V : XJ) : Prop := XC l yX6_fetch.cls yX6_fetch.name cX6_fetch 4 R_X6_fetch 0 0 fl_X6 kc_X6 LAY.length (xfin (some .int) LAY (P_X6_fetch r L)) V
def f_X6_fetch_13 : Nat → Int32 → Int32 → Int32 → St → Int32 × St
  | 0, x1, x2, x3, M => (0, M)
  | n + 1, x1, x2, x3, M => (if x3 ≤ 0 then (if x1 = 0 then ((x2 &&& 255), M) else (x2, M)) else (xb (f_X2_read (M 2 17) 1 3 M) fun q9 => f_X6_fetch_13 n x1 ((x2 <<< ((16 : Int32) &&& 31)) ||| q9.1) (x3 + (-1)) (xup q9.2 2 17 ((q9.2 2 17) + 2))))
def f_X6_fetch_12 (x1 : Int32) (x2 : Int32) (s0 : Int32) (M : St) : Int32 × St := f_X6_fetch_13 (s0.toInt.toNat + 1) x1 x2 s0 M
def f_X6_fetch (a1 : Int32) (M : St) : Int32 × St := (if a1 = 2 then f_X6_fetch_12 a1 0 2 M else f_X6_fetch_12 a1 0 1 M)
set_option maxRecDepth 20000 in
set_option maxHeartbeats 4000000 in
theorem b_X6_fetch_13 {l : Launch} {L : Nat → Nat → Int64} {V : XJ} (r : Int32 × St) (C : C_X6_fetch l r L V) : ∀ (n : Nat) (x1 : Int32) (x2 : Int32) (x3 : Int32) (M : St), xrg 0 2 x3 → InvK INVC M → x3.toInt.toNat < n → f_X6_fetch_13 n x1 x2 x3 M = r → V 0 0 13 [(0, .ref 10), (1, .int x1), (2, .int x2), (3, .int x3)] [] LAY (M, L) := by
  intro n
  induction n with
  | zero => intro x1 x2 x3 M  wx3 hI hm; exact absurd hm (Nat.not_lt_zero _)
  | succ n ih =>
    intro x1 x2 x3 M  wx3 hI hm h
    unfold f_X6_fetch_13 at h
    refine x_run C e_X6_fetch_5 e_X6_fetch_5_k (pc' := 14) (lv' := [(0, .ref 10), (1, .int x1), (2, .int x2), (3, .int x3)]) (st' := [.int x3]) (σ' := (M, L)) rfl ⟨trivial, trivial⟩ ?_
    refine x_if_le C (show decode cX6_fetch 14 = .ok (.ifCond .le 42, 3) from by decide +kernel) (tgt := 56) (by decide) (fun c3 => ?_) (fun c3 => ?_)
    · rw [if_pos c3] at h
      have g4 : xrg 0 0 x3 := (x_c_le wx3 (x_rgc (x := 0) (k := 0) (by decide)) c3).1
      refine x_run C e_X6_fetch_6 e_X6_fetch_6_k (pc' := 57) (lv' := [(0, .ref 10), (1, .int x1), (2, .int x2), (3, .int x3)]) (st' := [.int x1]) (σ' := (M, L)) rfl ⟨trivial, trivial⟩ ?_
      refine x_if_ne C (show decode cX6_fetch 57 = .ok (.ifCond .ne 11, 3) from by decide +kernel) (tgt := 68) (by decide) (fun c5 => ?_) (fun c5 => ?_)
      · rw [if_neg c5] at h
        refine x_run C e_X6_fetch_7 e_X6_fetch_7_k (pc' := 69) (lv' := [(0, .ref 10), (1, .int x1), (2, .int x2), (3, .int x3)]) (st' := [.int x2]) (σ' := (M, L)) rfl ⟨trivial, trivial⟩ ?_
        subst h
        exact x_iret C (show decode cX6_fetch 69 = .ok (.ireturn, 1) from by decide +kernel) (x_finI rfl ⟨⟨rfl, rfl⟩, trivial, hI⟩) (Nat.le_refl 0) (Nat.le_refl 0)
      · rw [if_pos c5] at h
        have g6 : xrg 0 0 x1 := (x_c_eq (x_rgt x1) (x_rgc (x := 0) (k := 0) (by decide)) c5).1
        refine x_run C e_X6_fetch_8 e_X6_fetch_8_k (pc' := 65) (lv' := [(0, .ref 10), (1, .int x1), (2, .int x2), (3, .int x3)]) (st' := [.int (x2 &&& 255)]) (σ' := (M, L)) rfl ⟨trivial, trivial, trivial, trivial⟩ ?_
        refine x_goto C (show decode cX6_fetch 65 = .ok (.goto 4, 3) from by decide +kernel) (tgt := 69) (by decide) ?_
        subst h
        exact x_iret C (show decode cX6_fetch 69 = .ok (.ireturn, 1) from by decide +kernel) (x_finI rfl ⟨⟨rfl, rfl⟩, trivial, hI⟩) (Nat.le_refl 0) (Nat.le_refl 0)
    · rw [if_neg c3] at h
      have g7 : xrg 1 2 x3 := (x_c_nle wx3 (x_rgc (x := 0) (k := 0) (by decide)) c3).1
      have hk8 := x_measd c3 hm
      refine x_run C e_X6_fetch_9 e_X6_fetch_9_k (pc' := 34) (lv' := [(0, .ref 10), (1, .int x1), (2, .int x2), (3, .int x3)]) (st' := [.int 3, .int 1, .int (M 2 17), .ref 4, .int (x2 <<< ((16 : Int32) &&& 31))]) (σ' := (M, L)) rfl ⟨trivial, trivial, trivial, trivial, trivial, trivial, trivial, trivial, (x_rgv (x_rgc (x := 17) (k := 17) (by decide)) (by decide) (by decide)), trivial, trivial, trivial⟩ ?_
      refine x_callV C (k := 4) (ci := 1) (rest := [.int (x2 <<< ((16 : Int32) &&& 31))]) (avs := [.int (M 2 17), .int 1, .int 3]) (k_X2_read l (M 2 17) 1 3 M L hI) yoX2_read ml_X6_24 rfl rfl rfl rfl ⟨Nat.zero_le _, Nat.zero_le _⟩ (show decode cX6_fetch 34 = .ok (.invokevirtual 24, 3) from by decide +kernel) rfl (fun v σ' hPo => ?_)
      obtain ⟨⟨rfl, rfl⟩, g10, hI11⟩ := hPo
      generalize hq9 : f_X2_read (M 2 17) 1 3 M = q9 at h g10 hI11 ⊢
      obtain ⟨r9, M9⟩ := q9
      have h := xb_eq h
      try dsimp only at h g10 hI11
      show V 0 0 37 [(0, .ref 10), (1, .int x1), (2, .int x2), (3, .int x3)] [.int r9, .int (x2 <<< ((16 : Int32) &&& 31))] LAY (M9, L)
      refine x_run C e_X6_fetch_10 e_X6_fetch_10_k (pc' := 53) (lv' := [(3, .int (x3 + (-1))), (2, .int ((x2 <<< ((16 : Int32) &&& 31)) ||| r9)), (0, .ref 10), (1, .int x1)]) (st' := []) (σ' := ((xup M9 2 17 ((M9 2 17) + 2)), L)) rfl ⟨trivial, trivial, trivial, trivial, trivial, trivial, (x_rgv (x_rgc (x := 17) (k := 17) (by decide)) (by decide) (by decide)), trivial, trivial, (x_rgv (x_rgc (x := 17) (k := 17) (by decide)) (by decide) (by decide)), trivial, trivial⟩ ?_
      have hI12 : InvK INVC (xup M9 2 17 ((M9 2 17) + 2)) := (hI11.arr 2 17 ((M9 2 17) + 2) (by decide))
      refine x_goto C (show decode cX6_fetch 53 = .ok (.goto (-40), 3) from by decide +kernel) (tgt := 13) (by decide) ?_
      refine x_lv C [2, 3, 1, 0] rfl ?_
      exact ih x1 ((x2 <<< ((16 : Int32) &&& 31)) ||| r9) (x3 + (-1)) (xup M9 2 17 ((M9 2 17) + 2)) (x_rgw (x_rg_add g7 (x_rgc (x := (-1)) (k := (-1)) (by decide)) (by decide) (by decide)) (lo' := 0) (hi' := 2) (by decide) (by decide)) hI12 (hk8) h
set_option maxRecDepth 20000 in
set_option maxHeartbeats 4000000 in
theorem b_X6_fetch_12 {l : Launch} {L : Nat → Nat → Int64} {V : XJ} (r : Int32 × St) (C : C_X6_fetch l r L V) (x1 : Int32) (x2 : Int32) (s0 : Int32) (M : St) (wx2 : xrg 0 0 x2) (ws0 : xrg 1 2 s0) (hI : InvK INVC M) (h : f_X6_fetch_12 x1 x2 s0 M = r) : V 0 0 12 [(0, .ref 10), (1, .int x1), (2, .int x2)] [.int s0] LAY (M, L) := by
  unfold f_X6_fetch_12 at h
  refine x_run C e_X6_fetch_4 e_X6_fetch_4_k (pc' := 13) (lv' := [(3, .int s0), (0, .ref 10), (1, .int x1), (2, .int x2)]) (st' := []) (σ' := (M, L)) rfl ⟨trivial, trivial⟩ ?_
  refine x_lv C [1, 2, 3, 0] rfl ?_
  exact b_X6_fetch_13 r C (s0.toInt.toNat + 1) x1 x2 s0 M (x_rgw ws0 (lo' := 0) (hi' := 2) (by decide) (by decide)) hI (Nat.lt_succ_self _) h
set_option maxRecDepth 20000 in
set_option maxHeartbeats 4000000 in
theorem k_X6_fetch (l : Launch) (a1 : Int32) (M : St) (L : Nat → Nat → Int64) (hI : InvK INVC M) : XM l yX6_fetch cX6_fetch 4 (some .int) R_X6_fetch LAY [.ref 10, .int a1] (M, L) (P_X6_fetch (f_X6_fetch a1 M) L) := by
  refine XM.of (by decide) (Nat.le_of_ble_eq_true rfl) LAY_in cl_ok fl_X6_ok kc_X6_ok (fun V C => ?_)
  obtain ⟨r, h⟩ : ∃ r, f_X6_fetch a1 M = r := ⟨_, rfl⟩
  rw [h] at C
  change C_X6_fetch l r L V at C
  unfold f_X6_fetch at h
  show V 0 0 0 [(0, .ref 10), (1, .int a1)] [] LAY (M, L)
  refine x_run C e_X6_fetch_1 e_X6_fetch_1_k (pc' := 4) (lv' := [(2, .int 0), (0, .ref 10), (1, .int a1)]) (st' := [.int 2, .int a1]) (σ' := (M, L)) rfl ⟨trivial, trivial, trivial, trivial, trivial⟩ ?_
  refine x_icmp_ne C (show decode cX6_fetch 4 = .ok (.if_icmp .ne 7, 3) from by decide +kernel) (tgt := 11) (by decide) (fun c1 => ?_) (fun c1 => ?_)
  · rw [if_neg c1] at h
    refine x_run C e_X6_fetch_2 e_X6_fetch_2_k (pc' := 12) (lv' := [(2, .int 0), (0, .ref 10), (1, .int a1)]) (st' := [.int 1]) (σ' := (M, L)) rfl ⟨trivial, trivial⟩ ?_
    refine x_lv C [1, 2, 0] rfl ?_
    exact b_X6_fetch_12 r C a1 0 1 M (x_rgc (x := 0) (k := 0) (by decide)) (x_rgw (x_rgc (x := 1) (k := 1) (by decide)) (lo' := 1) (hi' := 2) (by decide) (by decide)) hI h
  · rw [if_pos c1] at h
    have g2 : xrg 2 2 a1 := (x_c_eq (x_rgt a1) (x_rgc (x := 2) (k := 2) (by decide)) c1).1
    refine x_run C e_X6_fetch_3 e_X6_fetch_3_k (pc' := 8) (lv' := [(2, .int 0), (0, .ref 10), (1, .int a1)]) (st' := [.int 2]) (σ' := (M, L)) rfl ⟨trivial, trivial⟩ ?_
    refine x_goto C (show decode cX6_fetch 8 = .ok (.goto 4, 3) from by decide +kernel) (tgt := 12) (by decide) ?_
    refine x_lv C [1, 2, 0] rfl ?_
    exact b_X6_fetch_12 r C a1 0 2 M (x_rgc (x := 0) (k := 0) (by decide)) (x_rgw (x_rgc (x := 2) (k := 2) (by decide)) (lo' := 1) (hi' := 2) (by decide) (by decide)) hI h
-- X3_operand
def e_X3_operand_1 : List xI := [(0, .aload_n 0, 1, .null), (1, .getfield 9, 3, .null), (4, .bipush 63, 2, .int 63), (6, .iand, 1, .null)]
theorem e_X3_operand_1_k : e_X3_operand_1.all (fun q => xokB cX3_operand q && xokL q) = true := by decide +kernel
abbrev P_X3_operand (r : Int32) (M0 : St) (L : Nat → Nat → Int64) : Option Value → xG → Prop := fun v σ' => PoI r M0 L v σ' ∧ xrg 0 63 r ∧ InvK INVC M0
abbrev R_X3_operand : Room := { frames := 0, cells := 0, slots := 0, locals := 0 }
abbrev C_X3_operand (l : Launch) (r : Int32) (M0 : St) (L : Nat → Nat → Int64) (V : XJ) : Prop := XC l yX3_operand.cls yX3_operand.name cX3_operand 1 R_X3_operand 0 0 fl_X3 kc_X3 LAY.length (xfin (some .int) LAY (P_X3_operand r M0 L)) V
def f_X3_operand (M : St) : Int32 := ((M 11 0) &&& 63)
set_option maxRecDepth 20000 in
set_option maxHeartbeats 4000000 in
theorem k_X3_operand (l : Launch) (M : St) (L : Nat → Nat → Int64) (hI : InvK INVC M) : XM l yX3_operand cX3_operand 1 (some .int) R_X3_operand LAY [.ref 11] (M, L) (P_X3_operand (f_X3_operand M) M L) := by
  refine XM.of (by decide) (Nat.le_of_ble_eq_true rfl) LAY_in cl_ok fl_X3_ok kc_X3_ok (fun V C => ?_)
  obtain ⟨r, h⟩ : ∃ r, f_X3_operand M = r := ⟨_, rfl⟩
  rw [h] at C
  change C_X3_operand l r M L V at C
  unfold f_X3_operand at h
  show V 0 0 0 [(0, .ref 11)] [] LAY (M, L)
  refine x_run C e_X3_operand_1 e_X3_operand_1_k (pc' := 7) (lv' := [(0, .ref 11)]) (st' := [.int ((M 11 0) &&& 63)]) (σ' := (M, L)) rfl ⟨trivial, trivial, trivial, trivial, trivial⟩ ?_
  subst h
  exact x_iret C (show decode cX3_operand 7 = .ok (.ireturn, 1) from by decide +kernel) (x_finI rfl ⟨⟨rfl, rfl⟩, (x_rg_and (x := (M 11 0)) (m := 63) (k := 63) (by decide) (by decide)), hI⟩) (Nat.le_refl 0) (Nat.le_refl 0)
-- X9_of
def e_X9_of_1 : List xI := [(0, .iload_n 0, 1, .null), (1, .iconst 3, 1, .int 3), (2, .iushr, 1, .null), (3, .bipush 7, 2, .int 7), (5, .iand, 1, .null), (6, .istore_n 1, 1, .null), (7, .iload_n 1, 1, .null), (8, .bipush 7, 2, .int 7)]
theorem e_X9_of_1_k : e_X9_of_1.all (fun q => xokB cX9_of q && xokL q) = true := by decide +kernel
def e_X9_of_2 : List xI := [(17, .bipush 7, 2, .int 7), (19, .iload_n 0, 1, .null), (20, .bipush 7, 2, .int 7), (22, .iand, 1, .null), (23, .iadd, 1, .null)]
theorem e_X9_of_2_k : e_X9_of_2.all (fun q => xokB cX9_of q && xokL q) = true := by decide +kernel
def e_X9_of_3 : List xI := [(13, .iload_n 1, 1, .null)]
theorem e_X9_of_3_k : e_X9_of_3.all (fun q => xokB cX9_of q && xokL q) = true := by decide +kernel
abbrev P_X9_of (r : Int32) (M0 : St) (L : Nat → Nat → Int64) : Option Value → xG → Prop := fun v σ' => PoI r M0 L v σ' ∧ xrg 0 14 r ∧ True
abbrev R_X9_of : Room := { frames := 0, cells := 0, slots := 0, locals := 0 }
abbrev C_X9_of (l : Launch) (r : Int32) (M0 : St) (L : Nat → Nat → Int64) (V : XJ) : Prop := XC l yX9_of.cls yX9_of.name cX9_of 2 R_X9_of 0 0 fl_X9 kc_X9 LAY.length (xfin (some .int) LAY (P_X9_of r M0 L)) V
def f_X9_of (a1 : Int32) : Int32 := (if 7 ≤ ((ius a1 3) &&& 7) then (7 + (a1 &&& 7)) else ((ius a1 3) &&& 7))
set_option maxRecDepth 20000 in
set_option maxHeartbeats 4000000 in
theorem k_X9_of (l : Launch) (a1 : Int32) (M : St) (L : Nat → Nat → Int64) : XM l yX9_of cX9_of 2 (some .int) R_X9_of LAY [.int a1] (M, L) (P_X9_of (f_X9_of a1) M L) := by
  refine XM.of (by decide) (Nat.le_of_ble_eq_true rfl) LAY_in cl_ok fl_X9_ok kc_X9_ok (fun V C => ?_)
  obtain ⟨r, h⟩ : ∃ r, f_X9_of a1 = r := ⟨_, rfl⟩
  rw [h] at C
  change C_X9_of l r M L V at C
  unfold f_X9_of at h
  show V 0 0 0 [(0, .int a1)] [] LAY (M, L)
  refine x_run C e_X9_of_1 e_X9_of_1_k (pc' := 10) (lv' := [(1, .int ((ius a1 3) &&& 7)), (0, .int a1)]) (st' := [.int 7, .int ((ius a1 3) &&& 7)]) (σ' := (M, L)) rfl ⟨trivial, trivial, trivial, trivial, trivial, trivial, trivial, trivial, trivial⟩ ?_
  refine x_icmp_ge C (show decode cX9_of 10 = .ok (.if_icmp .ge 7, 3) from by decide +kernel) (tgt := 17) (by decide) (fun c1 => ?_) (fun c1 => ?_)
  · rw [if_pos c1] at h
    have g2 : xrg 7 7 ((ius a1 3) &&& 7) := (x_c_le (x_rgc (x := 7) (k := 7) (by decide)) (x_rg_and (x := (ius a1 3)) (m := 7) (k := 7) (by decide) (by decide)) c1).2
    refine x_run C e_X9_of_2 e_X9_of_2_k (pc' := 24) (lv' := [(1, .int ((ius a1 3) &&& 7)), (0, .int a1)]) (st' := [.int (7 + (a1 &&& 7))]) (σ' := (M, L)) rfl ⟨trivial, trivial, trivial, trivial, trivial, trivial⟩ ?_
    subst h
    exact x_iret C (show decode cX9_of 24 = .ok (.ireturn, 1) from by decide +kernel) (x_finI rfl ⟨⟨rfl, rfl⟩, (x_rgw (x_rg_add (x_rgc (x := 7) (k := 7) (by decide)) (x_rg_and (x := a1) (m := 7) (k := 7) (by decide) (by decide)) (by decide) (by decide)) (lo' := 0) (hi' := 14) (by decide) (by decide)), trivial⟩) (Nat.le_refl 0) (Nat.le_refl 0)
  · rw [if_neg c1] at h
    have g3 : xrg 0 6 ((ius a1 3) &&& 7) := (x_c_nle (x_rgc (x := 7) (k := 7) (by decide)) (x_rg_and (x := (ius a1 3)) (m := 7) (k := 7) (by decide) (by decide)) c1).2
    refine x_run C e_X9_of_3 e_X9_of_3_k (pc' := 14) (lv' := [(1, .int ((ius a1 3) &&& 7)), (0, .int a1)]) (st' := [.int ((ius a1 3) &&& 7)]) (σ' := (M, L)) rfl ⟨trivial, trivial⟩ ?_
    refine x_goto C (show decode cX9_of 14 = .ok (.goto 10, 3) from by decide +kernel) (tgt := 24) (by decide) ?_
    subst h
    exact x_iret C (show decode cX9_of 24 = .ok (.ireturn, 1) from by decide +kernel) (x_finI rfl ⟨⟨rfl, rfl⟩, (x_rgw g3 (lo' := 0) (hi' := 14) (by decide) (by decide)), trivial⟩) (Nat.le_refl 0) (Nat.le_refl 0)
-- X9_isAny
def e_X9_isAny_1 : List xI := [(0, .iload_n 0, 1, .null)]
theorem e_X9_isAny_1_k : e_X9_isAny_1.all (fun q => xokB cX9_isAny q && xokL q) = true := by decide +kernel
def e_X9_isAny_2 : List xI := [(4, .istore_n 2, 1, .null), (5, .iload_n 2, 1, .null), (6, .bipush 11, 2, .int 11)]
theorem e_X9_isAny_2_k : e_X9_isAny_2.all (fun q => xokB cX9_isAny q && xokL q) = true := by decide +kernel
def e_X9_isAny_3 : List xI := [(24, .iconst 0, 1, .int 0)]
theorem e_X9_isAny_3_k : e_X9_isAny_3.all (fun q => xokB cX9_isAny q && xokL q) = true := by decide +kernel
def e_X9_isAny_4 : List xI := [(11, .iload_n 2, 1, .null), (12, .iconst 1, 1, .int 1)]
theorem e_X9_isAny_4_k : e_X9_isAny_4.all (fun q => xokB cX9_isAny q && xokL q) = true := by decide +kernel
def e_X9_isAny_5 : List xI := [(20, .iconst 1, 1, .int 1)]
theorem e_X9_isAny_5_k : e_X9_isAny_5.all (fun q => xokB cX9_isAny q && xokL q) = true := by decide +kernel
def e_X9_isAny_6 : List xI := [(16, .iload_n 1, 1, .null)]
theorem e_X9_isAny_6_k : e_X9_isAny_6.all (fun q => xokB cX9_isAny q && xokL q) = true := by decide +kernel
abbrev P_X9_isAny (r : Int32) (M0 : St) (L : Nat → Nat → Int64) : Option Value → xG → Prop := fun v σ' => PoI r M0 L v σ' ∧ xrg 0 1 r ∧ True
abbrev R_X9_isAny : Room := { frames := 1, cells := 0, slots := 0, locals := 21 }
abbrev C_X9_isAny (l : Launch) (r : Int32) (M0 : St) (L : Nat → Nat → Int64) (V : XJ) : Prop := XC l yX9_isAny.cls yX9_isAny.name cX9_isAny 3 R_X9_isAny 0 0 fl_X9 kc_X9 LAY.length (xfin (some .boolean) LAY (P_X9_isAny r M0 L)) V
def f_X9_isAny (a1 : Int32) (a2 : Int32) : Int32 := (if 11 < (f_X9_of a1) then 0 else (if (f_X9_of a1) = 1 then (if a2 = 0 then 0 else 1) else 1))
set_option maxRecDepth 20000 in
set_option maxHeartbeats 4000000 in
theorem k_X9_isAny (l : Launch) (a1 : Int32) (a2 : Int32) (M : St) (L : Nat → Nat → Int64) : XM l yX9_isAny cX9_isAny 3 (some .boolean) R_X9_isAny LAY [.int a1, .int a2] (M, L) (P_X9_isAny (f_X9_isAny a1 a2) M L) := by
  refine XM.of (by decide) (Nat.le_of_ble_eq_true rfl) LAY_in cl_ok fl_X9_ok kc_X9_ok (fun V C => ?_)
  obtain ⟨r, h⟩ : ∃ r, f_X9_isAny a1 a2 = r := ⟨_, rfl⟩
  rw [h] at C
  change C_X9_isAny l r M L V at C
  unfold f_X9_isAny at h
  show V 0 0 0 [(0, .int a1), (1, .int a2)] [] LAY (M, L)
  refine x_run C e_X9_isAny_1 e_X9_isAny_1_k (pc' := 1) (lv' := [(0, .int a1), (1, .int a2)]) (st' := [.int a1]) (σ' := (M, L)) rfl ⟨trivial, trivial⟩ ?_
  refine x_callS C (rest := []) (avs := [.int a1]) (k_X9_of l a1 M L) yoX9_of ml_X9_11 rfl ⟨Nat.zero_le _, Nat.zero_le _⟩ (show decode cX9_isAny 1 = .ok (.invokestatic 11, 3) from by decide +kernel) rfl (fun v σ' hPo => ?_)
  obtain ⟨⟨rfl, rfl⟩, g2, -⟩ := hPo
  show V 0 0 4 [(0, .int a1), (1, .int a2)] [.int (f_X9_of a1)] LAY (M, L)
  refine x_run C e_X9_isAny_2 e_X9_isAny_2_k (pc' := 8) (lv' := [(2, .int (f_X9_of a1)), (0, .int a1), (1, .int a2)]) (st' := [.int 11, .int (f_X9_of a1)]) (σ' := (M, L)) rfl ⟨trivial, trivial, trivial, trivial⟩ ?_
  refine x_icmp_gt C (show decode cX9_isAny 8 = .ok (.if_icmp .gt 16, 3) from by decide +kernel) (tgt := 24) (by decide) (fun c4 => ?_) (fun c4 => ?_)
  · rw [if_pos c4] at h
    have g5 : xrg 12 14 (f_X9_of a1) := (x_c_lt (x_rgc (x := 11) (k := 11) (by decide)) g2 c4).2
    refine x_run C e_X9_isAny_3 e_X9_isAny_3_k (pc' := 25) (lv' := [(2, .int (f_X9_of a1)), (0, .int a1), (1, .int a2)]) (st' := [.int 0]) (σ' := (M, L)) rfl ⟨trivial, trivial⟩ ?_
    subst h
    exact x_iret C (show decode cX9_isAny 25 = .ok (.ireturn, 1) from by decide +kernel) (x_finI (x_nb (x_rgw (x_rgc (x := 0) (k := 0) (by decide)) (lo' := 0) (hi' := 1) (by decide) (by decide))) ⟨⟨rfl, rfl⟩, (x_rgw (x_rgc (x := 0) (k := 0) (by decide)) (lo' := 0) (hi' := 1) (by decide) (by decide)), trivial⟩) (Nat.le_refl 0) (Nat.le_refl 0)
  · rw [if_neg c4] at h
    have g6 : xrg 0 11 (f_X9_of a1) := (x_c_nlt (x_rgc (x := 11) (k := 11) (by decide)) g2 c4).2
    refine x_run C e_X9_isAny_4 e_X9_isAny_4_k (pc' := 13) (lv' := [(2, .int (f_X9_of a1)), (0, .int a1), (1, .int a2)]) (st' := [.int 1, .int (f_X9_of a1)]) (σ' := (M, L)) rfl ⟨trivial, trivial, trivial⟩ ?_
    refine x_icmp_ne C (show decode cX9_isAny 13 = .ok (.if_icmp .ne 7, 3) from by decide +kernel) (tgt := 20) (by decide) (fun c7 => ?_) (fun c7 => ?_)
    · rw [if_neg c7] at h
      refine x_run C e_X9_isAny_5 e_X9_isAny_5_k (pc' := 21) (lv' := [(2, .int (f_X9_of a1)), (0, .int a1), (1, .int a2)]) (st' := [.int 1]) (σ' := (M, L)) rfl ⟨trivial, trivial⟩ ?_
      refine x_goto C (show decode cX9_isAny 21 = .ok (.goto 4, 3) from by decide +kernel) (tgt := 25) (by decide) ?_
      subst h
      exact x_iret C (show decode cX9_isAny 25 = .ok (.ireturn, 1) from by decide +kernel) (x_finI (x_nb (x_rgw (x_rgc (x := 1) (k := 1) (by decide)) (lo' := 0) (hi' := 1) (by decide) (by decide))) ⟨⟨rfl, rfl⟩, (x_rgw (x_rgc (x := 1) (k := 1) (by decide)) (lo' := 0) (hi' := 1) (by decide) (by decide)), trivial⟩) (Nat.le_refl 0) (Nat.le_refl 0)
    · rw [if_pos c7] at h
      have g8 : xrg 1 1 (f_X9_of a1) := (x_c_eq g6 (x_rgc (x := 1) (k := 1) (by decide)) c7).1
      refine x_run C e_X9_isAny_6 e_X9_isAny_6_k (pc' := 17) (lv' := [(2, .int (f_X9_of a1)), (0, .int a1), (1, .int a2)]) (st' := [.int a2]) (σ' := (M, L)) rfl ⟨trivial, trivial⟩ ?_
      refine x_if_eq C (show decode cX9_isAny 17 = .ok (.ifCond .eq 7, 3) from by decide +kernel) (tgt := 24) (by decide) (fun c9 => ?_) (fun c9 => ?_)
      · rw [if_pos c9] at h
        have g10 : xrg 0 0 a2 := (x_c_eq (x_rgt a2) (x_rgc (x := 0) (k := 0) (by decide)) c9).1
        refine x_run C e_X9_isAny_3 e_X9_isAny_3_k (pc' := 25) (lv' := [(2, .int (f_X9_of a1)), (0, .int a1), (1, .int a2)]) (st' := [.int 0]) (σ' := (M, L)) rfl ⟨trivial, trivial⟩ ?_
        subst h
        exact x_iret C (show decode cX9_isAny 25 = .ok (.ireturn, 1) from by decide +kernel) (x_finI (x_nb (x_rgw (x_rgc (x := 0) (k := 0) (by decide)) (lo' := 0) (hi' := 1) (by decide) (by decide))) ⟨⟨rfl, rfl⟩, (x_rgw (x_rgc (x := 0) (k := 0) (by decide)) (lo' := 0) (hi' := 1) (by decide) (by decide)), trivial⟩) (Nat.le_refl 0) (Nat.le_refl 0)
      · rw [if_neg c9] at h
        refine x_run C e_X9_isAny_5 e_X9_isAny_5_k (pc' := 21) (lv' := [(2, .int (f_X9_of a1)), (0, .int a1), (1, .int a2)]) (st' := [.int 1]) (σ' := (M, L)) rfl ⟨trivial, trivial⟩ ?_
        refine x_goto C (show decode cX9_isAny 21 = .ok (.goto 4, 3) from by decide +kernel) (tgt := 25) (by decide) ?_
        subst h
        exact x_iret C (show decode cX9_isAny 25 = .ok (.ireturn, 1) from by decide +kernel) (x_finI (x_nb (x_rgw (x_rgc (x := 1) (k := 1) (by decide)) (lo' := 0) (hi' := 1) (by decide) (by decide))) ⟨⟨rfl, rfl⟩, (x_rgw (x_rgc (x := 1) (k := 1) (by decide)) (lo' := 0) (hi' := 1) (by decide) (by decide)), trivial⟩) (Nat.le_refl 0) (Nat.le_refl 0)
