-- X3_z
def e_X3_z_1 : List xI := [(0, .aload_n 0, 1, .null), (1, .getfield 9, 3, .null), (4, .bipush 6, 2, .int 6), (6, .iushr, 1, .null), (7, .iconst 3, 1, .int 3), (8, .iand, 1, .null)]
theorem e_X3_z_1_k : e_X3_z_1.all (fun q => xokB cX3_z q && xokL q) = true := by decide +kernel
abbrev P_X3_z (r : Int32) (M0 : St) (L : Nat → Nat → Int64) : Option Value → xG → Prop := fun v σ' => PoI r M0 L v σ' ∧ xrg 0 3 r ∧ InvK INVC M0
abbrev R_X3_z : Room := { frames := 0, cells := 0, slots := 0, locals := 0 }
abbrev C_X3_z (l : Launch) (r : Int32) (M0 : St) (L : Nat → Nat → Int64) (V : XJ) : Prop := XC l yX3_z.cls yX3_z.name cX3_z 1 R_X3_z 0 0 fl_X3 kc_X3 LAY.length (xfin (some .int) LAY (P_X3_z r M0 L)) V
def f_X3_z (M : St) : Int32 := ((ius (M 11 0) 6) &&& 3)
set_option maxRecDepth 20000 in
set_option maxHeartbeats 4000000 in
theorem k_X3_z (l : Launch) (M : St) (L : Nat → Nat → Int64) (hI : InvK INVC M) : XM l yX3_z cX3_z 1 (some .int) R_X3_z LAY [.ref 11] (M, L) (P_X3_z (f_X3_z M) M L) := by
  refine XM.of (by decide) (Nat.le_of_ble_eq_true rfl) LAY_in cl_ok fl_X3_ok kc_X3_ok (fun V C => ?_)
  obtain ⟨r, h⟩ : ∃ r, f_X3_z M = r := ⟨_, rfl⟩
  rw [h] at C
  change C_X3_z l r M L V at C
  unfold f_X3_z at h
  show V 0 0 0 [(0, .ref 11)] [] LAY (M, L)
  refine x_run C e_X3_z_1 e_X3_z_1_k (pc' := 9) (lv' := [(0, .ref 11)]) (st' := [.int ((ius (M 11 0) 6) &&& 3)]) (σ' := (M, L)) rfl ⟨trivial, trivial, trivial, trivial, trivial, trivial, trivial⟩ ?_
  subst h
  exact x_iret C (show decode cX3_z 9 = .ok (.ireturn, 1) from by decide +kernel) (x_finI rfl ⟨⟨rfl, rfl⟩, (x_rg_and (x := (ius (M 11 0) 6)) (m := 3) (k := 3) (by decide) (by decide)), hI⟩) (Nat.le_refl 0) (Nat.le_refl 0)
-- X3_bit8
def e_X3_bit8_1 : List xI := [(0, .aload_n 0, 1, .null), (1, .getfield 9, 3, .null), (4, .bipush 8, 2, .int 8), (6, .iushr, 1, .null), (7, .iconst 1, 1, .int 1), (8, .iand, 1, .null)]
theorem e_X3_bit8_1_k : e_X3_bit8_1.all (fun q => xokB cX3_bit8 q && xokL q) = true := by decide +kernel
abbrev P_X3_bit8 (r : Int32) (M0 : St) (L : Nat → Nat → Int64) : Option Value → xG → Prop := fun v σ' => PoI r M0 L v σ' ∧ xrg 0 1 r ∧ InvK INVC M0
abbrev R_X3_bit8 : Room := { frames := 0, cells := 0, slots := 0, locals := 0 }
abbrev C_X3_bit8 (l : Launch) (r : Int32) (M0 : St) (L : Nat → Nat → Int64) (V : XJ) : Prop := XC l yX3_bit8.cls yX3_bit8.name cX3_bit8 1 R_X3_bit8 0 0 fl_X3 kc_X3 LAY.length (xfin (some .int) LAY (P_X3_bit8 r M0 L)) V
def f_X3_bit8 (M : St) : Int32 := ((ius (M 11 0) 8) &&& 1)
set_option maxRecDepth 20000 in
set_option maxHeartbeats 4000000 in
theorem k_X3_bit8 (l : Launch) (M : St) (L : Nat → Nat → Int64) (hI : InvK INVC M) : XM l yX3_bit8 cX3_bit8 1 (some .int) R_X3_bit8 LAY [.ref 11] (M, L) (P_X3_bit8 (f_X3_bit8 M) M L) := by
  refine XM.of (by decide) (Nat.le_of_ble_eq_true rfl) LAY_in cl_ok fl_X3_ok kc_X3_ok (fun V C => ?_)
  obtain ⟨r, h⟩ : ∃ r, f_X3_bit8 M = r := ⟨_, rfl⟩
  rw [h] at C
  change C_X3_bit8 l r M L V at C
  unfold f_X3_bit8 at h
  show V 0 0 0 [(0, .ref 11)] [] LAY (M, L)
  refine x_run C e_X3_bit8_1 e_X3_bit8_1_k (pc' := 9) (lv' := [(0, .ref 11)]) (st' := [.int ((ius (M 11 0) 8) &&& 1)]) (σ' := (M, L)) rfl ⟨trivial, trivial, trivial, trivial, trivial, trivial, trivial⟩ ?_
  subst h
  exact x_iret C (show decode cX3_bit8 9 = .ok (.ireturn, 1) from by decide +kernel) (x_finI rfl ⟨⟨rfl, rfl⟩, (x_rg_and (x := (ius (M 11 0) 8)) (m := 1) (k := 1) (by decide) (by decide)), hI⟩) (Nat.le_refl 0) (Nat.le_refl 0)
-- X3_withAddress
def e_X3_withAddress_1 : List xI := [(0, .aload_n 0, 1, .null)]
theorem e_X3_withAddress_1_k : e_X3_withAddress_1.all (fun q => xokB cX3_withAddress q && xokL q) = true := by decide +kernel
def e_X3_withAddress_2 : List xI := [(11, .iconst 2, 1, .int 2)]
theorem e_X3_withAddress_2_k : e_X3_withAddress_2.all (fun q => xokB cX3_withAddress q && xokL q) = true := by decide +kernel
def e_X3_withAddress_3 : List xI := [(7, .iconst 1, 1, .int 1)]
theorem e_X3_withAddress_3_k : e_X3_withAddress_3.all (fun q => xokB cX3_withAddress q && xokL q) = true := by decide +kernel
def e_X3_withAddress_4 : List xI := [(12, .istore_n 2, 1, .null), (13, .aload_n 0, 1, .null), (14, .aload_n 1, 1, .null), (15, .aload_n 0, 1, .null)]
theorem e_X3_withAddress_4_k : e_X3_withAddress_4.all (fun q => xokB cX3_withAddress q && xokL q) = true := by decide +kernel
def e_X3_withAddress_5 : List xI := [(19, .bipush 8, 2, .int 8), (21, .aload_n 0, 1, .null)]
theorem e_X3_withAddress_5_k : e_X3_withAddress_5.all (fun q => xokB cX3_withAddress q && xokL q) = true := by decide +kernel
def e_X3_withAddress_6 : List xI := [(25, .iadd, 1, .null), (26, .iload_n 2, 1, .null), (27, .aload_n 0, 1, .null)]
theorem e_X3_withAddress_6_k : e_X3_withAddress_6.all (fun q => xokB cX3_withAddress q && xokL q) = true := by decide +kernel
def e_X3_withAddress_7 : List xI := [(31, .iload_n 2, 1, .null)]
theorem e_X3_withAddress_7_k : e_X3_withAddress_7.all (fun q => xokB cX3_withAddress q && xokL q) = true := by decide +kernel
abbrev P_X3_withAddress (r : Nat × St) (L : Nat → Nat → Int64) : Option Value → xG → Prop := fun v σ' => PoE r.1 r.2 L v σ' ∧ r.1 < 66 ∧ InvK INVC r.2
abbrev R_X3_withAddress : Room := { frames := 2, cells := 0, slots := 0, locals := 43 }
abbrev C_X3_withAddress (l : Launch) (r : Nat × St) (L : Nat → Nat → Int64) (V : XJ) : Prop := XC l yX3_withAddress.cls yX3_withAddress.name cX3_withAddress 3 R_X3_withAddress 0 0 fl_X3 kc_X3 LAY.length (xfin (some (.object "SupervisorMachine$Op")) LAY (P_X3_withAddress r L)) V
def f_X3_withAddress_12 (x1 : Nat) (s0 : Int32) (M : St) : Nat × St := (xb (f_X3_pair x1 (f_X3_operand  M) (8 + (f_X3_upperRegister  M)) s0 (f_X9_isAny (f_X3_operand  M) s0) M) fun q19 => (q19.1, q19.2))
def f_X3_withAddress (a1 : Nat) (M : St) : Nat × St := (if (f_X3_bit8  M) = 0 then f_X3_withAddress_12 a1 1 M else f_X3_withAddress_12 a1 2 M)
set_option maxRecDepth 20000 in
set_option maxHeartbeats 4000000 in
theorem b_X3_withAddress_12 {l : Launch} {L : Nat → Nat → Int64} {V : XJ} (r : Nat × St) (C : C_X3_withAddress l r L V) (x1 : Nat) (s0 : Int32) (M : St) (bdx1 : x1 < 66) (ws0 : xrg 1 2 s0) (hI : InvK INVC M) (h : f_X3_withAddress_12 x1 s0 M = r) : V 0 0 12 [(0, .ref 11), (1, .ref (1000 + x1))] [.int s0] LAY (M, L) := by
  unfold f_X3_withAddress_12 at h
  refine x_run C e_X3_withAddress_4 e_X3_withAddress_4_k (pc' := 16) (lv' := [(2, .int s0), (0, .ref 11), (1, .ref (1000 + x1))]) (st' := [.ref 11, .ref (1000 + x1), .ref 11]) (σ' := (M, L)) rfl ⟨trivial, trivial, trivial, trivial, trivial⟩ ?_
  refine x_callV C (k := 11) (ci := 2) (rest := [.ref (1000 + x1), .ref 11]) (avs := []) (k_X3_operand l  M L hI) yoX3_operand ml_X3_111 rfl rfl rfl rfl ⟨Nat.zero_le _, Nat.zero_le _⟩ (show decode cX3_withAddress 16 = .ok (.invokevirtual 111, 3) from by decide +kernel) rfl (fun v σ' hPo => ?_)
  obtain ⟨⟨rfl, rfl⟩, g8, hI9⟩ := hPo
  show V 0 0 19 [(2, .int s0), (0, .ref 11), (1, .ref (1000 + x1))] [.int (f_X3_operand  M), .ref (1000 + x1), .ref 11] LAY (M, L)
  refine x_run C e_X3_withAddress_5 e_X3_withAddress_5_k (pc' := 22) (lv' := [(2, .int s0), (0, .ref 11), (1, .ref (1000 + x1))]) (st' := [.ref 11, .int 8, .int (f_X3_operand  M), .ref (1000 + x1), .ref 11]) (σ' := (M, L)) rfl ⟨trivial, trivial, trivial⟩ ?_
  refine x_callV C (k := 11) (ci := 2) (rest := [.int 8, .int (f_X3_operand  M), .ref (1000 + x1), .ref 11]) (avs := []) (k_X3_upperRegister l  M L hI) yoX3_upperRegister ml_X3_141 rfl rfl rfl rfl ⟨Nat.zero_le _, Nat.zero_le _⟩ (show decode cX3_withAddress 22 = .ok (.invokevirtual 141, 3) from by decide +kernel) rfl (fun v σ' hPo => ?_)
  obtain ⟨⟨rfl, rfl⟩, g11, hI12⟩ := hPo
  show V 0 0 25 [(2, .int s0), (0, .ref 11), (1, .ref (1000 + x1))] [.int (f_X3_upperRegister  M), .int 8, .int (f_X3_operand  M), .ref (1000 + x1), .ref 11] LAY (M, L)
  refine x_run C e_X3_withAddress_6 e_X3_withAddress_6_k (pc' := 28) (lv' := [(2, .int s0), (0, .ref 11), (1, .ref (1000 + x1))]) (st' := [.ref 11, .int s0, .int (8 + (f_X3_upperRegister  M)), .int (f_X3_operand  M), .ref (1000 + x1), .ref 11]) (σ' := (M, L)) rfl ⟨trivial, trivial, trivial, trivial⟩ ?_
  refine x_callV C (k := 11) (ci := 2) (rest := [.int s0, .int (8 + (f_X3_upperRegister  M)), .int (f_X3_operand  M), .ref (1000 + x1), .ref 11]) (avs := []) (k_X3_operand l  M L hI) yoX3_operand ml_X3_111 rfl rfl rfl rfl ⟨Nat.zero_le _, Nat.zero_le _⟩ (show decode cX3_withAddress 28 = .ok (.invokevirtual 111, 3) from by decide +kernel) rfl (fun v σ' hPo => ?_)
  obtain ⟨⟨rfl, rfl⟩, g14, hI15⟩ := hPo
  show V 0 0 31 [(2, .int s0), (0, .ref 11), (1, .ref (1000 + x1))] [.int (f_X3_operand  M), .int s0, .int (8 + (f_X3_upperRegister  M)), .int (f_X3_operand  M), .ref (1000 + x1), .ref 11] LAY (M, L)
  refine x_run C e_X3_withAddress_7 e_X3_withAddress_7_k (pc' := 32) (lv' := [(2, .int s0), (0, .ref 11), (1, .ref (1000 + x1))]) (st' := [.int s0, .int (f_X3_operand  M), .int s0, .int (8 + (f_X3_upperRegister  M)), .int (f_X3_operand  M), .ref (1000 + x1), .ref 11]) (σ' := (M, L)) rfl ⟨trivial, trivial⟩ ?_
  refine x_callS C (rest := [.int s0, .int (8 + (f_X3_upperRegister  M)), .int (f_X3_operand  M), .ref (1000 + x1), .ref 11]) (avs := [.int (f_X3_operand  M), .int s0]) (k_X9_isAny l (f_X3_operand  M) s0 M L) yoX9_isAny ml_X3_118 rfl ⟨Nat.zero_le _, Nat.zero_le _⟩ (show decode cX3_withAddress 32 = .ok (.invokestatic 118, 3) from by decide +kernel) rfl (fun v σ' hPo => ?_)
  obtain ⟨⟨rfl, rfl⟩, g17, -⟩ := hPo
  show V 0 0 35 [(2, .int s0), (0, .ref 11), (1, .ref (1000 + x1))] [.int (f_X9_isAny (f_X3_operand  M) s0), .int s0, .int (8 + (f_X3_upperRegister  M)), .int (f_X3_operand  M), .ref (1000 + x1), .ref 11] LAY (M, L)
  refine x_callV C (k := 11) (ci := 2) (rest := []) (avs := [.ref (1000 + x1), .int (f_X3_operand  M), .int (8 + (f_X3_upperRegister  M)), .int s0, .int (f_X9_isAny (f_X3_operand  M) s0)]) (k_X3_pair l x1 (f_X3_operand  M) (8 + (f_X3_upperRegister  M)) s0 (f_X9_isAny (f_X3_operand  M) s0) M L bdx1 hI) yoX3_pair ml_X3_114 rfl rfl rfl rfl ⟨Nat.zero_le _, Nat.zero_le _⟩ (show decode cX3_withAddress 35 = .ok (.invokevirtual 114, 3) from by decide +kernel) rfl (fun v σ' hPo => ?_)
  obtain ⟨⟨rfl, rfl⟩, g20, hI21⟩ := hPo
  generalize hq19 : f_X3_pair x1 (f_X3_operand  M) (8 + (f_X3_upperRegister  M)) s0 (f_X9_isAny (f_X3_operand  M) s0) M = q19 at h g20 hI21 ⊢
  obtain ⟨r19, M19⟩ := q19
  have h := xb_eq h
  try dsimp only at h g20 hI21
  show V 0 0 38 [(2, .int s0), (0, .ref 11), (1, .ref (1000 + x1))] [.ref (1000 + r19)] LAY (M19, L)
  subst h
  exact x_aret C (show decode cX3_withAddress 38 = .ok (.areturn, 1) from by decide +kernel) (x_finE ⟨⟨rfl, rfl⟩, g20, hI21⟩) (Nat.le_refl 0) (Nat.le_refl 0)
set_option maxRecDepth 20000 in
set_option maxHeartbeats 4000000 in
theorem k_X3_withAddress (l : Launch) (a1 : Nat) (M : St) (L : Nat → Nat → Int64) (hb1 : a1 < 66) (hI : InvK INVC M) : XM l yX3_withAddress cX3_withAddress 3 (some (.object "SupervisorMachine$Op")) R_X3_withAddress LAY [.ref 11, .ref (1000 + a1)] (M, L) (P_X3_withAddress (f_X3_withAddress a1 M) L) := by
  refine XM.of (by decide) (Nat.le_of_ble_eq_true rfl) LAY_in cl_ok fl_X3_ok kc_X3_ok (fun V C => ?_)
  obtain ⟨r, h⟩ : ∃ r, f_X3_withAddress a1 M = r := ⟨_, rfl⟩
  rw [h] at C
  change C_X3_withAddress l r L V at C
  unfold f_X3_withAddress at h
  show V 0 0 0 [(0, .ref 11), (1, .ref (1000 + a1))] [] LAY (M, L)
  refine x_run C e_X3_withAddress_1 e_X3_withAddress_1_k (pc' := 1) (lv' := [(0, .ref 11), (1, .ref (1000 + a1))]) (st' := [.ref 11]) (σ' := (M, L)) rfl ⟨trivial, trivial⟩ ?_
  refine x_callV C (k := 11) (ci := 2) (rest := []) (avs := []) (k_X3_bit8 l  M L hI) yoX3_bit8 ml_X3_80 rfl rfl rfl rfl ⟨Nat.zero_le _, Nat.zero_le _⟩ (show decode cX3_withAddress 1 = .ok (.invokevirtual 80, 3) from by decide +kernel) rfl (fun v σ' hPo => ?_)
  obtain ⟨⟨rfl, rfl⟩, g2, hI3⟩ := hPo
  show V 0 0 4 [(0, .ref 11), (1, .ref (1000 + a1))] [.int (f_X3_bit8  M)] LAY (M, L)
  refine x_if_ne C (show decode cX3_withAddress 4 = .ok (.ifCond .ne 7, 3) from by decide +kernel) (tgt := 11) (by decide) (fun c4 => ?_) (fun c4 => ?_)
  · rw [if_neg c4] at h
    have g5 : xrg 1 1 (f_X3_bit8  M) := (x_c_ne g2 (by decide) c4)
    refine x_run C e_X3_withAddress_2 e_X3_withAddress_2_k (pc' := 12) (lv' := [(0, .ref 11), (1, .ref (1000 + a1))]) (st' := [.int 2]) (σ' := (M, L)) rfl ⟨trivial, trivial⟩ ?_
    exact b_X3_withAddress_12 r C a1 2 M hb1 (x_rgw (x_rgc (x := 2) (k := 2) (by decide)) (lo' := 1) (hi' := 2) (by decide) (by decide)) hI h
  · rw [if_pos c4] at h
    have g6 : xrg 0 0 (f_X3_bit8  M) := (x_c_eq g2 (x_rgc (x := 0) (k := 0) (by decide)) c4).1
    refine x_run C e_X3_withAddress_3 e_X3_withAddress_3_k (pc' := 8) (lv' := [(0, .ref 11), (1, .ref (1000 + a1))]) (st' := [.int 1]) (σ' := (M, L)) rfl ⟨trivial, trivial⟩ ?_
    refine x_goto C (show decode cX3_withAddress 8 = .ok (.goto 4, 3) from by decide +kernel) (tgt := 12) (by decide) ?_
    exact b_X3_withAddress_12 r C a1 1 M hb1 (x_rgw (x_rgc (x := 1) (k := 1) (by decide)) (lo' := 1) (hi' := 2) (by decide) (by decide)) hI h
-- X9_before
def e_X9_before_1 : List xI := [(0, .bipush 32, 2, .int 32), (2, .iload_n 0, 1, .null), (3, .ior, 1, .null)]
theorem e_X9_before_1_k : e_X9_before_1.all (fun q => xokB cX9_before q && xokL q) = true := by decide +kernel
abbrev P_X9_before (r : Int32) (M0 : St) (L : Nat → Nat → Int64) : Option Value → xG → Prop := fun v σ' => PoI r M0 L v σ' ∧ True ∧ True
abbrev R_X9_before : Room := { frames := 0, cells := 0, slots := 0, locals := 0 }
abbrev C_X9_before (l : Launch) (r : Int32) (M0 : St) (L : Nat → Nat → Int64) (V : XJ) : Prop := XC l yX9_before.cls yX9_before.name cX9_before 1 R_X9_before 0 0 fl_X9 kc_X9 LAY.length (xfin (some .int) LAY (P_X9_before r M0 L)) V
def f_X9_before (a1 : Int32) : Int32 := (32 ||| a1)
set_option maxRecDepth 20000 in
set_option maxHeartbeats 4000000 in
theorem k_X9_before (l : Launch) (a1 : Int32) (M : St) (L : Nat → Nat → Int64) : XM l yX9_before cX9_before 1 (some .int) R_X9_before LAY [.int a1] (M, L) (P_X9_before (f_X9_before a1) M L) := by
  refine XM.of (by decide) (Nat.le_of_ble_eq_true rfl) LAY_in cl_ok fl_X9_ok kc_X9_ok (fun V C => ?_)
  obtain ⟨r, h⟩ : ∃ r, f_X9_before a1 = r := ⟨_, rfl⟩
  rw [h] at C
  change C_X9_before l r M L V at C
  unfold f_X9_before at h
  show V 0 0 0 [(0, .int a1)] [] LAY (M, L)
  refine x_run C e_X9_before_1 e_X9_before_1_k (pc' := 4) (lv' := [(0, .int a1)]) (st' := [.int (32 ||| a1)]) (σ' := (M, L)) rfl ⟨trivial, trivial, trivial, trivial⟩ ?_
  subst h
  exact x_iret C (show decode cX9_before 4 = .ok (.ireturn, 1) from by decide +kernel) (x_finI rfl ⟨⟨rfl, rfl⟩, trivial, trivial⟩) (Nat.le_refl 0) (Nat.le_refl 0)
-- X9_isOpenMemory
def e_X9_isOpenMemory_1 : List xI := [(0, .iload_n 0, 1, .null)]
theorem e_X9_isOpenMemory_1_k : e_X9_isOpenMemory_1.all (fun q => xokB cX9_isOpenMemory q && xokL q) = true := by decide +kernel
def e_X9_isOpenMemory_2 : List xI := [(4, .istore_n 1, 1, .null), (5, .iload_n 1, 1, .null), (6, .bipush 8, 2, .int 8)]
theorem e_X9_isOpenMemory_2_k : e_X9_isOpenMemory_2.all (fun q => xokB cX9_isOpenMemory q && xokL q) = true := by decide +kernel
def e_X9_isOpenMemory_3 : List xI := [(20, .iconst 0, 1, .int 0)]
theorem e_X9_isOpenMemory_3_k : e_X9_isOpenMemory_3.all (fun q => xokB cX9_isOpenMemory q && xokL q) = true := by decide +kernel
def e_X9_isOpenMemory_4 : List xI := [(11, .iload_n 1, 1, .null), (12, .iconst 1, 1, .int 1)]
theorem e_X9_isOpenMemory_4_k : e_X9_isOpenMemory_4.all (fun q => xokB cX9_isOpenMemory q && xokL q) = true := by decide +kernel
def e_X9_isOpenMemory_5 : List xI := [(16, .iconst 1, 1, .int 1)]
theorem e_X9_isOpenMemory_5_k : e_X9_isOpenMemory_5.all (fun q => xokB cX9_isOpenMemory q && xokL q) = true := by decide +kernel
abbrev P_X9_isOpenMemory (r : Int32) (M0 : St) (L : Nat → Nat → Int64) : Option Value → xG → Prop := fun v σ' => PoI r M0 L v σ' ∧ xrg 0 1 r ∧ True
abbrev R_X9_isOpenMemory : Room := { frames := 1, cells := 0, slots := 0, locals := 21 }
abbrev C_X9_isOpenMemory (l : Launch) (r : Int32) (M0 : St) (L : Nat → Nat → Int64) (V : XJ) : Prop := XC l yX9_isOpenMemory.cls yX9_isOpenMemory.name cX9_isOpenMemory 2 R_X9_isOpenMemory 0 0 fl_X9 kc_X9 LAY.length (xfin (some .boolean) LAY (P_X9_isOpenMemory r M0 L)) V
def f_X9_isOpenMemory (a1 : Int32) : Int32 := (if 8 < (f_X9_of a1) then 0 else (if (f_X9_of a1) ≤ 1 then 0 else 1))
set_option maxRecDepth 20000 in
set_option maxHeartbeats 4000000 in
theorem k_X9_isOpenMemory (l : Launch) (a1 : Int32) (M : St) (L : Nat → Nat → Int64) : XM l yX9_isOpenMemory cX9_isOpenMemory 2 (some .boolean) R_X9_isOpenMemory LAY [.int a1] (M, L) (P_X9_isOpenMemory (f_X9_isOpenMemory a1) M L) := by
  refine XM.of (by decide) (Nat.le_of_ble_eq_true rfl) LAY_in cl_ok fl_X9_ok kc_X9_ok (fun V C => ?_)
  obtain ⟨r, h⟩ : ∃ r, f_X9_isOpenMemory a1 = r := ⟨_, rfl⟩
  rw [h] at C
  change C_X9_isOpenMemory l r M L V at C
  unfold f_X9_isOpenMemory at h
  show V 0 0 0 [(0, .int a1)] [] LAY (M, L)
  refine x_run C e_X9_isOpenMemory_1 e_X9_isOpenMemory_1_k (pc' := 1) (lv' := [(0, .int a1)]) (st' := [.int a1]) (σ' := (M, L)) rfl ⟨trivial, trivial⟩ ?_
  refine x_callS C (rest := []) (avs := [.int a1]) (k_X9_of l a1 M L) yoX9_of ml_X9_11 rfl ⟨Nat.zero_le _, Nat.zero_le _⟩ (show decode cX9_isOpenMemory 1 = .ok (.invokestatic 11, 3) from by decide +kernel) rfl (fun v σ' hPo => ?_)
  obtain ⟨⟨rfl, rfl⟩, g2, -⟩ := hPo
  show V 0 0 4 [(0, .int a1)] [.int (f_X9_of a1)] LAY (M, L)
  refine x_run C e_X9_isOpenMemory_2 e_X9_isOpenMemory_2_k (pc' := 8) (lv' := [(1, .int (f_X9_of a1)), (0, .int a1)]) (st' := [.int 8, .int (f_X9_of a1)]) (σ' := (M, L)) rfl ⟨trivial, trivial, trivial, trivial⟩ ?_
  refine x_icmp_gt C (show decode cX9_isOpenMemory 8 = .ok (.if_icmp .gt 12, 3) from by decide +kernel) (tgt := 20) (by decide) (fun c4 => ?_) (fun c4 => ?_)
  · rw [if_pos c4] at h
    have g5 : xrg 9 14 (f_X9_of a1) := (x_c_lt (x_rgc (x := 8) (k := 8) (by decide)) g2 c4).2
    refine x_run C e_X9_isOpenMemory_3 e_X9_isOpenMemory_3_k (pc' := 21) (lv' := [(1, .int (f_X9_of a1)), (0, .int a1)]) (st' := [.int 0]) (σ' := (M, L)) rfl ⟨trivial, trivial⟩ ?_
    subst h
    exact x_iret C (show decode cX9_isOpenMemory 21 = .ok (.ireturn, 1) from by decide +kernel) (x_finI (x_nb (x_rgw (x_rgc (x := 0) (k := 0) (by decide)) (lo' := 0) (hi' := 1) (by decide) (by decide))) ⟨⟨rfl, rfl⟩, (x_rgw (x_rgc (x := 0) (k := 0) (by decide)) (lo' := 0) (hi' := 1) (by decide) (by decide)), trivial⟩) (Nat.le_refl 0) (Nat.le_refl 0)
  · rw [if_neg c4] at h
    have g6 : xrg 0 8 (f_X9_of a1) := (x_c_nlt (x_rgc (x := 8) (k := 8) (by decide)) g2 c4).2
    refine x_run C e_X9_isOpenMemory_4 e_X9_isOpenMemory_4_k (pc' := 13) (lv' := [(1, .int (f_X9_of a1)), (0, .int a1)]) (st' := [.int 1, .int (f_X9_of a1)]) (σ' := (M, L)) rfl ⟨trivial, trivial, trivial⟩ ?_
    refine x_icmp_le C (show decode cX9_isOpenMemory 13 = .ok (.if_icmp .le 7, 3) from by decide +kernel) (tgt := 20) (by decide) (fun c7 => ?_) (fun c7 => ?_)
    · rw [if_pos c7] at h
      have g8 : xrg 0 1 (f_X9_of a1) := (x_c_le g6 (x_rgc (x := 1) (k := 1) (by decide)) c7).1
      refine x_run C e_X9_isOpenMemory_3 e_X9_isOpenMemory_3_k (pc' := 21) (lv' := [(1, .int (f_X9_of a1)), (0, .int a1)]) (st' := [.int 0]) (σ' := (M, L)) rfl ⟨trivial, trivial⟩ ?_
      subst h
      exact x_iret C (show decode cX9_isOpenMemory 21 = .ok (.ireturn, 1) from by decide +kernel) (x_finI (x_nb (x_rgw (x_rgc (x := 0) (k := 0) (by decide)) (lo' := 0) (hi' := 1) (by decide) (by decide))) ⟨⟨rfl, rfl⟩, (x_rgw (x_rgc (x := 0) (k := 0) (by decide)) (lo' := 0) (hi' := 1) (by decide) (by decide)), trivial⟩) (Nat.le_refl 0) (Nat.le_refl 0)
    · rw [if_neg c7] at h
      have g9 : xrg 2 8 (f_X9_of a1) := (x_c_nle g6 (x_rgc (x := 1) (k := 1) (by decide)) c7).1
      refine x_run C e_X9_isOpenMemory_5 e_X9_isOpenMemory_5_k (pc' := 17) (lv' := [(1, .int (f_X9_of a1)), (0, .int a1)]) (st' := [.int 1]) (σ' := (M, L)) rfl ⟨trivial, trivial⟩ ?_
      refine x_goto C (show decode cX9_isOpenMemory 17 = .ok (.goto 4, 3) from by decide +kernel) (tgt := 21) (by decide) ?_
      subst h
      exact x_iret C (show decode cX9_isOpenMemory 21 = .ok (.ireturn, 1) from by decide +kernel) (x_finI (x_nb (x_rgw (x_rgc (x := 1) (k := 1) (by decide)) (lo' := 0) (hi' := 1) (by decide) (by decide))) ⟨⟨rfl, rfl⟩, (x_rgw (x_rgc (x := 1) (k := 1) (by decide)) (lo' := 0) (hi' := 1) (by decide) (by decide)), trivial⟩) (Nat.le_refl 0) (Nat.le_refl 0)
-- X3_summing
def e_X3_summing_1 : List xI := [(0, .aload_n 0, 1, .null)]
theorem e_X3_summing_1_k : e_X3_summing_1.all (fun q => xokB cX3_summing q && xokL q) = true := by decide +kernel
def e_X3_summing_2 : List xI := [(4, .istore 4, 2, .null), (6, .aload_n 0, 1, .null)]
theorem e_X3_summing_2_k : e_X3_summing_2.all (fun q => xokB cX3_summing q && xokL q) = true := by decide +kernel
def e_X3_summing_3 : List xI := [(10, .iconst 3, 1, .int 3)]
theorem e_X3_summing_3_k : e_X3_summing_3.all (fun q => xokB cX3_summing q && xokL q) = true := by decide +kernel
def e_X3_summing_4 : List xI := [(20, .aload_n 0, 1, .null)]
theorem e_X3_summing_4_k : e_X3_summing_4.all (fun q => xokB cX3_summing q && xokL q) = true := by decide +kernel
def e_X3_summing_5 : List xI := [(54, .aload_n 0, 1, .null)]
theorem e_X3_summing_5_k : e_X3_summing_5.all (fun q => xokB cX3_summing q && xokL q) = true := by decide +kernel
def e_X3_summing_6 : List xI := [(84, .aload_n 0, 1, .null), (85, .aload_n 2, 1, .null), (86, .aload_n 0, 1, .null)]
theorem e_X3_summing_6_k : e_X3_summing_6.all (fun q => xokB cX3_summing q && xokL q) = true := by decide +kernel
def e_X3_summing_7 : List xI := [(90, .iload 4, 2, .null), (92, .aload_n 0, 1, .null)]
theorem e_X3_summing_7_k : e_X3_summing_7.all (fun q => xokB cX3_summing q && xokL q) = true := by decide +kernel
def e_X3_summing_8 : List xI := [(96, .iconst 1, 1, .int 1)]
theorem e_X3_summing_8_k : e_X3_summing_8.all (fun q => xokB cX3_summing q && xokL q) = true := by decide +kernel
def e_X3_summing_9 : List xI := [(101, .aload_n 0, 1, .null), (102, .aload_n 2, 1, .null), (103, .aload_n 0, 1, .null)]
theorem e_X3_summing_9_k : e_X3_summing_9.all (fun q => xokB cX3_summing q && xokL q) = true := by decide +kernel
def e_X3_summing_10 : List xI := [(110, .iload 4, 2, .null)]
theorem e_X3_summing_10_k : e_X3_summing_10.all (fun q => xokB cX3_summing q && xokL q) = true := by decide +kernel
def e_X3_summing_11 : List xI := [(115, .aload_n 0, 1, .null)]
theorem e_X3_summing_11_k : e_X3_summing_11.all (fun q => xokB cX3_summing q && xokL q) = true := by decide +kernel
def e_X3_summing_12 : List xI := [(119, .iconst 1, 1, .int 1)]
theorem e_X3_summing_12_k : e_X3_summing_12.all (fun q => xokB cX3_summing q && xokL q) = true := by decide +kernel
def e_X3_summing_13 : List xI := [(124, .aload_n 0, 1, .null), (125, .aload_n 1, 1, .null), (126, .iload 4, 2, .null), (128, .aload_n 0, 1, .null)]
theorem e_X3_summing_13_k : e_X3_summing_13.all (fun q => xokB cX3_summing q && xokL q) = true := by decide +kernel
def e_X3_summing_14 : List xI := [(132, .aload_n 0, 1, .null)]
theorem e_X3_summing_14_k : e_X3_summing_14.all (fun q => xokB cX3_summing q && xokL q) = true := by decide +kernel
def e_X3_summing_15 : List xI := [(136, .aload_n 0, 1, .null)]
theorem e_X3_summing_15_k : e_X3_summing_15.all (fun q => xokB cX3_summing q && xokL q) = true := by decide +kernel
def e_X3_summing_16 : List xI := [(27, .aload_n 0, 1, .null), (28, .aload_n 1, 1, .null), (29, .aload_n 0, 1, .null)]
theorem e_X3_summing_16_k : e_X3_summing_16.all (fun q => xokB cX3_summing q && xokL q) = true := by decide +kernel
def e_X3_summing_17 : List xI := [(33, .iload 4, 2, .null), (35, .aload_n 0, 1, .null)]
theorem e_X3_summing_17_k : e_X3_summing_17.all (fun q => xokB cX3_summing q && xokL q) = true := by decide +kernel
def e_X3_summing_18 : List xI := [(39, .aload_n 0, 1, .null)]
theorem e_X3_summing_18_k : e_X3_summing_18.all (fun q => xokB cX3_summing q && xokL q) = true := by decide +kernel
def e_X3_summing_19 : List xI := [(43, .aload_n 0, 1, .null)]
theorem e_X3_summing_19_k : e_X3_summing_19.all (fun q => xokB cX3_summing q && xokL q) = true := by decide +kernel
def e_X3_summing_20 : List xI := [(14, .aload_n 0, 1, .null), (15, .aload_n 3, 1, .null)]
theorem e_X3_summing_20_k : e_X3_summing_20.all (fun q => xokB cX3_summing q && xokL q) = true := by decide +kernel
abbrev P_X3_summing (r : Nat × St) (L : Nat → Nat → Int64) : Option Value → xG → Prop := fun v σ' => PoE r.1 r.2 L v σ' ∧ r.1 < 66 ∧ InvK INVC r.2
abbrev R_X3_summing : Room := { frames := 3, cells := 0, slots := 0, locals := 65 }
abbrev C_X3_summing (l : Launch) (r : Nat × St) (L : Nat → Nat → Int64) (V : XJ) : Prop := XC l yX3_summing.cls yX3_summing.name cX3_summing 5 R_X3_summing 0 0 fl_X3 kc_X3 LAY.length (xfin (some (.object "SupervisorMachine$Op")) LAY (P_X3_summing r L)) V
def f_X3_summing (a1 : Nat) (a2 : Nat) (a3 : Nat) (M : St) : Nat × St := (if (f_X3_z  M) = 3 then (xb (f_X3_withAddress a3 M) fun q78 => (q78.1, q78.2)) else (if (f_X3_bit8  M) = 0 then (xb (f_X3_pair a1 (f_X3_operand  M) (f_X3_upperRegister  M) (f_X3_z  M) (f_X9_isAny (f_X3_operand  M) (f_X3_z  M)) M) fun q74 => (q74.1, q74.2)) else (if (f_X3_mode  M) = 0 then (xb (f_X3_pair a2 (f_X3_lowerRegister  M) (f_X3_upperRegister  M) (f_X3_z  M) 1 M) fun q24 => (q24.1, q24.2)) else (if (f_X3_mode  M) = 1 then (xb (f_X3_pair a2 (f_X9_before (f_X3_lowerRegister  M)) (f_X9_before (f_X3_upperRegister  M)) (f_X3_z  M) 1 M) fun q40 => (q40.1, q40.2)) else (xb (f_X3_pair a1 (f_X3_upperRegister  M) (f_X3_operand  M) (f_X3_z  M) (f_X9_isOpenMemory (f_X3_operand  M)) M) fun q55 => (q55.1, q55.2))))))
set_option maxRecDepth 20000 in
set_option maxHeartbeats 4000000 in
theorem k_X3_summing (l : Launch) (a1 : Nat) (a2 : Nat) (a3 : Nat) (M : St) (L : Nat → Nat → Int64) (hb1 : a1 < 66) (hb2 : a2 < 66) (hb3 : a3 < 66) (hI : InvK INVC M) : XM l yX3_summing cX3_summing 5 (some (.object "SupervisorMachine$Op")) R_X3_summing LAY [.ref 11, .ref (1000 + a1), .ref (1000 + a2), .ref (1000 + a3)] (M, L) (P_X3_summing (f_X3_summing a1 a2 a3 M) L) := by
  refine XM.of (by decide) (Nat.le_of_ble_eq_true rfl) LAY_in cl_ok fl_X3_ok kc_X3_ok (fun V C => ?_)
  obtain ⟨r, h⟩ : ∃ r, f_X3_summing a1 a2 a3 M = r := ⟨_, rfl⟩
  rw [h] at C
  change C_X3_summing l r L V at C
  unfold f_X3_summing at h
  show V 0 0 0 [(0, .ref 11), (1, .ref (1000 + a1)), (2, .ref (1000 + a2)), (3, .ref (1000 + a3))] [] LAY (M, L)
  refine x_run C e_X3_summing_1 e_X3_summing_1_k (pc' := 1) (lv' := [(0, .ref 11), (1, .ref (1000 + a1)), (2, .ref (1000 + a2)), (3, .ref (1000 + a3))]) (st' := [.ref 11]) (σ' := (M, L)) rfl ⟨trivial, trivial⟩ ?_
  refine x_callV C (k := 11) (ci := 2) (rest := []) (avs := []) (k_X3_upperRegister l  M L hI) yoX3_upperRegister ml_X3_141 rfl rfl rfl rfl ⟨Nat.zero_le _, Nat.zero_le _⟩ (show decode cX3_summing 1 = .ok (.invokevirtual 141, 3) from by decide +kernel) rfl (fun v σ' hPo => ?_)
  obtain ⟨⟨rfl, rfl⟩, g2, hI3⟩ := hPo
  show V 0 0 4 [(0, .ref 11), (1, .ref (1000 + a1)), (2, .ref (1000 + a2)), (3, .ref (1000 + a3))] [.int (f_X3_upperRegister  M)] LAY (M, L)
  refine x_run C e_X3_summing_2 e_X3_summing_2_k (pc' := 7) (lv' := [(4, .int (f_X3_upperRegister  M)), (0, .ref 11), (1, .ref (1000 + a1)), (2, .ref (1000 + a2)), (3, .ref (1000 + a3))]) (st' := [.ref 11]) (σ' := (M, L)) rfl ⟨trivial, trivial, trivial⟩ ?_
  refine x_callV C (k := 11) (ci := 2) (rest := []) (avs := []) (k_X3_z l  M L hI) yoX3_z ml_X3_144 rfl rfl rfl rfl ⟨Nat.zero_le _, Nat.zero_le _⟩ (show decode cX3_summing 7 = .ok (.invokevirtual 144, 3) from by decide +kernel) rfl (fun v σ' hPo => ?_)
  obtain ⟨⟨rfl, rfl⟩, g5, hI6⟩ := hPo
  show V 0 0 10 [(4, .int (f_X3_upperRegister  M)), (0, .ref 11), (1, .ref (1000 + a1)), (2, .ref (1000 + a2)), (3, .ref (1000 + a3))] [.int (f_X3_z  M)] LAY (M, L)
  refine x_run C e_X3_summing_3 e_X3_summing_3_k (pc' := 11) (lv' := [(4, .int (f_X3_upperRegister  M)), (0, .ref 11), (1, .ref (1000 + a1)), (2, .ref (1000 + a2)), (3, .ref (1000 + a3))]) (st' := [.int 3, .int (f_X3_z  M)]) (σ' := (M, L)) rfl ⟨trivial, trivial⟩ ?_
  refine x_icmp_ne C (show decode cX3_summing 11 = .ok (.if_icmp .ne 9, 3) from by decide +kernel) (tgt := 20) (by decide) (fun c7 => ?_) (fun c7 => ?_)
  · rw [if_neg c7] at h
    have g8 : xrg 0 2 (f_X3_z  M) := (x_c_neh g5 (by decide) c7)
    refine x_run C e_X3_summing_4 e_X3_summing_4_k (pc' := 21) (lv' := [(4, .int (f_X3_upperRegister  M)), (0, .ref 11), (1, .ref (1000 + a1)), (2, .ref (1000 + a2)), (3, .ref (1000 + a3))]) (st' := [.ref 11]) (σ' := (M, L)) rfl ⟨trivial, trivial⟩ ?_
    refine x_callV C (k := 11) (ci := 2) (rest := []) (avs := []) (k_X3_bit8 l  M L hI) yoX3_bit8 ml_X3_80 rfl rfl rfl rfl ⟨Nat.zero_le _, Nat.zero_le _⟩ (show decode cX3_summing 21 = .ok (.invokevirtual 80, 3) from by decide +kernel) rfl (fun v σ' hPo => ?_)
    obtain ⟨⟨rfl, rfl⟩, g10, hI11⟩ := hPo
    show V 0 0 24 [(4, .int (f_X3_upperRegister  M)), (0, .ref 11), (1, .ref (1000 + a1)), (2, .ref (1000 + a2)), (3, .ref (1000 + a3))] [.int (f_X3_bit8  M)] LAY (M, L)
    refine x_if_ne C (show decode cX3_summing 24 = .ok (.ifCond .ne 30, 3) from by decide +kernel) (tgt := 54) (by decide) (fun c12 => ?_) (fun c12 => ?_)
    · rw [if_neg c12] at h
      have g13 : xrg 1 1 (f_X3_bit8  M) := (x_c_ne g10 (by decide) c12)
      refine x_run C e_X3_summing_5 e_X3_summing_5_k (pc' := 55) (lv' := [(4, .int (f_X3_upperRegister  M)), (0, .ref 11), (1, .ref (1000 + a1)), (2, .ref (1000 + a2)), (3, .ref (1000 + a3))]) (st' := [.ref 11]) (σ' := (M, L)) rfl ⟨trivial, trivial⟩ ?_
      refine x_callV C (k := 11) (ci := 2) (rest := []) (avs := []) (k_X3_mode l  M L hI) yoX3_mode ml_X3_151 rfl rfl rfl rfl ⟨Nat.zero_le _, Nat.zero_le _⟩ (show decode cX3_summing 55 = .ok (.invokevirtual 151, 3) from by decide +kernel) rfl (fun v σ' hPo => ?_)
      obtain ⟨⟨rfl, rfl⟩, g15, hI16⟩ := hPo
      show V 0 0 58 [(4, .int (f_X3_upperRegister  M)), (0, .ref 11), (1, .ref (1000 + a1)), (2, .ref (1000 + a2)), (3, .ref (1000 + a3))] [.int (f_X3_mode  M)] LAY (M, L)
      by_cases c17 : (f_X3_mode  M) = 0
      · rw [if_pos c17] at h
        refine x_lsw C (show decode cX3_summing 58 = .ok (.lookupswitch 66 #[(0, 26), (1, 43)], 26) from by decide +kernel) (by decide) (off := 26) (by rw [c17]; first | done | decide) (tgt := 84) (by decide) ?_
        refine x_run C e_X3_summing_6 e_X3_summing_6_k (pc' := 87) (lv' := [(4, .int (f_X3_upperRegister  M)), (0, .ref 11), (1, .ref (1000 + a1)), (2, .ref (1000 + a2)), (3, .ref (1000 + a3))]) (st' := [.ref 11, .ref (1000 + a2), .ref 11]) (σ' := (M, L)) rfl ⟨trivial, trivial, trivial, trivial⟩ ?_
        refine x_callV C (k := 11) (ci := 2) (rest := [.ref (1000 + a2), .ref 11]) (avs := []) (k_X3_lowerRegister l  M L hI) yoX3_lowerRegister ml_X3_154 rfl rfl rfl rfl ⟨Nat.zero_le _, Nat.zero_le _⟩ (show decode cX3_summing 87 = .ok (.invokevirtual 154, 3) from by decide +kernel) rfl (fun v σ' hPo => ?_)
        obtain ⟨⟨rfl, rfl⟩, g19, hI20⟩ := hPo
        show V 0 0 90 [(4, .int (f_X3_upperRegister  M)), (0, .ref 11), (1, .ref (1000 + a1)), (2, .ref (1000 + a2)), (3, .ref (1000 + a3))] [.int (f_X3_lowerRegister  M), .ref (1000 + a2), .ref 11] LAY (M, L)
        refine x_run C e_X3_summing_7 e_X3_summing_7_k (pc' := 93) (lv' := [(4, .int (f_X3_upperRegister  M)), (0, .ref 11), (1, .ref (1000 + a1)), (2, .ref (1000 + a2)), (3, .ref (1000 + a3))]) (st' := [.ref 11, .int (f_X3_upperRegister  M), .int (f_X3_lowerRegister  M), .ref (1000 + a2), .ref 11]) (σ' := (M, L)) rfl ⟨trivial, trivial, trivial⟩ ?_
        refine x_callV C (k := 11) (ci := 2) (rest := [.int (f_X3_upperRegister  M), .int (f_X3_lowerRegister  M), .ref (1000 + a2), .ref 11]) (avs := []) (k_X3_z l  M L hI) yoX3_z ml_X3_144 rfl rfl rfl rfl ⟨Nat.zero_le _, Nat.zero_le _⟩ (show decode cX3_summing 93 = .ok (.invokevirtual 144, 3) from by decide +kernel) rfl (fun v σ' hPo => ?_)
        obtain ⟨⟨rfl, rfl⟩, g22, hI23⟩ := hPo
        show V 0 0 96 [(4, .int (f_X3_upperRegister  M)), (0, .ref 11), (1, .ref (1000 + a1)), (2, .ref (1000 + a2)), (3, .ref (1000 + a3))] [.int (f_X3_z  M), .int (f_X3_upperRegister  M), .int (f_X3_lowerRegister  M), .ref (1000 + a2), .ref 11] LAY (M, L)
        refine x_run C e_X3_summing_8 e_X3_summing_8_k (pc' := 97) (lv' := [(4, .int (f_X3_upperRegister  M)), (0, .ref 11), (1, .ref (1000 + a1)), (2, .ref (1000 + a2)), (3, .ref (1000 + a3))]) (st' := [.int 1, .int (f_X3_z  M), .int (f_X3_upperRegister  M), .int (f_X3_lowerRegister  M), .ref (1000 + a2), .ref 11]) (σ' := (M, L)) rfl ⟨trivial, trivial⟩ ?_
        refine x_callV C (k := 11) (ci := 2) (rest := []) (avs := [.ref (1000 + a2), .int (f_X3_lowerRegister  M), .int (f_X3_upperRegister  M), .int (f_X3_z  M), .int 1]) (k_X3_pair l a2 (f_X3_lowerRegister  M) (f_X3_upperRegister  M) (f_X3_z  M) 1 M L hb2 hI) yoX3_pair ml_X3_114 rfl rfl rfl rfl ⟨Nat.zero_le _, Nat.zero_le _⟩ (show decode cX3_summing 97 = .ok (.invokevirtual 114, 3) from by decide +kernel) rfl (fun v σ' hPo => ?_)
        obtain ⟨⟨rfl, rfl⟩, g25, hI26⟩ := hPo
        generalize hq24 : f_X3_pair a2 (f_X3_lowerRegister  M) (f_X3_upperRegister  M) (f_X3_z  M) 1 M = q24 at h g25 hI26 ⊢
        obtain ⟨r24, M24⟩ := q24
        have h := xb_eq h
        try dsimp only at h g25 hI26
        show V 0 0 100 [(4, .int (f_X3_upperRegister  M)), (0, .ref 11), (1, .ref (1000 + a1)), (2, .ref (1000 + a2)), (3, .ref (1000 + a3))] [.ref (1000 + r24)] LAY (M24, L)
        subst h
        exact x_aret C (show decode cX3_summing 100 = .ok (.areturn, 1) from by decide +kernel) (x_finE ⟨⟨rfl, rfl⟩, g25, hI26⟩) (Nat.le_refl 0) (Nat.le_refl 0)
      rw [if_neg c17] at h
      by_cases c27 : (f_X3_mode  M) = 1
      · rw [if_pos c27] at h
        refine x_lsw C (show decode cX3_summing 58 = .ok (.lookupswitch 66 #[(0, 26), (1, 43)], 26) from by decide +kernel) (by decide) (off := 43) (by rw [c27]; first | done | decide) (tgt := 101) (by decide) ?_
        refine x_run C e_X3_summing_9 e_X3_summing_9_k (pc' := 104) (lv' := [(4, .int (f_X3_upperRegister  M)), (0, .ref 11), (1, .ref (1000 + a1)), (2, .ref (1000 + a2)), (3, .ref (1000 + a3))]) (st' := [.ref 11, .ref (1000 + a2), .ref 11]) (σ' := (M, L)) rfl ⟨trivial, trivial, trivial, trivial⟩ ?_
        refine x_callV C (k := 11) (ci := 2) (rest := [.ref (1000 + a2), .ref 11]) (avs := []) (k_X3_lowerRegister l  M L hI) yoX3_lowerRegister ml_X3_154 rfl rfl rfl rfl ⟨Nat.zero_le _, Nat.zero_le _⟩ (show decode cX3_summing 104 = .ok (.invokevirtual 154, 3) from by decide +kernel) rfl (fun v σ' hPo => ?_)
        obtain ⟨⟨rfl, rfl⟩, g29, hI30⟩ := hPo
        show V 0 0 107 [(4, .int (f_X3_upperRegister  M)), (0, .ref 11), (1, .ref (1000 + a1)), (2, .ref (1000 + a2)), (3, .ref (1000 + a3))] [.int (f_X3_lowerRegister  M), .ref (1000 + a2), .ref 11] LAY (M, L)
        refine x_callS C (rest := [.ref (1000 + a2), .ref 11]) (avs := [.int (f_X3_lowerRegister  M)]) (k_X9_before l (f_X3_lowerRegister  M) M L) yoX9_before ml_X3_157 rfl ⟨Nat.zero_le _, Nat.zero_le _⟩ (show decode cX3_summing 107 = .ok (.invokestatic 157, 3) from by decide +kernel) rfl (fun v σ' hPo => ?_)
        obtain ⟨⟨rfl, rfl⟩, g32, -⟩ := hPo
        show V 0 0 110 [(4, .int (f_X3_upperRegister  M)), (0, .ref 11), (1, .ref (1000 + a1)), (2, .ref (1000 + a2)), (3, .ref (1000 + a3))] [.int (f_X9_before (f_X3_lowerRegister  M)), .ref (1000 + a2), .ref 11] LAY (M, L)
        refine x_run C e_X3_summing_10 e_X3_summing_10_k (pc' := 112) (lv' := [(4, .int (f_X3_upperRegister  M)), (0, .ref 11), (1, .ref (1000 + a1)), (2, .ref (1000 + a2)), (3, .ref (1000 + a3))]) (st' := [.int (f_X3_upperRegister  M), .int (f_X9_before (f_X3_lowerRegister  M)), .ref (1000 + a2), .ref 11]) (σ' := (M, L)) rfl ⟨trivial, trivial⟩ ?_
        refine x_callS C (rest := [.int (f_X9_before (f_X3_lowerRegister  M)), .ref (1000 + a2), .ref 11]) (avs := [.int (f_X3_upperRegister  M)]) (k_X9_before l (f_X3_upperRegister  M) M L) yoX9_before ml_X3_157 rfl ⟨Nat.zero_le _, Nat.zero_le _⟩ (show decode cX3_summing 112 = .ok (.invokestatic 157, 3) from by decide +kernel) rfl (fun v σ' hPo => ?_)
        obtain ⟨⟨rfl, rfl⟩, g35, -⟩ := hPo
        show V 0 0 115 [(4, .int (f_X3_upperRegister  M)), (0, .ref 11), (1, .ref (1000 + a1)), (2, .ref (1000 + a2)), (3, .ref (1000 + a3))] [.int (f_X9_before (f_X3_upperRegister  M)), .int (f_X9_before (f_X3_lowerRegister  M)), .ref (1000 + a2), .ref 11] LAY (M, L)
        refine x_run C e_X3_summing_11 e_X3_summing_11_k (pc' := 116) (lv' := [(4, .int (f_X3_upperRegister  M)), (0, .ref 11), (1, .ref (1000 + a1)), (2, .ref (1000 + a2)), (3, .ref (1000 + a3))]) (st' := [.ref 11, .int (f_X9_before (f_X3_upperRegister  M)), .int (f_X9_before (f_X3_lowerRegister  M)), .ref (1000 + a2), .ref 11]) (σ' := (M, L)) rfl ⟨trivial, trivial⟩ ?_
        refine x_callV C (k := 11) (ci := 2) (rest := [.int (f_X9_before (f_X3_upperRegister  M)), .int (f_X9_before (f_X3_lowerRegister  M)), .ref (1000 + a2), .ref 11]) (avs := []) (k_X3_z l  M L hI) yoX3_z ml_X3_144 rfl rfl rfl rfl ⟨Nat.zero_le _, Nat.zero_le _⟩ (show decode cX3_summing 116 = .ok (.invokevirtual 144, 3) from by decide +kernel) rfl (fun v σ' hPo => ?_)
        obtain ⟨⟨rfl, rfl⟩, g38, hI39⟩ := hPo
        show V 0 0 119 [(4, .int (f_X3_upperRegister  M)), (0, .ref 11), (1, .ref (1000 + a1)), (2, .ref (1000 + a2)), (3, .ref (1000 + a3))] [.int (f_X3_z  M), .int (f_X9_before (f_X3_upperRegister  M)), .int (f_X9_before (f_X3_lowerRegister  M)), .ref (1000 + a2), .ref 11] LAY (M, L)
        refine x_run C e_X3_summing_12 e_X3_summing_12_k (pc' := 120) (lv' := [(4, .int (f_X3_upperRegister  M)), (0, .ref 11), (1, .ref (1000 + a1)), (2, .ref (1000 + a2)), (3, .ref (1000 + a3))]) (st' := [.int 1, .int (f_X3_z  M), .int (f_X9_before (f_X3_upperRegister  M)), .int (f_X9_before (f_X3_lowerRegister  M)), .ref (1000 + a2), .ref 11]) (σ' := (M, L)) rfl ⟨trivial, trivial⟩ ?_
        refine x_callV C (k := 11) (ci := 2) (rest := []) (avs := [.ref (1000 + a2), .int (f_X9_before (f_X3_lowerRegister  M)), .int (f_X9_before (f_X3_upperRegister  M)), .int (f_X3_z  M), .int 1]) (k_X3_pair l a2 (f_X9_before (f_X3_lowerRegister  M)) (f_X9_before (f_X3_upperRegister  M)) (f_X3_z  M) 1 M L hb2 hI) yoX3_pair ml_X3_114 rfl rfl rfl rfl ⟨Nat.zero_le _, Nat.zero_le _⟩ (show decode cX3_summing 120 = .ok (.invokevirtual 114, 3) from by decide +kernel) rfl (fun v σ' hPo => ?_)
        obtain ⟨⟨rfl, rfl⟩, g41, hI42⟩ := hPo
        generalize hq40 : f_X3_pair a2 (f_X9_before (f_X3_lowerRegister  M)) (f_X9_before (f_X3_upperRegister  M)) (f_X3_z  M) 1 M = q40 at h g41 hI42 ⊢
        obtain ⟨r40, M40⟩ := q40
        have h := xb_eq h
        try dsimp only at h g41 hI42
        show V 0 0 123 [(4, .int (f_X3_upperRegister  M)), (0, .ref 11), (1, .ref (1000 + a1)), (2, .ref (1000 + a2)), (3, .ref (1000 + a3))] [.ref (1000 + r40)] LAY (M40, L)
        subst h
        exact x_aret C (show decode cX3_summing 123 = .ok (.areturn, 1) from by decide +kernel) (x_finE ⟨⟨rfl, rfl⟩, g41, hI42⟩) (Nat.le_refl 0) (Nat.le_refl 0)
      rw [if_neg c27] at h
      refine x_lsw C (show decode cX3_summing 58 = .ok (.lookupswitch 66 #[(0, 26), (1, 43)], 26) from by decide +kernel) (by decide) (off := 66) (by show Op.lookupswitch.offset [(0, 26), (1, 43)] 66 _ = _; rw [lv_osw c17 (by decide)]; rw [lv_osw c27 (by decide)]; rfl) (tgt := 124) (by decide) ?_
      refine x_run C e_X3_summing_13 e_X3_summing_13_k (pc' := 129) (lv' := [(4, .int (f_X3_upperRegister  M)), (0, .ref 11), (1, .ref (1000 + a1)), (2, .ref (1000 + a2)), (3, .ref (1000 + a3))]) (st' := [.ref 11, .int (f_X3_upperRegister  M), .ref (1000 + a1), .ref 11]) (σ' := (M, L)) rfl ⟨trivial, trivial, trivial, trivial, trivial⟩ ?_
      refine x_callV C (k := 11) (ci := 2) (rest := [.int (f_X3_upperRegister  M), .ref (1000 + a1), .ref 11]) (avs := []) (k_X3_operand l  M L hI) yoX3_operand ml_X3_111 rfl rfl rfl rfl ⟨Nat.zero_le _, Nat.zero_le _⟩ (show decode cX3_summing 129 = .ok (.invokevirtual 111, 3) from by decide +kernel) rfl (fun v σ' hPo => ?_)
      obtain ⟨⟨rfl, rfl⟩, g44, hI45⟩ := hPo
      show V 0 0 132 [(4, .int (f_X3_upperRegister  M)), (0, .ref 11), (1, .ref (1000 + a1)), (2, .ref (1000 + a2)), (3, .ref (1000 + a3))] [.int (f_X3_operand  M), .int (f_X3_upperRegister  M), .ref (1000 + a1), .ref 11] LAY (M, L)
      refine x_run C e_X3_summing_14 e_X3_summing_14_k (pc' := 133) (lv' := [(4, .int (f_X3_upperRegister  M)), (0, .ref 11), (1, .ref (1000 + a1)), (2, .ref (1000 + a2)), (3, .ref (1000 + a3))]) (st' := [.ref 11, .int (f_X3_operand  M), .int (f_X3_upperRegister  M), .ref (1000 + a1), .ref 11]) (σ' := (M, L)) rfl ⟨trivial, trivial⟩ ?_
      refine x_callV C (k := 11) (ci := 2) (rest := [.int (f_X3_operand  M), .int (f_X3_upperRegister  M), .ref (1000 + a1), .ref 11]) (avs := []) (k_X3_z l  M L hI) yoX3_z ml_X3_144 rfl rfl rfl rfl ⟨Nat.zero_le _, Nat.zero_le _⟩ (show decode cX3_summing 133 = .ok (.invokevirtual 144, 3) from by decide +kernel) rfl (fun v σ' hPo => ?_)
      obtain ⟨⟨rfl, rfl⟩, g47, hI48⟩ := hPo
      show V 0 0 136 [(4, .int (f_X3_upperRegister  M)), (0, .ref 11), (1, .ref (1000 + a1)), (2, .ref (1000 + a2)), (3, .ref (1000 + a3))] [.int (f_X3_z  M), .int (f_X3_operand  M), .int (f_X3_upperRegister  M), .ref (1000 + a1), .ref 11] LAY (M, L)
      refine x_run C e_X3_summing_15 e_X3_summing_15_k (pc' := 137) (lv' := [(4, .int (f_X3_upperRegister  M)), (0, .ref 11), (1, .ref (1000 + a1)), (2, .ref (1000 + a2)), (3, .ref (1000 + a3))]) (st' := [.ref 11, .int (f_X3_z  M), .int (f_X3_operand  M), .int (f_X3_upperRegister  M), .ref (1000 + a1), .ref 11]) (σ' := (M, L)) rfl ⟨trivial, trivial⟩ ?_
      refine x_callV C (k := 11) (ci := 2) (rest := [.int (f_X3_z  M), .int (f_X3_operand  M), .int (f_X3_upperRegister  M), .ref (1000 + a1), .ref 11]) (avs := []) (k_X3_operand l  M L hI) yoX3_operand ml_X3_111 rfl rfl rfl rfl ⟨Nat.zero_le _, Nat.zero_le _⟩ (show decode cX3_summing 137 = .ok (.invokevirtual 111, 3) from by decide +kernel) rfl (fun v σ' hPo => ?_)
      obtain ⟨⟨rfl, rfl⟩, g50, hI51⟩ := hPo
      show V 0 0 140 [(4, .int (f_X3_upperRegister  M)), (0, .ref 11), (1, .ref (1000 + a1)), (2, .ref (1000 + a2)), (3, .ref (1000 + a3))] [.int (f_X3_operand  M), .int (f_X3_z  M), .int (f_X3_operand  M), .int (f_X3_upperRegister  M), .ref (1000 + a1), .ref 11] LAY (M, L)
      refine x_callS C (rest := [.int (f_X3_z  M), .int (f_X3_operand  M), .int (f_X3_upperRegister  M), .ref (1000 + a1), .ref 11]) (avs := [.int (f_X3_operand  M)]) (k_X9_isOpenMemory l (f_X3_operand  M) M L) yoX9_isOpenMemory ml_X3_160 rfl ⟨Nat.zero_le _, Nat.zero_le _⟩ (show decode cX3_summing 140 = .ok (.invokestatic 160, 3) from by decide +kernel) rfl (fun v σ' hPo => ?_)
      obtain ⟨⟨rfl, rfl⟩, g53, -⟩ := hPo
      show V 0 0 143 [(4, .int (f_X3_upperRegister  M)), (0, .ref 11), (1, .ref (1000 + a1)), (2, .ref (1000 + a2)), (3, .ref (1000 + a3))] [.int (f_X9_isOpenMemory (f_X3_operand  M)), .int (f_X3_z  M), .int (f_X3_operand  M), .int (f_X3_upperRegister  M), .ref (1000 + a1), .ref 11] LAY (M, L)
      refine x_callV C (k := 11) (ci := 2) (rest := []) (avs := [.ref (1000 + a1), .int (f_X3_upperRegister  M), .int (f_X3_operand  M), .int (f_X3_z  M), .int (f_X9_isOpenMemory (f_X3_operand  M))]) (k_X3_pair l a1 (f_X3_upperRegister  M) (f_X3_operand  M) (f_X3_z  M) (f_X9_isOpenMemory (f_X3_operand  M)) M L hb1 hI) yoX3_pair ml_X3_114 rfl rfl rfl rfl ⟨Nat.zero_le _, Nat.zero_le _⟩ (show decode cX3_summing 143 = .ok (.invokevirtual 114, 3) from by decide +kernel) rfl (fun v σ' hPo => ?_)
      obtain ⟨⟨rfl, rfl⟩, g56, hI57⟩ := hPo
      generalize hq55 : f_X3_pair a1 (f_X3_upperRegister  M) (f_X3_operand  M) (f_X3_z  M) (f_X9_isOpenMemory (f_X3_operand  M)) M = q55 at h g56 hI57 ⊢
      obtain ⟨r55, M55⟩ := q55
      have h := xb_eq h
      try dsimp only at h g56 hI57
      show V 0 0 146 [(4, .int (f_X3_upperRegister  M)), (0, .ref 11), (1, .ref (1000 + a1)), (2, .ref (1000 + a2)), (3, .ref (1000 + a3))] [.ref (1000 + r55)] LAY (M55, L)
      subst h
      exact x_aret C (show decode cX3_summing 146 = .ok (.areturn, 1) from by decide +kernel) (x_finE ⟨⟨rfl, rfl⟩, g56, hI57⟩) (Nat.le_refl 0) (Nat.le_refl 0)
    · rw [if_pos c12] at h
      have g58 : xrg 0 0 (f_X3_bit8  M) := (x_c_eq g10 (x_rgc (x := 0) (k := 0) (by decide)) c12).1
      refine x_run C e_X3_summing_16 e_X3_summing_16_k (pc' := 30) (lv' := [(4, .int (f_X3_upperRegister  M)), (0, .ref 11), (1, .ref (1000 + a1)), (2, .ref (1000 + a2)), (3, .ref (1000 + a3))]) (st' := [.ref 11, .ref (1000 + a1), .ref 11]) (σ' := (M, L)) rfl ⟨trivial, trivial, trivial, trivial⟩ ?_
      refine x_callV C (k := 11) (ci := 2) (rest := [.ref (1000 + a1), .ref 11]) (avs := []) (k_X3_operand l  M L hI) yoX3_operand ml_X3_111 rfl rfl rfl rfl ⟨Nat.zero_le _, Nat.zero_le _⟩ (show decode cX3_summing 30 = .ok (.invokevirtual 111, 3) from by decide +kernel) rfl (fun v σ' hPo => ?_)
      obtain ⟨⟨rfl, rfl⟩, g60, hI61⟩ := hPo
      show V 0 0 33 [(4, .int (f_X3_upperRegister  M)), (0, .ref 11), (1, .ref (1000 + a1)), (2, .ref (1000 + a2)), (3, .ref (1000 + a3))] [.int (f_X3_operand  M), .ref (1000 + a1), .ref 11] LAY (M, L)
      refine x_run C e_X3_summing_17 e_X3_summing_17_k (pc' := 36) (lv' := [(4, .int (f_X3_upperRegister  M)), (0, .ref 11), (1, .ref (1000 + a1)), (2, .ref (1000 + a2)), (3, .ref (1000 + a3))]) (st' := [.ref 11, .int (f_X3_upperRegister  M), .int (f_X3_operand  M), .ref (1000 + a1), .ref 11]) (σ' := (M, L)) rfl ⟨trivial, trivial, trivial⟩ ?_
      refine x_callV C (k := 11) (ci := 2) (rest := [.int (f_X3_upperRegister  M), .int (f_X3_operand  M), .ref (1000 + a1), .ref 11]) (avs := []) (k_X3_z l  M L hI) yoX3_z ml_X3_144 rfl rfl rfl rfl ⟨Nat.zero_le _, Nat.zero_le _⟩ (show decode cX3_summing 36 = .ok (.invokevirtual 144, 3) from by decide +kernel) rfl (fun v σ' hPo => ?_)
      obtain ⟨⟨rfl, rfl⟩, g63, hI64⟩ := hPo
      show V 0 0 39 [(4, .int (f_X3_upperRegister  M)), (0, .ref 11), (1, .ref (1000 + a1)), (2, .ref (1000 + a2)), (3, .ref (1000 + a3))] [.int (f_X3_z  M), .int (f_X3_upperRegister  M), .int (f_X3_operand  M), .ref (1000 + a1), .ref 11] LAY (M, L)
      refine x_run C e_X3_summing_18 e_X3_summing_18_k (pc' := 40) (lv' := [(4, .int (f_X3_upperRegister  M)), (0, .ref 11), (1, .ref (1000 + a1)), (2, .ref (1000 + a2)), (3, .ref (1000 + a3))]) (st' := [.ref 11, .int (f_X3_z  M), .int (f_X3_upperRegister  M), .int (f_X3_operand  M), .ref (1000 + a1), .ref 11]) (σ' := (M, L)) rfl ⟨trivial, trivial⟩ ?_
      refine x_callV C (k := 11) (ci := 2) (rest := [.int (f_X3_z  M), .int (f_X3_upperRegister  M), .int (f_X3_operand  M), .ref (1000 + a1), .ref 11]) (avs := []) (k_X3_operand l  M L hI) yoX3_operand ml_X3_111 rfl rfl rfl rfl ⟨Nat.zero_le _, Nat.zero_le _⟩ (show decode cX3_summing 40 = .ok (.invokevirtual 111, 3) from by decide +kernel) rfl (fun v σ' hPo => ?_)
      obtain ⟨⟨rfl, rfl⟩, g66, hI67⟩ := hPo
      show V 0 0 43 [(4, .int (f_X3_upperRegister  M)), (0, .ref 11), (1, .ref (1000 + a1)), (2, .ref (1000 + a2)), (3, .ref (1000 + a3))] [.int (f_X3_operand  M), .int (f_X3_z  M), .int (f_X3_upperRegister  M), .int (f_X3_operand  M), .ref (1000 + a1), .ref 11] LAY (M, L)
      refine x_run C e_X3_summing_19 e_X3_summing_19_k (pc' := 44) (lv' := [(4, .int (f_X3_upperRegister  M)), (0, .ref 11), (1, .ref (1000 + a1)), (2, .ref (1000 + a2)), (3, .ref (1000 + a3))]) (st' := [.ref 11, .int (f_X3_operand  M), .int (f_X3_z  M), .int (f_X3_upperRegister  M), .int (f_X3_operand  M), .ref (1000 + a1), .ref 11]) (σ' := (M, L)) rfl ⟨trivial, trivial⟩ ?_
      refine x_callV C (k := 11) (ci := 2) (rest := [.int (f_X3_operand  M), .int (f_X3_z  M), .int (f_X3_upperRegister  M), .int (f_X3_operand  M), .ref (1000 + a1), .ref 11]) (avs := []) (k_X3_z l  M L hI) yoX3_z ml_X3_144 rfl rfl rfl rfl ⟨Nat.zero_le _, Nat.zero_le _⟩ (show decode cX3_summing 44 = .ok (.invokevirtual 144, 3) from by decide +kernel) rfl (fun v σ' hPo => ?_)
      obtain ⟨⟨rfl, rfl⟩, g69, hI70⟩ := hPo
      show V 0 0 47 [(4, .int (f_X3_upperRegister  M)), (0, .ref 11), (1, .ref (1000 + a1)), (2, .ref (1000 + a2)), (3, .ref (1000 + a3))] [.int (f_X3_z  M), .int (f_X3_operand  M), .int (f_X3_z  M), .int (f_X3_upperRegister  M), .int (f_X3_operand  M), .ref (1000 + a1), .ref 11] LAY (M, L)
      refine x_callS C (rest := [.int (f_X3_z  M), .int (f_X3_upperRegister  M), .int (f_X3_operand  M), .ref (1000 + a1), .ref 11]) (avs := [.int (f_X3_operand  M), .int (f_X3_z  M)]) (k_X9_isAny l (f_X3_operand  M) (f_X3_z  M) M L) yoX9_isAny ml_X3_118 rfl ⟨Nat.zero_le _, Nat.zero_le _⟩ (show decode cX3_summing 47 = .ok (.invokestatic 118, 3) from by decide +kernel) rfl (fun v σ' hPo => ?_)
      obtain ⟨⟨rfl, rfl⟩, g72, -⟩ := hPo
      show V 0 0 50 [(4, .int (f_X3_upperRegister  M)), (0, .ref 11), (1, .ref (1000 + a1)), (2, .ref (1000 + a2)), (3, .ref (1000 + a3))] [.int (f_X9_isAny (f_X3_operand  M) (f_X3_z  M)), .int (f_X3_z  M), .int (f_X3_upperRegister  M), .int (f_X3_operand  M), .ref (1000 + a1), .ref 11] LAY (M, L)
      refine x_callV C (k := 11) (ci := 2) (rest := []) (avs := [.ref (1000 + a1), .int (f_X3_operand  M), .int (f_X3_upperRegister  M), .int (f_X3_z  M), .int (f_X9_isAny (f_X3_operand  M) (f_X3_z  M))]) (k_X3_pair l a1 (f_X3_operand  M) (f_X3_upperRegister  M) (f_X3_z  M) (f_X9_isAny (f_X3_operand  M) (f_X3_z  M)) M L hb1 hI) yoX3_pair ml_X3_114 rfl rfl rfl rfl ⟨Nat.zero_le _, Nat.zero_le _⟩ (show decode cX3_summing 50 = .ok (.invokevirtual 114, 3) from by decide +kernel) rfl (fun v σ' hPo => ?_)
      obtain ⟨⟨rfl, rfl⟩, g75, hI76⟩ := hPo
      generalize hq74 : f_X3_pair a1 (f_X3_operand  M) (f_X3_upperRegister  M) (f_X3_z  M) (f_X9_isAny (f_X3_operand  M) (f_X3_z  M)) M = q74 at h g75 hI76 ⊢
      obtain ⟨r74, M74⟩ := q74
      have h := xb_eq h
      try dsimp only at h g75 hI76
      show V 0 0 53 [(4, .int (f_X3_upperRegister  M)), (0, .ref 11), (1, .ref (1000 + a1)), (2, .ref (1000 + a2)), (3, .ref (1000 + a3))] [.ref (1000 + r74)] LAY (M74, L)
      subst h
      exact x_aret C (show decode cX3_summing 53 = .ok (.areturn, 1) from by decide +kernel) (x_finE ⟨⟨rfl, rfl⟩, g75, hI76⟩) (Nat.le_refl 0) (Nat.le_refl 0)
  · rw [if_pos c7] at h
    have g77 : xrg 3 3 (f_X3_z  M) := (x_c_eq g5 (x_rgc (x := 3) (k := 3) (by decide)) c7).1
    refine x_run C e_X3_summing_20 e_X3_summing_20_k (pc' := 16) (lv' := [(4, .int (f_X3_upperRegister  M)), (0, .ref 11), (1, .ref (1000 + a1)), (2, .ref (1000 + a2)), (3, .ref (1000 + a3))]) (st' := [.ref (1000 + a3), .ref 11]) (σ' := (M, L)) rfl ⟨trivial, trivial, trivial⟩ ?_
    refine x_callV C (k := 11) (ci := 2) (rest := []) (avs := [.ref (1000 + a3)]) (k_X3_withAddress l a3 M L hb3 hI) yoX3_withAddress ml_X3_147 rfl rfl rfl rfl ⟨Nat.zero_le _, Nat.zero_le _⟩ (show decode cX3_summing 16 = .ok (.invokevirtual 147, 3) from by decide +kernel) rfl (fun v σ' hPo => ?_)
    obtain ⟨⟨rfl, rfl⟩, g79, hI80⟩ := hPo
    generalize hq78 : f_X3_withAddress a3 M = q78 at h g79 hI80 ⊢
    obtain ⟨r78, M78⟩ := q78
    have h := xb_eq h
    try dsimp only at h g79 hI80
    show V 0 0 19 [(4, .int (f_X3_upperRegister  M)), (0, .ref 11), (1, .ref (1000 + a1)), (2, .ref (1000 + a2)), (3, .ref (1000 + a3))] [.ref (1000 + r78)] LAY (M78, L)
    subst h
    exact x_aret C (show decode cX3_summing 19 = .ok (.areturn, 1) from by decide +kernel) (x_finE ⟨⟨rfl, rfl⟩, g79, hI80⟩) (Nat.le_refl 0) (Nat.le_refl 0)
-- X9_behind
def e_X9_behind_1 : List xI := [(0, .bipush 24, 2, .int 24), (2, .iload_n 0, 1, .null), (3, .ior, 1, .null)]
theorem e_X9_behind_1_k : e_X9_behind_1.all (fun q => xokB cX9_behind q && xokL q) = true := by decide +kernel
abbrev P_X9_behind (r : Int32) (M0 : St) (L : Nat → Nat → Int64) : Option Value → xG → Prop := fun v σ' => PoI r M0 L v σ' ∧ True ∧ True
abbrev R_X9_behind : Room := { frames := 0, cells := 0, slots := 0, locals := 0 }
abbrev C_X9_behind (l : Launch) (r : Int32) (M0 : St) (L : Nat → Nat → Int64) (V : XJ) : Prop := XC l yX9_behind.cls yX9_behind.name cX9_behind 1 R_X9_behind 0 0 fl_X9 kc_X9 LAY.length (xfin (some .int) LAY (P_X9_behind r M0 L)) V
def f_X9_behind (a1 : Int32) : Int32 := (24 ||| a1)
set_option maxRecDepth 20000 in
set_option maxHeartbeats 4000000 in
theorem k_X9_behind (l : Launch) (a1 : Int32) (M : St) (L : Nat → Nat → Int64) : XM l yX9_behind cX9_behind 1 (some .int) R_X9_behind LAY [.int a1] (M, L) (P_X9_behind (f_X9_behind a1) M L) := by
  refine XM.of (by decide) (Nat.le_of_ble_eq_true rfl) LAY_in cl_ok fl_X9_ok kc_X9_ok (fun V C => ?_)
  obtain ⟨r, h⟩ : ∃ r, f_X9_behind a1 = r := ⟨_, rfl⟩
  rw [h] at C
  change C_X9_behind l r M L V at C
  unfold f_X9_behind at h
  show V 0 0 0 [(0, .int a1)] [] LAY (M, L)
  refine x_run C e_X9_behind_1 e_X9_behind_1_k (pc' := 4) (lv' := [(0, .int a1)]) (st' := [.int (24 ||| a1)]) (σ' := (M, L)) rfl ⟨trivial, trivial, trivial, trivial⟩ ?_
  subst h
  exact x_iret C (show decode cX9_behind 4 = .ok (.ireturn, 1) from by decide +kernel) (x_finI rfl ⟨⟨rfl, rfl⟩, trivial, trivial⟩) (Nat.le_refl 0) (Nat.le_refl 0)
-- X3_comparing
def e_X3_comparing_1 : List xI := [(0, .aload_n 0, 1, .null)]
theorem e_X3_comparing_1_k : e_X3_comparing_1.all (fun q => xokB cX3_comparing q && xokL q) = true := by decide +kernel
def e_X3_comparing_2 : List xI := [(4, .istore_n 1, 1, .null), (5, .aload_n 0, 1, .null)]
theorem e_X3_comparing_2_k : e_X3_comparing_2.all (fun q => xokB cX3_comparing q && xokL q) = true := by decide +kernel
def e_X3_comparing_3 : List xI := [(9, .iconst 3, 1, .int 3)]
theorem e_X3_comparing_3_k : e_X3_comparing_3.all (fun q => xokB cX3_comparing q && xokL q) = true := by decide +kernel
def e_X3_comparing_4 : List xI := [(21, .aload_n 0, 1, .null)]
theorem e_X3_comparing_4_k : e_X3_comparing_4.all (fun q => xokB cX3_comparing q && xokL q) = true := by decide +kernel
def e_X3_comparing_5 : List xI := [(56, .aload_n 0, 1, .null)]
theorem e_X3_comparing_5_k : e_X3_comparing_5.all (fun q => xokB cX3_comparing q && xokL q) = true := by decide +kernel
def e_X3_comparing_6 : List xI := [(60, .iconst 1, 1, .int 1)]
theorem e_X3_comparing_6_k : e_X3_comparing_6.all (fun q => xokB cX3_comparing q && xokL q) = true := by decide +kernel
def e_X3_comparing_7 : List xI := [(88, .aload_n 0, 1, .null)]
theorem e_X3_comparing_7_k : e_X3_comparing_7.all (fun q => xokB cX3_comparing q && xokL q) = true := by decide +kernel
def e_X3_comparing_8 : List xI := [(92, .iload_n 1, 1, .null), (93, .aload_n 0, 1, .null)]
theorem e_X3_comparing_8_k : e_X3_comparing_8.all (fun q => xokB cX3_comparing q && xokL q) = true := by decide +kernel
def e_X3_comparing_9 : List xI := [(97, .aload_n 0, 1, .null)]
theorem e_X3_comparing_9_k : e_X3_comparing_9.all (fun q => xokB cX3_comparing q && xokL q) = true := by decide +kernel
def e_X3_comparing_10 : List xI := [(101, .aload_n 0, 1, .null)]
theorem e_X3_comparing_10_k : e_X3_comparing_10.all (fun q => xokB cX3_comparing q && xokL q) = true := by decide +kernel
def e_X3_comparing_11 : List xI := [(64, .aload_n 0, 1, .null)]
theorem e_X3_comparing_11_k : e_X3_comparing_11.all (fun q => xokB cX3_comparing q && xokL q) = true := by decide +kernel
def e_X3_comparing_12 : List xI := [(68, .aload_n 0, 1, .null)]
theorem e_X3_comparing_12_k : e_X3_comparing_12.all (fun q => xokB cX3_comparing q && xokL q) = true := by decide +kernel
def e_X3_comparing_13 : List xI := [(75, .iload_n 1, 1, .null)]
theorem e_X3_comparing_13_k : e_X3_comparing_13.all (fun q => xokB cX3_comparing q && xokL q) = true := by decide +kernel
def e_X3_comparing_14 : List xI := [(79, .aload_n 0, 1, .null)]
theorem e_X3_comparing_14_k : e_X3_comparing_14.all (fun q => xokB cX3_comparing q && xokL q) = true := by decide +kernel
def e_X3_comparing_15 : List xI := [(83, .iconst 1, 1, .int 1)]
theorem e_X3_comparing_15_k : e_X3_comparing_15.all (fun q => xokB cX3_comparing q && xokL q) = true := by decide +kernel
def e_X3_comparing_16 : List xI := [(28, .aload_n 0, 1, .null)]
theorem e_X3_comparing_16_k : e_X3_comparing_16.all (fun q => xokB cX3_comparing q && xokL q) = true := by decide +kernel
def e_X3_comparing_17 : List xI := [(32, .aload_n 0, 1, .null)]
theorem e_X3_comparing_17_k : e_X3_comparing_17.all (fun q => xokB cX3_comparing q && xokL q) = true := by decide +kernel
def e_X3_comparing_18 : List xI := [(36, .iload_n 1, 1, .null), (37, .aload_n 0, 1, .null)]
theorem e_X3_comparing_18_k : e_X3_comparing_18.all (fun q => xokB cX3_comparing q && xokL q) = true := by decide +kernel
def e_X3_comparing_19 : List xI := [(41, .aload_n 0, 1, .null)]
theorem e_X3_comparing_19_k : e_X3_comparing_19.all (fun q => xokB cX3_comparing q && xokL q) = true := by decide +kernel
def e_X3_comparing_20 : List xI := [(45, .aload_n 0, 1, .null)]
theorem e_X3_comparing_20_k : e_X3_comparing_20.all (fun q => xokB cX3_comparing q && xokL q) = true := by decide +kernel
def e_X3_comparing_21 : List xI := [(13, .aload_n 0, 1, .null)]
theorem e_X3_comparing_21_k : e_X3_comparing_21.all (fun q => xokB cX3_comparing q && xokL q) = true := by decide +kernel
abbrev P_X3_comparing (r : Nat × St) (L : Nat → Nat → Int64) : Option Value → xG → Prop := fun v σ' => PoE r.1 r.2 L v σ' ∧ r.1 < 66 ∧ InvK INVC r.2
abbrev R_X3_comparing : Room := { frames := 3, cells := 0, slots := 0, locals := 65 }
abbrev C_X3_comparing (l : Launch) (r : Nat × St) (L : Nat → Nat → Int64) (V : XJ) : Prop := XC l yX3_comparing.cls yX3_comparing.name cX3_comparing 2 R_X3_comparing 0 0 fl_X3 kc_X3 LAY.length (xfin (some (.object "SupervisorMachine$Op")) LAY (P_X3_comparing r L)) V
def f_X3_comparing (M : St) : Nat × St := (if (f_X3_z  M) = 3 then (xb (f_X3_withAddress 14 M) fun q69 => (q69.1, q69.2)) else (if (f_X3_bit8  M) = 0 then (xb (f_X3_pair 7 (f_X3_operand  M) (f_X3_upperRegister  M) (f_X3_z  M) (f_X9_isAny (f_X3_operand  M) (f_X3_z  M)) M) fun q65 => (q65.1, q65.2)) else (if (f_X3_mode  M) = 1 then (xb (f_X3_pair 7 (f_X9_behind (f_X3_lowerRegister  M)) (f_X9_behind (f_X3_upperRegister  M)) (f_X3_z  M) 1 M) fun q46 => (q46.1, q46.2)) else (xb (f_X3_pair 10 (f_X3_upperRegister  M) (f_X3_operand  M) (f_X3_z  M) (f_X9_isOpenData (f_X3_operand  M)) M) fun q30 => (q30.1, q30.2)))))
set_option maxRecDepth 20000 in
set_option maxHeartbeats 4000000 in
theorem k_X3_comparing (l : Launch) (M : St) (L : Nat → Nat → Int64) (hI : InvK INVC M) : XM l yX3_comparing cX3_comparing 2 (some (.object "SupervisorMachine$Op")) R_X3_comparing LAY [.ref 11] (M, L) (P_X3_comparing (f_X3_comparing M) L) := by
  refine XM.of (by decide) (Nat.le_of_ble_eq_true rfl) LAY_in cl_ok fl_X3_ok kc_X3_ok (fun V C => ?_)
  obtain ⟨r, h⟩ : ∃ r, f_X3_comparing M = r := ⟨_, rfl⟩
  rw [h] at C
  change C_X3_comparing l r L V at C
  unfold f_X3_comparing at h
  show V 0 0 0 [(0, .ref 11)] [] LAY (M, L)
  refine x_run C e_X3_comparing_1 e_X3_comparing_1_k (pc' := 1) (lv' := [(0, .ref 11)]) (st' := [.ref 11]) (σ' := (M, L)) rfl ⟨trivial, trivial⟩ ?_
  refine x_callV C (k := 11) (ci := 2) (rest := []) (avs := []) (k_X3_upperRegister l  M L hI) yoX3_upperRegister ml_X3_141 rfl rfl rfl rfl ⟨Nat.zero_le _, Nat.zero_le _⟩ (show decode cX3_comparing 1 = .ok (.invokevirtual 141, 3) from by decide +kernel) rfl (fun v σ' hPo => ?_)
  obtain ⟨⟨rfl, rfl⟩, g2, hI3⟩ := hPo
  show V 0 0 4 [(0, .ref 11)] [.int (f_X3_upperRegister  M)] LAY (M, L)
  refine x_run C e_X3_comparing_2 e_X3_comparing_2_k (pc' := 6) (lv' := [(1, .int (f_X3_upperRegister  M)), (0, .ref 11)]) (st' := [.ref 11]) (σ' := (M, L)) rfl ⟨trivial, trivial, trivial⟩ ?_
  refine x_callV C (k := 11) (ci := 2) (rest := []) (avs := []) (k_X3_z l  M L hI) yoX3_z ml_X3_144 rfl rfl rfl rfl ⟨Nat.zero_le _, Nat.zero_le _⟩ (show decode cX3_comparing 6 = .ok (.invokevirtual 144, 3) from by decide +kernel) rfl (fun v σ' hPo => ?_)
  obtain ⟨⟨rfl, rfl⟩, g5, hI6⟩ := hPo
  show V 0 0 9 [(1, .int (f_X3_upperRegister  M)), (0, .ref 11)] [.int (f_X3_z  M)] LAY (M, L)
  refine x_run C e_X3_comparing_3 e_X3_comparing_3_k (pc' := 10) (lv' := [(1, .int (f_X3_upperRegister  M)), (0, .ref 11)]) (st' := [.int 3, .int (f_X3_z  M)]) (σ' := (M, L)) rfl ⟨trivial, trivial⟩ ?_
  refine x_icmp_ne C (show decode cX3_comparing 10 = .ok (.if_icmp .ne 11, 3) from by decide +kernel) (tgt := 21) (by decide) (fun c7 => ?_) (fun c7 => ?_)
  · rw [if_neg c7] at h
    have g8 : xrg 0 2 (f_X3_z  M) := (x_c_neh g5 (by decide) c7)
    refine x_run C e_X3_comparing_4 e_X3_comparing_4_k (pc' := 22) (lv' := [(1, .int (f_X3_upperRegister  M)), (0, .ref 11)]) (st' := [.ref 11]) (σ' := (M, L)) rfl ⟨trivial, trivial⟩ ?_
    refine x_callV C (k := 11) (ci := 2) (rest := []) (avs := []) (k_X3_bit8 l  M L hI) yoX3_bit8 ml_X3_80 rfl rfl rfl rfl ⟨Nat.zero_le _, Nat.zero_le _⟩ (show decode cX3_comparing 22 = .ok (.invokevirtual 80, 3) from by decide +kernel) rfl (fun v σ' hPo => ?_)
    obtain ⟨⟨rfl, rfl⟩, g10, hI11⟩ := hPo
    show V 0 0 25 [(1, .int (f_X3_upperRegister  M)), (0, .ref 11)] [.int (f_X3_bit8  M)] LAY (M, L)
    refine x_if_ne C (show decode cX3_comparing 25 = .ok (.ifCond .ne 31, 3) from by decide +kernel) (tgt := 56) (by decide) (fun c12 => ?_) (fun c12 => ?_)
    · rw [if_neg c12] at h
      have g13 : xrg 1 1 (f_X3_bit8  M) := (x_c_ne g10 (by decide) c12)
      refine x_run C e_X3_comparing_5 e_X3_comparing_5_k (pc' := 57) (lv' := [(1, .int (f_X3_upperRegister  M)), (0, .ref 11)]) (st' := [.ref 11]) (σ' := (M, L)) rfl ⟨trivial, trivial⟩ ?_
      refine x_callV C (k := 11) (ci := 2) (rest := []) (avs := []) (k_X3_mode l  M L hI) yoX3_mode ml_X3_151 rfl rfl rfl rfl ⟨Nat.zero_le _, Nat.zero_le _⟩ (show decode cX3_comparing 57 = .ok (.invokevirtual 151, 3) from by decide +kernel) rfl (fun v σ' hPo => ?_)
      obtain ⟨⟨rfl, rfl⟩, g15, hI16⟩ := hPo
      show V 0 0 60 [(1, .int (f_X3_upperRegister  M)), (0, .ref 11)] [.int (f_X3_mode  M)] LAY (M, L)
      refine x_run C e_X3_comparing_6 e_X3_comparing_6_k (pc' := 61) (lv' := [(1, .int (f_X3_upperRegister  M)), (0, .ref 11)]) (st' := [.int 1, .int (f_X3_mode  M)]) (σ' := (M, L)) rfl ⟨trivial, trivial⟩ ?_
      refine x_icmp_ne C (show decode cX3_comparing 61 = .ok (.if_icmp .ne 27, 3) from by decide +kernel) (tgt := 88) (by decide) (fun c17 => ?_) (fun c17 => ?_)
      · rw [if_neg c17] at h
        refine x_run C e_X3_comparing_7 e_X3_comparing_7_k (pc' := 89) (lv' := [(1, .int (f_X3_upperRegister  M)), (0, .ref 11)]) (st' := [.ref 11]) (σ' := (M, L)) rfl ⟨trivial, trivial⟩ ?_
        refine x_getE C 10 (by decide) (x_in 827 (by decide +kernel) rfl) (show decode cX3_comparing 89 = .ok (.getstatic 172, 3) from by decide +kernel) ?_
        refine x_run C e_X3_comparing_8 e_X3_comparing_8_k (pc' := 94) (lv' := [(1, .int (f_X3_upperRegister  M)), (0, .ref 11)]) (st' := [.ref 11, .int (f_X3_upperRegister  M), .ref (1000 + 10), .ref 11]) (σ' := (M, L)) rfl ⟨trivial, trivial, trivial⟩ ?_
        refine x_callV C (k := 11) (ci := 2) (rest := [.int (f_X3_upperRegister  M), .ref (1000 + 10), .ref 11]) (avs := []) (k_X3_operand l  M L hI) yoX3_operand ml_X3_111 rfl rfl rfl rfl ⟨Nat.zero_le _, Nat.zero_le _⟩ (show decode cX3_comparing 94 = .ok (.invokevirtual 111, 3) from by decide +kernel) rfl (fun v σ' hPo => ?_)
        obtain ⟨⟨rfl, rfl⟩, g19, hI20⟩ := hPo
        show V 0 0 97 [(1, .int (f_X3_upperRegister  M)), (0, .ref 11)] [.int (f_X3_operand  M), .int (f_X3_upperRegister  M), .ref (1000 + 10), .ref 11] LAY (M, L)
        refine x_run C e_X3_comparing_9 e_X3_comparing_9_k (pc' := 98) (lv' := [(1, .int (f_X3_upperRegister  M)), (0, .ref 11)]) (st' := [.ref 11, .int (f_X3_operand  M), .int (f_X3_upperRegister  M), .ref (1000 + 10), .ref 11]) (σ' := (M, L)) rfl ⟨trivial, trivial⟩ ?_
        refine x_callV C (k := 11) (ci := 2) (rest := [.int (f_X3_operand  M), .int (f_X3_upperRegister  M), .ref (1000 + 10), .ref 11]) (avs := []) (k_X3_z l  M L hI) yoX3_z ml_X3_144 rfl rfl rfl rfl ⟨Nat.zero_le _, Nat.zero_le _⟩ (show decode cX3_comparing 98 = .ok (.invokevirtual 144, 3) from by decide +kernel) rfl (fun v σ' hPo => ?_)
        obtain ⟨⟨rfl, rfl⟩, g22, hI23⟩ := hPo
        show V 0 0 101 [(1, .int (f_X3_upperRegister  M)), (0, .ref 11)] [.int (f_X3_z  M), .int (f_X3_operand  M), .int (f_X3_upperRegister  M), .ref (1000 + 10), .ref 11] LAY (M, L)
        refine x_run C e_X3_comparing_10 e_X3_comparing_10_k (pc' := 102) (lv' := [(1, .int (f_X3_upperRegister  M)), (0, .ref 11)]) (st' := [.ref 11, .int (f_X3_z  M), .int (f_X3_operand  M), .int (f_X3_upperRegister  M), .ref (1000 + 10), .ref 11]) (σ' := (M, L)) rfl ⟨trivial, trivial⟩ ?_
        refine x_callV C (k := 11) (ci := 2) (rest := [.int (f_X3_z  M), .int (f_X3_operand  M), .int (f_X3_upperRegister  M), .ref (1000 + 10), .ref 11]) (avs := []) (k_X3_operand l  M L hI) yoX3_operand ml_X3_111 rfl rfl rfl rfl ⟨Nat.zero_le _, Nat.zero_le _⟩ (show decode cX3_comparing 102 = .ok (.invokevirtual 111, 3) from by decide +kernel) rfl (fun v σ' hPo => ?_)
        obtain ⟨⟨rfl, rfl⟩, g25, hI26⟩ := hPo
        show V 0 0 105 [(1, .int (f_X3_upperRegister  M)), (0, .ref 11)] [.int (f_X3_operand  M), .int (f_X3_z  M), .int (f_X3_operand  M), .int (f_X3_upperRegister  M), .ref (1000 + 10), .ref 11] LAY (M, L)
        refine x_callS C (rest := [.int (f_X3_z  M), .int (f_X3_operand  M), .int (f_X3_upperRegister  M), .ref (1000 + 10), .ref 11]) (avs := [.int (f_X3_operand  M)]) (k_X9_isOpenData l (f_X3_operand  M) M L) yoX9_isOpenData ml_X3_175 rfl ⟨Nat.zero_le _, Nat.zero_le _⟩ (show decode cX3_comparing 105 = .ok (.invokestatic 175, 3) from by decide +kernel) rfl (fun v σ' hPo => ?_)
        obtain ⟨⟨rfl, rfl⟩, g28, -⟩ := hPo
        show V 0 0 108 [(1, .int (f_X3_upperRegister  M)), (0, .ref 11)] [.int (f_X9_isOpenData (f_X3_operand  M)), .int (f_X3_z  M), .int (f_X3_operand  M), .int (f_X3_upperRegister  M), .ref (1000 + 10), .ref 11] LAY (M, L)
        refine x_callV C (k := 11) (ci := 2) (rest := []) (avs := [.ref (1000 + 10), .int (f_X3_upperRegister  M), .int (f_X3_operand  M), .int (f_X3_z  M), .int (f_X9_isOpenData (f_X3_operand  M))]) (k_X3_pair l 10 (f_X3_upperRegister  M) (f_X3_operand  M) (f_X3_z  M) (f_X9_isOpenData (f_X3_operand  M)) M L (show 10 < 66 by decide) hI) yoX3_pair ml_X3_114 rfl rfl rfl rfl ⟨Nat.zero_le _, Nat.zero_le _⟩ (show decode cX3_comparing 108 = .ok (.invokevirtual 114, 3) from by decide +kernel) rfl (fun v σ' hPo => ?_)
        obtain ⟨⟨rfl, rfl⟩, g31, hI32⟩ := hPo
        generalize hq30 : f_X3_pair 10 (f_X3_upperRegister  M) (f_X3_operand  M) (f_X3_z  M) (f_X9_isOpenData (f_X3_operand  M)) M = q30 at h g31 hI32 ⊢
        obtain ⟨r30, M30⟩ := q30
        have h := xb_eq h
        try dsimp only at h g31 hI32
        show V 0 0 111 [(1, .int (f_X3_upperRegister  M)), (0, .ref 11)] [.ref (1000 + r30)] LAY (M30, L)
        subst h
        exact x_aret C (show decode cX3_comparing 111 = .ok (.areturn, 1) from by decide +kernel) (x_finE ⟨⟨rfl, rfl⟩, g31, hI32⟩) (Nat.le_refl 0) (Nat.le_refl 0)
      · rw [if_pos c17] at h
        have g33 : xrg 1 1 (f_X3_mode  M) := (x_c_eq g15 (x_rgc (x := 1) (k := 1) (by decide)) c17).1
        refine x_run C e_X3_comparing_11 e_X3_comparing_11_k (pc' := 65) (lv' := [(1, .int (f_X3_upperRegister  M)), (0, .ref 11)]) (st' := [.ref 11]) (σ' := (M, L)) rfl ⟨trivial, trivial⟩ ?_
        refine x_getE C 7 (by decide) (x_in 822 (by decide +kernel) rfl) (show decode cX3_comparing 65 = .ok (.getstatic 166, 3) from by decide +kernel) ?_
        refine x_run C e_X3_comparing_12 e_X3_comparing_12_k (pc' := 69) (lv' := [(1, .int (f_X3_upperRegister  M)), (0, .ref 11)]) (st' := [.ref 11, .ref (1000 + 7), .ref 11]) (σ' := (M, L)) rfl ⟨trivial, trivial⟩ ?_
        refine x_callV C (k := 11) (ci := 2) (rest := [.ref (1000 + 7), .ref 11]) (avs := []) (k_X3_lowerRegister l  M L hI) yoX3_lowerRegister ml_X3_154 rfl rfl rfl rfl ⟨Nat.zero_le _, Nat.zero_le _⟩ (show decode cX3_comparing 69 = .ok (.invokevirtual 154, 3) from by decide +kernel) rfl (fun v σ' hPo => ?_)
        obtain ⟨⟨rfl, rfl⟩, g35, hI36⟩ := hPo
        show V 0 0 72 [(1, .int (f_X3_upperRegister  M)), (0, .ref 11)] [.int (f_X3_lowerRegister  M), .ref (1000 + 7), .ref 11] LAY (M, L)
        refine x_callS C (rest := [.ref (1000 + 7), .ref 11]) (avs := [.int (f_X3_lowerRegister  M)]) (k_X9_behind l (f_X3_lowerRegister  M) M L) yoX9_behind ml_X3_169 rfl ⟨Nat.zero_le _, Nat.zero_le _⟩ (show decode cX3_comparing 72 = .ok (.invokestatic 169, 3) from by decide +kernel) rfl (fun v σ' hPo => ?_)
        obtain ⟨⟨rfl, rfl⟩, g38, -⟩ := hPo
        show V 0 0 75 [(1, .int (f_X3_upperRegister  M)), (0, .ref 11)] [.int (f_X9_behind (f_X3_lowerRegister  M)), .ref (1000 + 7), .ref 11] LAY (M, L)
        refine x_run C e_X3_comparing_13 e_X3_comparing_13_k (pc' := 76) (lv' := [(1, .int (f_X3_upperRegister  M)), (0, .ref 11)]) (st' := [.int (f_X3_upperRegister  M), .int (f_X9_behind (f_X3_lowerRegister  M)), .ref (1000 + 7), .ref 11]) (σ' := (M, L)) rfl ⟨trivial, trivial⟩ ?_
        refine x_callS C (rest := [.int (f_X9_behind (f_X3_lowerRegister  M)), .ref (1000 + 7), .ref 11]) (avs := [.int (f_X3_upperRegister  M)]) (k_X9_behind l (f_X3_upperRegister  M) M L) yoX9_behind ml_X3_169 rfl ⟨Nat.zero_le _, Nat.zero_le _⟩ (show decode cX3_comparing 76 = .ok (.invokestatic 169, 3) from by decide +kernel) rfl (fun v σ' hPo => ?_)
        obtain ⟨⟨rfl, rfl⟩, g41, -⟩ := hPo
        show V 0 0 79 [(1, .int (f_X3_upperRegister  M)), (0, .ref 11)] [.int (f_X9_behind (f_X3_upperRegister  M)), .int (f_X9_behind (f_X3_lowerRegister  M)), .ref (1000 + 7), .ref 11] LAY (M, L)
        refine x_run C e_X3_comparing_14 e_X3_comparing_14_k (pc' := 80) (lv' := [(1, .int (f_X3_upperRegister  M)), (0, .ref 11)]) (st' := [.ref 11, .int (f_X9_behind (f_X3_upperRegister  M)), .int (f_X9_behind (f_X3_lowerRegister  M)), .ref (1000 + 7), .ref 11]) (σ' := (M, L)) rfl ⟨trivial, trivial⟩ ?_
        refine x_callV C (k := 11) (ci := 2) (rest := [.int (f_X9_behind (f_X3_upperRegister  M)), .int (f_X9_behind (f_X3_lowerRegister  M)), .ref (1000 + 7), .ref 11]) (avs := []) (k_X3_z l  M L hI) yoX3_z ml_X3_144 rfl rfl rfl rfl ⟨Nat.zero_le _, Nat.zero_le _⟩ (show decode cX3_comparing 80 = .ok (.invokevirtual 144, 3) from by decide +kernel) rfl (fun v σ' hPo => ?_)
        obtain ⟨⟨rfl, rfl⟩, g44, hI45⟩ := hPo
        show V 0 0 83 [(1, .int (f_X3_upperRegister  M)), (0, .ref 11)] [.int (f_X3_z  M), .int (f_X9_behind (f_X3_upperRegister  M)), .int (f_X9_behind (f_X3_lowerRegister  M)), .ref (1000 + 7), .ref 11] LAY (M, L)
        refine x_run C e_X3_comparing_15 e_X3_comparing_15_k (pc' := 84) (lv' := [(1, .int (f_X3_upperRegister  M)), (0, .ref 11)]) (st' := [.int 1, .int (f_X3_z  M), .int (f_X9_behind (f_X3_upperRegister  M)), .int (f_X9_behind (f_X3_lowerRegister  M)), .ref (1000 + 7), .ref 11]) (σ' := (M, L)) rfl ⟨trivial, trivial⟩ ?_
        refine x_callV C (k := 11) (ci := 2) (rest := []) (avs := [.ref (1000 + 7), .int (f_X9_behind (f_X3_lowerRegister  M)), .int (f_X9_behind (f_X3_upperRegister  M)), .int (f_X3_z  M), .int 1]) (k_X3_pair l 7 (f_X9_behind (f_X3_lowerRegister  M)) (f_X9_behind (f_X3_upperRegister  M)) (f_X3_z  M) 1 M L (show 7 < 66 by decide) hI) yoX3_pair ml_X3_114 rfl rfl rfl rfl ⟨Nat.zero_le _, Nat.zero_le _⟩ (show decode cX3_comparing 84 = .ok (.invokevirtual 114, 3) from by decide +kernel) rfl (fun v σ' hPo => ?_)
        obtain ⟨⟨rfl, rfl⟩, g47, hI48⟩ := hPo
        generalize hq46 : f_X3_pair 7 (f_X9_behind (f_X3_lowerRegister  M)) (f_X9_behind (f_X3_upperRegister  M)) (f_X3_z  M) 1 M = q46 at h g47 hI48 ⊢
        obtain ⟨r46, M46⟩ := q46
        have h := xb_eq h
        try dsimp only at h g47 hI48
        show V 0 0 87 [(1, .int (f_X3_upperRegister  M)), (0, .ref 11)] [.ref (1000 + r46)] LAY (M46, L)
        subst h
        exact x_aret C (show decode cX3_comparing 87 = .ok (.areturn, 1) from by decide +kernel) (x_finE ⟨⟨rfl, rfl⟩, g47, hI48⟩) (Nat.le_refl 0) (Nat.le_refl 0)
    · rw [if_pos c12] at h
      have g49 : xrg 0 0 (f_X3_bit8  M) := (x_c_eq g10 (x_rgc (x := 0) (k := 0) (by decide)) c12).1
      refine x_run C e_X3_comparing_16 e_X3_comparing_16_k (pc' := 29) (lv' := [(1, .int (f_X3_upperRegister  M)), (0, .ref 11)]) (st' := [.ref 11]) (σ' := (M, L)) rfl ⟨trivial, trivial⟩ ?_
      refine x_getE C 7 (by decide) (x_in 822 (by decide +kernel) rfl) (show decode cX3_comparing 29 = .ok (.getstatic 166, 3) from by decide +kernel) ?_
      refine x_run C e_X3_comparing_17 e_X3_comparing_17_k (pc' := 33) (lv' := [(1, .int (f_X3_upperRegister  M)), (0, .ref 11)]) (st' := [.ref 11, .ref (1000 + 7), .ref 11]) (σ' := (M, L)) rfl ⟨trivial, trivial⟩ ?_
      refine x_callV C (k := 11) (ci := 2) (rest := [.ref (1000 + 7), .ref 11]) (avs := []) (k_X3_operand l  M L hI) yoX3_operand ml_X3_111 rfl rfl rfl rfl ⟨Nat.zero_le _, Nat.zero_le _⟩ (show decode cX3_comparing 33 = .ok (.invokevirtual 111, 3) from by decide +kernel) rfl (fun v σ' hPo => ?_)
      obtain ⟨⟨rfl, rfl⟩, g51, hI52⟩ := hPo
      show V 0 0 36 [(1, .int (f_X3_upperRegister  M)), (0, .ref 11)] [.int (f_X3_operand  M), .ref (1000 + 7), .ref 11] LAY (M, L)
      refine x_run C e_X3_comparing_18 e_X3_comparing_18_k (pc' := 38) (lv' := [(1, .int (f_X3_upperRegister  M)), (0, .ref 11)]) (st' := [.ref 11, .int (f_X3_upperRegister  M), .int (f_X3_operand  M), .ref (1000 + 7), .ref 11]) (σ' := (M, L)) rfl ⟨trivial, trivial, trivial⟩ ?_
      refine x_callV C (k := 11) (ci := 2) (rest := [.int (f_X3_upperRegister  M), .int (f_X3_operand  M), .ref (1000 + 7), .ref 11]) (avs := []) (k_X3_z l  M L hI) yoX3_z ml_X3_144 rfl rfl rfl rfl ⟨Nat.zero_le _, Nat.zero_le _⟩ (show decode cX3_comparing 38 = .ok (.invokevirtual 144, 3) from by decide +kernel) rfl (fun v σ' hPo => ?_)
      obtain ⟨⟨rfl, rfl⟩, g54, hI55⟩ := hPo
      show V 0 0 41 [(1, .int (f_X3_upperRegister  M)), (0, .ref 11)] [.int (f_X3_z  M), .int (f_X3_upperRegister  M), .int (f_X3_operand  M), .ref (1000 + 7), .ref 11] LAY (M, L)
      refine x_run C e_X3_comparing_19 e_X3_comparing_19_k (pc' := 42) (lv' := [(1, .int (f_X3_upperRegister  M)), (0, .ref 11)]) (st' := [.ref 11, .int (f_X3_z  M), .int (f_X3_upperRegister  M), .int (f_X3_operand  M), .ref (1000 + 7), .ref 11]) (σ' := (M, L)) rfl ⟨trivial, trivial⟩ ?_
      refine x_callV C (k := 11) (ci := 2) (rest := [.int (f_X3_z  M), .int (f_X3_upperRegister  M), .int (f_X3_operand  M), .ref (1000 + 7), .ref 11]) (avs := []) (k_X3_operand l  M L hI) yoX3_operand ml_X3_111 rfl rfl rfl rfl ⟨Nat.zero_le _, Nat.zero_le _⟩ (show decode cX3_comparing 42 = .ok (.invokevirtual 111, 3) from by decide +kernel) rfl (fun v σ' hPo => ?_)
      obtain ⟨⟨rfl, rfl⟩, g57, hI58⟩ := hPo
      show V 0 0 45 [(1, .int (f_X3_upperRegister  M)), (0, .ref 11)] [.int (f_X3_operand  M), .int (f_X3_z  M), .int (f_X3_upperRegister  M), .int (f_X3_operand  M), .ref (1000 + 7), .ref 11] LAY (M, L)
      refine x_run C e_X3_comparing_20 e_X3_comparing_20_k (pc' := 46) (lv' := [(1, .int (f_X3_upperRegister  M)), (0, .ref 11)]) (st' := [.ref 11, .int (f_X3_operand  M), .int (f_X3_z  M), .int (f_X3_upperRegister  M), .int (f_X3_operand  M), .ref (1000 + 7), .ref 11]) (σ' := (M, L)) rfl ⟨trivial, trivial⟩ ?_
      refine x_callV C (k := 11) (ci := 2) (rest := [.int (f_X3_operand  M), .int (f_X3_z  M), .int (f_X3_upperRegister  M), .int (f_X3_operand  M), .ref (1000 + 7), .ref 11]) (avs := []) (k_X3_z l  M L hI) yoX3_z ml_X3_144 rfl rfl rfl rfl ⟨Nat.zero_le _, Nat.zero_le _⟩ (show decode cX3_comparing 46 = .ok (.invokevirtual 144, 3) from by decide +kernel) rfl (fun v σ' hPo => ?_)
      obtain ⟨⟨rfl, rfl⟩, g60, hI61⟩ := hPo
      show V 0 0 49 [(1, .int (f_X3_upperRegister  M)), (0, .ref 11)] [.int (f_X3_z  M), .int (f_X3_operand  M), .int (f_X3_z  M), .int (f_X3_upperRegister  M), .int (f_X3_operand  M), .ref (1000 + 7), .ref 11] LAY (M, L)
      refine x_callS C (rest := [.int (f_X3_z  M), .int (f_X3_upperRegister  M), .int (f_X3_operand  M), .ref (1000 + 7), .ref 11]) (avs := [.int (f_X3_operand  M), .int (f_X3_z  M)]) (k_X9_isAny l (f_X3_operand  M) (f_X3_z  M) M L) yoX9_isAny ml_X3_118 rfl ⟨Nat.zero_le _, Nat.zero_le _⟩ (show decode cX3_comparing 49 = .ok (.invokestatic 118, 3) from by decide +kernel) rfl (fun v σ' hPo => ?_)
      obtain ⟨⟨rfl, rfl⟩, g63, -⟩ := hPo
      show V 0 0 52 [(1, .int (f_X3_upperRegister  M)), (0, .ref 11)] [.int (f_X9_isAny (f_X3_operand  M) (f_X3_z  M)), .int (f_X3_z  M), .int (f_X3_upperRegister  M), .int (f_X3_operand  M), .ref (1000 + 7), .ref 11] LAY (M, L)
      refine x_callV C (k := 11) (ci := 2) (rest := []) (avs := [.ref (1000 + 7), .int (f_X3_operand  M), .int (f_X3_upperRegister  M), .int (f_X3_z  M), .int (f_X9_isAny (f_X3_operand  M) (f_X3_z  M))]) (k_X3_pair l 7 (f_X3_operand  M) (f_X3_upperRegister  M) (f_X3_z  M) (f_X9_isAny (f_X3_operand  M) (f_X3_z  M)) M L (show 7 < 66 by decide) hI) yoX3_pair ml_X3_114 rfl rfl rfl rfl ⟨Nat.zero_le _, Nat.zero_le _⟩ (show decode cX3_comparing 52 = .ok (.invokevirtual 114, 3) from by decide +kernel) rfl (fun v σ' hPo => ?_)
      obtain ⟨⟨rfl, rfl⟩, g66, hI67⟩ := hPo
      generalize hq65 : f_X3_pair 7 (f_X3_operand  M) (f_X3_upperRegister  M) (f_X3_z  M) (f_X9_isAny (f_X3_operand  M) (f_X3_z  M)) M = q65 at h g66 hI67 ⊢
      obtain ⟨r65, M65⟩ := q65
      have h := xb_eq h
      try dsimp only at h g66 hI67
      show V 0 0 55 [(1, .int (f_X3_upperRegister  M)), (0, .ref 11)] [.ref (1000 + r65)] LAY (M65, L)
      subst h
      exact x_aret C (show decode cX3_comparing 55 = .ok (.areturn, 1) from by decide +kernel) (x_finE ⟨⟨rfl, rfl⟩, g66, hI67⟩) (Nat.le_refl 0) (Nat.le_refl 0)
  · rw [if_pos c7] at h
    have g68 : xrg 3 3 (f_X3_z  M) := (x_c_eq g5 (x_rgc (x := 3) (k := 3) (by decide)) c7).1
    refine x_run C e_X3_comparing_21 e_X3_comparing_21_k (pc' := 14) (lv' := [(1, .int (f_X3_upperRegister  M)), (0, .ref 11)]) (st' := [.ref 11]) (σ' := (M, L)) rfl ⟨trivial, trivial⟩ ?_
    refine x_getE C 14 (by decide) (x_in 820 (by decide +kernel) rfl) (show decode cX3_comparing 14 = .ok (.getstatic 163, 3) from by decide +kernel) ?_
    refine x_callV C (k := 11) (ci := 2) (rest := []) (avs := [.ref (1000 + 14)]) (k_X3_withAddress l 14 M L (show 14 < 66 by decide) hI) yoX3_withAddress ml_X3_147 rfl rfl rfl rfl ⟨Nat.zero_le _, Nat.zero_le _⟩ (show decode cX3_comparing 17 = .ok (.invokevirtual 147, 3) from by decide +kernel) rfl (fun v σ' hPo => ?_)
    obtain ⟨⟨rfl, rfl⟩, g70, hI71⟩ := hPo
    generalize hq69 : f_X3_withAddress 14 M = q69 at h g70 hI71 ⊢
    obtain ⟨r69, M69⟩ := q69
    have h := xb_eq h
    try dsimp only at h g70 hI71
    show V 0 0 20 [(1, .int (f_X3_upperRegister  M)), (0, .ref 11)] [.ref (1000 + r69)] LAY (M69, L)
    subst h
    exact x_aret C (show decode cX3_comparing 20 = .ok (.areturn, 1) from by decide +kernel) (x_finE ⟨⟨rfl, rfl⟩, g70, hI71⟩) (Nat.le_refl 0) (Nat.le_refl 0)
-- X3_exchanging
def e_X3_exchanging_1 : List xI := [(0, .aload_n 0, 1, .null)]
theorem e_X3_exchanging_1_k : e_X3_exchanging_1.all (fun q => xokB cX3_exchanging q && xokL q) = true := by decide +kernel
def e_X3_exchanging_2 : List xI := [(4, .iconst 1, 1, .int 1)]
theorem e_X3_exchanging_2_k : e_X3_exchanging_2.all (fun q => xokB cX3_exchanging q && xokL q) = true := by decide +kernel
def e_X3_exchanging_3 : List xI := [(8, .aload_n 0, 1, .null)]
theorem e_X3_exchanging_3_k : e_X3_exchanging_3.all (fun q => xokB cX3_exchanging q && xokL q) = true := by decide +kernel
def e_X3_exchanging_4 : List xI := [(12, .iconst 1, 1, .int 1)]
theorem e_X3_exchanging_4_k : e_X3_exchanging_4.all (fun q => xokB cX3_exchanging q && xokL q) = true := by decide +kernel
def e_X3_exchanging_5 : List xI := [(16, .bipush 8, 2, .int 8), (18, .aload_n 0, 1, .null)]
theorem e_X3_exchanging_5_k : e_X3_exchanging_5.all (fun q => xokB cX3_exchanging q && xokL q) = true := by decide +kernel
def e_X3_exchanging_6 : List xI := [(22, .iadd, 1, .null)]
theorem e_X3_exchanging_6_k : e_X3_exchanging_6.all (fun q => xokB cX3_exchanging q && xokL q) = true := by decide +kernel
def e_X3_exchanging_7 : List xI := [(26, .aload_n 0, 1, .null)]
theorem e_X3_exchanging_7_k : e_X3_exchanging_7.all (fun q => xokB cX3_exchanging q && xokL q) = true := by decide +kernel
def e_X3_exchanging_8 : List xI := [(30, .istore_n 1, 1, .null), (31, .aload_n 0, 1, .null)]
theorem e_X3_exchanging_8_k : e_X3_exchanging_8.all (fun q => xokB cX3_exchanging q && xokL q) = true := by decide +kernel
def e_X3_exchanging_9 : List xI := [(35, .aload_n 0, 1, .null)]
theorem e_X3_exchanging_9_k : e_X3_exchanging_9.all (fun q => xokB cX3_exchanging q && xokL q) = true := by decide +kernel
def e_X3_exchanging_10 : List xI := [(39, .iload_n 1, 1, .null), (40, .iconst 2, 1, .int 2), (41, .aload_n 0, 1, .null)]
theorem e_X3_exchanging_10_k : e_X3_exchanging_10.all (fun q => xokB cX3_exchanging q && xokL q) = true := by decide +kernel
def e_X3_exchanging_11 : List xI := [(45, .iconst 1, 1, .int 1)]
theorem e_X3_exchanging_11_k : e_X3_exchanging_11.all (fun q => xokB cX3_exchanging q && xokL q) = true := by decide +kernel
def e_X3_exchanging_12 : List xI := [(49, .aload_n 0, 1, .null)]
theorem e_X3_exchanging_12_k : e_X3_exchanging_12.all (fun q => xokB cX3_exchanging q && xokL q) = true := by decide +kernel
def e_X3_exchanging_13 : List xI := [(53, .iconst 1, 1, .int 1)]
theorem e_X3_exchanging_13_k : e_X3_exchanging_13.all (fun q => xokB cX3_exchanging q && xokL q) = true := by decide +kernel
def e_X3_exchanging_14 : List xI := [(61, .iconst 0, 1, .int 0)]
theorem e_X3_exchanging_14_k : e_X3_exchanging_14.all (fun q => xokB cX3_exchanging q && xokL q) = true := by decide +kernel
def e_X3_exchanging_15 : List xI := [(57, .iconst 1, 1, .int 1)]
theorem e_X3_exchanging_15_k : e_X3_exchanging_15.all (fun q => xokB cX3_exchanging q && xokL q) = true := by decide +kernel
abbrev P_X3_exchanging (r : Nat × St) (L : Nat → Nat → Int64) : Option Value → xG → Prop := fun v σ' => PoE r.1 r.2 L v σ' ∧ r.1 < 66 ∧ InvK INVC r.2
abbrev R_X3_exchanging : Room := { frames := 1, cells := 0, slots := 0, locals := 25 }
abbrev C_X3_exchanging (l : Launch) (r : Nat × St) (L : Nat → Nat → Int64) (V : XJ) : Prop := XC l yX3_exchanging.cls yX3_exchanging.name cX3_exchanging 2 R_X3_exchanging 0 0 fl_X3 kc_X3 LAY.length (xfin (some (.object "SupervisorMachine$Op")) LAY (P_X3_exchanging r L)) V
def f_X3_exchanging_62 (s0 : Int32) (s1 : Int32) (s2 : Int32) (s3 : Int32) (s4 : Nat) (M : St) : Nat × St := (xb (f_X3_pair s4 s3 s2 s1 s0 M) fun q30 => (q30.1, q30.2))
def f_X3_exchanging_57 (s0 : Int32) (s1 : Int32) (s2 : Int32) (s3 : Nat) (M : St) : Nat × St := f_X3_exchanging_62 1 s0 s1 s2 s3 M
def f_X3_exchanging_30 (s0 : Int32) (M : St) : Nat × St := (if (f_X3_z  M) = 1 then f_X3_exchanging_57 2 s0 (f_X3_operand  M) 15 M else (if (f_X3_mode  M) = 1 then f_X3_exchanging_57 2 s0 (f_X3_operand  M) 15 M else f_X3_exchanging_62 0 2 s0 (f_X3_operand  M) 15 M))
def f_X3_exchanging_26  (M : St) : Nat × St := f_X3_exchanging_30 (f_X3_upperRegister  M) M
def f_X3_exchanging (M : St) : Nat × St := (if (f_X3_z  M) = 1 then (if (f_X3_mode  M) = 1 then f_X3_exchanging_30 (8 + (f_X3_upperRegister  M)) M else f_X3_exchanging_26  M) else f_X3_exchanging_26  M)
set_option maxRecDepth 20000 in
set_option maxHeartbeats 4000000 in
theorem b_X3_exchanging_62 {l : Launch} {L : Nat → Nat → Int64} {V : XJ} (r : Nat × St) (C : C_X3_exchanging l r L V) (s0 : Int32) (s1 : Int32) (s2 : Int32) (s3 : Int32) (s4 : Nat) (M : St) (ws0 : xrg 0 1 s0) (ws1 : xrg 2 2 s1) (ws2 : xrg 0 15 s2) (ws3 : xrg 0 63 s3) (bds4 : s4 < 66) (hI : InvK INVC M) (h : f_X3_exchanging_62 s0 s1 s2 s3 s4 M = r) : V 0 0 62 [] [.int s0, .int s1, .int s2, .int s3, .ref (1000 + s4), .ref 11] LAY (M, L) := by
  unfold f_X3_exchanging_62 at h
  refine x_callV C (k := 11) (ci := 2) (rest := []) (avs := [.ref (1000 + s4), .int s3, .int s2, .int s1, .int s0]) (k_X3_pair l s4 s3 s2 s1 s0 M L bds4 hI) yoX3_pair ml_X3_114 rfl rfl rfl rfl ⟨Nat.zero_le _, Nat.zero_le _⟩ (show decode cX3_exchanging 62 = .ok (.invokevirtual 114, 3) from by decide +kernel) rfl (fun v σ' hPo => ?_)
  obtain ⟨⟨rfl, rfl⟩, g31, hI32⟩ := hPo
  generalize hq30 : f_X3_pair s4 s3 s2 s1 s0 M = q30 at h g31 hI32 ⊢
  obtain ⟨r30, M30⟩ := q30
  have h := xb_eq h
  try dsimp only at h g31 hI32
  show V 0 0 65 [] [.ref (1000 + r30)] LAY (M30, L)
  subst h
  exact x_aret C (show decode cX3_exchanging 65 = .ok (.areturn, 1) from by decide +kernel) (x_finE ⟨⟨rfl, rfl⟩, g31, hI32⟩) (Nat.le_refl 0) (Nat.le_refl 0)
set_option maxRecDepth 20000 in
set_option maxHeartbeats 4000000 in
theorem b_X3_exchanging_57 {l : Launch} {L : Nat → Nat → Int64} {V : XJ} (r : Nat × St) (C : C_X3_exchanging l r L V) (s0 : Int32) (s1 : Int32) (s2 : Int32) (s3 : Nat) (M : St) (ws0 : xrg 2 2 s0) (ws1 : xrg 0 15 s1) (ws2 : xrg 0 63 s2) (bds3 : s3 < 66) (hI : InvK INVC M) (h : f_X3_exchanging_57 s0 s1 s2 s3 M = r) : V 0 0 57 [] [.int s0, .int s1, .int s2, .ref (1000 + s3), .ref 11] LAY (M, L) := by
  unfold f_X3_exchanging_57 at h
  refine x_run C e_X3_exchanging_15 e_X3_exchanging_15_k (pc' := 58) (lv' := []) (st' := [.int 1, .int s0, .int s1, .int s2, .ref (1000 + s3), .ref 11]) (σ' := (M, L)) rfl ⟨trivial, trivial⟩ ?_
  refine x_goto C (show decode cX3_exchanging 58 = .ok (.goto 4, 3) from by decide +kernel) (tgt := 62) (by decide) ?_
  exact b_X3_exchanging_62 r C 1 s0 s1 s2 s3 M (x_rgw (x_rgc (x := 1) (k := 1) (by decide)) (lo' := 0) (hi' := 1) (by decide) (by decide)) ws0 ws1 ws2 bds3 hI h
set_option maxRecDepth 20000 in
set_option maxHeartbeats 4000000 in
theorem b_X3_exchanging_30 {l : Launch} {L : Nat → Nat → Int64} {V : XJ} (r : Nat × St) (C : C_X3_exchanging l r L V) (s0 : Int32) (M : St) (ws0 : xrg 0 15 s0) (hI : InvK INVC M) (h : f_X3_exchanging_30 s0 M = r) : V 0 0 30 [(0, .ref 11)] [.int s0] LAY (M, L) := by
  unfold f_X3_exchanging_30 at h
  refine x_run C e_X3_exchanging_8 e_X3_exchanging_8_k (pc' := 32) (lv' := [(1, .int s0), (0, .ref 11)]) (st' := [.ref 11]) (σ' := (M, L)) rfl ⟨trivial, trivial, trivial⟩ ?_
  refine x_getE C 15 (by decide) (x_in 843 (by decide +kernel) rfl) (show decode cX3_exchanging 32 = .ok (.getstatic 184, 3) from by decide +kernel) ?_
  refine x_run C e_X3_exchanging_9 e_X3_exchanging_9_k (pc' := 36) (lv' := [(1, .int s0), (0, .ref 11)]) (st' := [.ref 11, .ref (1000 + 15), .ref 11]) (σ' := (M, L)) rfl ⟨trivial, trivial⟩ ?_
  refine x_callV C (k := 11) (ci := 2) (rest := [.ref (1000 + 15), .ref 11]) (avs := []) (k_X3_operand l  M L hI) yoX3_operand ml_X3_111 rfl rfl rfl rfl ⟨Nat.zero_le _, Nat.zero_le _⟩ (show decode cX3_exchanging 36 = .ok (.invokevirtual 111, 3) from by decide +kernel) rfl (fun v σ' hPo => ?_)
  obtain ⟨⟨rfl, rfl⟩, g18, hI19⟩ := hPo
  show V 0 0 39 [(1, .int s0), (0, .ref 11)] [.int (f_X3_operand  M), .ref (1000 + 15), .ref 11] LAY (M, L)
  refine x_run C e_X3_exchanging_10 e_X3_exchanging_10_k (pc' := 42) (lv' := [(1, .int s0), (0, .ref 11)]) (st' := [.ref 11, .int 2, .int s0, .int (f_X3_operand  M), .ref (1000 + 15), .ref 11]) (σ' := (M, L)) rfl ⟨trivial, trivial, trivial, trivial⟩ ?_
  refine x_callV C (k := 11) (ci := 2) (rest := [.int 2, .int s0, .int (f_X3_operand  M), .ref (1000 + 15), .ref 11]) (avs := []) (k_X3_z l  M L hI) yoX3_z ml_X3_144 rfl rfl rfl rfl ⟨Nat.zero_le _, Nat.zero_le _⟩ (show decode cX3_exchanging 42 = .ok (.invokevirtual 144, 3) from by decide +kernel) rfl (fun v σ' hPo => ?_)
  obtain ⟨⟨rfl, rfl⟩, g21, hI22⟩ := hPo
  show V 0 0 45 [(1, .int s0), (0, .ref 11)] [.int (f_X3_z  M), .int 2, .int s0, .int (f_X3_operand  M), .ref (1000 + 15), .ref 11] LAY (M, L)
  refine x_run C e_X3_exchanging_11 e_X3_exchanging_11_k (pc' := 46) (lv' := [(1, .int s0), (0, .ref 11)]) (st' := [.int 1, .int (f_X3_z  M), .int 2, .int s0, .int (f_X3_operand  M), .ref (1000 + 15), .ref 11]) (σ' := (M, L)) rfl ⟨trivial, trivial⟩ ?_
  refine x_icmp_eq C (show decode cX3_exchanging 46 = .ok (.if_icmp .eq 11, 3) from by decide +kernel) (tgt := 57) (by decide) (fun c23 => ?_) (fun c23 => ?_)
  · rw [if_pos c23] at h
    have g24 : xrg 1 1 (f_X3_z  M) := (x_c_eq g21 (x_rgc (x := 1) (k := 1) (by decide)) c23).1
    refine x_lv C [] rfl ?_
    exact b_X3_exchanging_57 r C 2 s0 (f_X3_operand  M) 15 M (x_rgc (x := 2) (k := 2) (by decide)) ws0 g18 (show 15 < 66 by decide) hI h
  · rw [if_neg c23] at h
    refine x_run C e_X3_exchanging_12 e_X3_exchanging_12_k (pc' := 50) (lv' := [(1, .int s0), (0, .ref 11)]) (st' := [.ref 11, .int 2, .int s0, .int (f_X3_operand  M), .ref (1000 + 15), .ref 11]) (σ' := (M, L)) rfl ⟨trivial, trivial⟩ ?_
    refine x_callV C (k := 11) (ci := 2) (rest := [.int 2, .int s0, .int (f_X3_operand  M), .ref (1000 + 15), .ref 11]) (avs := []) (k_X3_mode l  M L hI) yoX3_mode ml_X3_151 rfl rfl rfl rfl ⟨Nat.zero_le _, Nat.zero_le _⟩ (show decode cX3_exchanging 50 = .ok (.invokevirtual 151, 3) from by decide +kernel) rfl (fun v σ' hPo => ?_)
    obtain ⟨⟨rfl, rfl⟩, g26, hI27⟩ := hPo
    show V 0 0 53 [(1, .int s0), (0, .ref 11)] [.int (f_X3_mode  M), .int 2, .int s0, .int (f_X3_operand  M), .ref (1000 + 15), .ref 11] LAY (M, L)
    refine x_run C e_X3_exchanging_13 e_X3_exchanging_13_k (pc' := 54) (lv' := [(1, .int s0), (0, .ref 11)]) (st' := [.int 1, .int (f_X3_mode  M), .int 2, .int s0, .int (f_X3_operand  M), .ref (1000 + 15), .ref 11]) (σ' := (M, L)) rfl ⟨trivial, trivial⟩ ?_
    refine x_icmp_ne C (show decode cX3_exchanging 54 = .ok (.if_icmp .ne 7, 3) from by decide +kernel) (tgt := 61) (by decide) (fun c28 => ?_) (fun c28 => ?_)
    · rw [if_neg c28] at h
      refine x_run C e_X3_exchanging_14 e_X3_exchanging_14_k (pc' := 62) (lv' := [(1, .int s0), (0, .ref 11)]) (st' := [.int 0, .int 2, .int s0, .int (f_X3_operand  M), .ref (1000 + 15), .ref 11]) (σ' := (M, L)) rfl ⟨trivial, trivial⟩ ?_
      refine x_lv C [] rfl ?_
      exact b_X3_exchanging_62 r C 0 2 s0 (f_X3_operand  M) 15 M (x_rgw (x_rgc (x := 0) (k := 0) (by decide)) (lo' := 0) (hi' := 1) (by decide) (by decide)) (x_rgc (x := 2) (k := 2) (by decide)) ws0 g18 (show 15 < 66 by decide) hI h
    · rw [if_pos c28] at h
      have g29 : xrg 1 1 (f_X3_mode  M) := (x_c_eq g26 (x_rgc (x := 1) (k := 1) (by decide)) c28).1
      refine x_lv C [] rfl ?_
      exact b_X3_exchanging_57 r C 2 s0 (f_X3_operand  M) 15 M (x_rgc (x := 2) (k := 2) (by decide)) ws0 g18 (show 15 < 66 by decide) hI h
set_option maxRecDepth 20000 in
set_option maxHeartbeats 4000000 in
theorem b_X3_exchanging_26 {l : Launch} {L : Nat → Nat → Int64} {V : XJ} (r : Nat × St) (C : C_X3_exchanging l r L V)  (M : St) (hI : InvK INVC M) (h : f_X3_exchanging_26  M = r) : V 0 0 26 [(0, .ref 11)] [] LAY (M, L) := by
  unfold f_X3_exchanging_26 at h
  refine x_run C e_X3_exchanging_7 e_X3_exchanging_7_k (pc' := 27) (lv' := [(0, .ref 11)]) (st' := [.ref 11]) (σ' := (M, L)) rfl ⟨trivial, trivial⟩ ?_
  refine x_callV C (k := 11) (ci := 2) (rest := []) (avs := []) (k_X3_upperRegister l  M L hI) yoX3_upperRegister ml_X3_141 rfl rfl rfl rfl ⟨Nat.zero_le _, Nat.zero_le _⟩ (show decode cX3_exchanging 27 = .ok (.invokevirtual 141, 3) from by decide +kernel) rfl (fun v σ' hPo => ?_)
  obtain ⟨⟨rfl, rfl⟩, g15, hI16⟩ := hPo
  show V 0 0 30 [(0, .ref 11)] [.int (f_X3_upperRegister  M)] LAY (M, L)
  exact b_X3_exchanging_30 r C (f_X3_upperRegister  M) M (x_rgw g15 (lo' := 0) (hi' := 15) (by decide) (by decide)) hI h
set_option maxRecDepth 20000 in
set_option maxHeartbeats 4000000 in
theorem k_X3_exchanging (l : Launch) (M : St) (L : Nat → Nat → Int64) (hI : InvK INVC M) : XM l yX3_exchanging cX3_exchanging 2 (some (.object "SupervisorMachine$Op")) R_X3_exchanging LAY [.ref 11] (M, L) (P_X3_exchanging (f_X3_exchanging M) L) := by
  refine XM.of (by decide) (Nat.le_of_ble_eq_true rfl) LAY_in cl_ok fl_X3_ok kc_X3_ok (fun V C => ?_)
  obtain ⟨r, h⟩ : ∃ r, f_X3_exchanging M = r := ⟨_, rfl⟩
  rw [h] at C
  change C_X3_exchanging l r L V at C
  unfold f_X3_exchanging at h
  show V 0 0 0 [(0, .ref 11)] [] LAY (M, L)
  refine x_run C e_X3_exchanging_1 e_X3_exchanging_1_k (pc' := 1) (lv' := [(0, .ref 11)]) (st' := [.ref 11]) (σ' := (M, L)) rfl ⟨trivial, trivial⟩ ?_
  refine x_callV C (k := 11) (ci := 2) (rest := []) (avs := []) (k_X3_z l  M L hI) yoX3_z ml_X3_144 rfl rfl rfl rfl ⟨Nat.zero_le _, Nat.zero_le _⟩ (show decode cX3_exchanging 1 = .ok (.invokevirtual 144, 3) from by decide +kernel) rfl (fun v σ' hPo => ?_)
  obtain ⟨⟨rfl, rfl⟩, g2, hI3⟩ := hPo
  show V 0 0 4 [(0, .ref 11)] [.int (f_X3_z  M)] LAY (M, L)
  refine x_run C e_X3_exchanging_2 e_X3_exchanging_2_k (pc' := 5) (lv' := [(0, .ref 11)]) (st' := [.int 1, .int (f_X3_z  M)]) (σ' := (M, L)) rfl ⟨trivial, trivial⟩ ?_
  refine x_icmp_ne C (show decode cX3_exchanging 5 = .ok (.if_icmp .ne 21, 3) from by decide +kernel) (tgt := 26) (by decide) (fun c4 => ?_) (fun c4 => ?_)
  · rw [if_neg c4] at h
    exact b_X3_exchanging_26 r C  M hI h
  · rw [if_pos c4] at h
    have g5 : xrg 1 1 (f_X3_z  M) := (x_c_eq g2 (x_rgc (x := 1) (k := 1) (by decide)) c4).1
    refine x_run C e_X3_exchanging_3 e_X3_exchanging_3_k (pc' := 9) (lv' := [(0, .ref 11)]) (st' := [.ref 11]) (σ' := (M, L)) rfl ⟨trivial, trivial⟩ ?_
    refine x_callV C (k := 11) (ci := 2) (rest := []) (avs := []) (k_X3_mode l  M L hI) yoX3_mode ml_X3_151 rfl rfl rfl rfl ⟨Nat.zero_le _, Nat.zero_le _⟩ (show decode cX3_exchanging 9 = .ok (.invokevirtual 151, 3) from by decide +kernel) rfl (fun v σ' hPo => ?_)
    obtain ⟨⟨rfl, rfl⟩, g7, hI8⟩ := hPo
    show V 0 0 12 [(0, .ref 11)] [.int (f_X3_mode  M)] LAY (M, L)
    refine x_run C e_X3_exchanging_4 e_X3_exchanging_4_k (pc' := 13) (lv' := [(0, .ref 11)]) (st' := [.int 1, .int (f_X3_mode  M)]) (σ' := (M, L)) rfl ⟨trivial, trivial⟩ ?_
    refine x_icmp_ne C (show decode cX3_exchanging 13 = .ok (.if_icmp .ne 13, 3) from by decide +kernel) (tgt := 26) (by decide) (fun c9 => ?_) (fun c9 => ?_)
    · rw [if_neg c9] at h
      exact b_X3_exchanging_26 r C  M hI h
    · rw [if_pos c9] at h
      have g10 : xrg 1 1 (f_X3_mode  M) := (x_c_eq g7 (x_rgc (x := 1) (k := 1) (by decide)) c9).1
      refine x_run C e_X3_exchanging_5 e_X3_exchanging_5_k (pc' := 19) (lv' := [(0, .ref 11)]) (st' := [.ref 11, .int 8]) (σ' := (M, L)) rfl ⟨trivial, trivial, trivial⟩ ?_
      refine x_callV C (k := 11) (ci := 2) (rest := [.int 8]) (avs := []) (k_X3_upperRegister l  M L hI) yoX3_upperRegister ml_X3_141 rfl rfl rfl rfl ⟨Nat.zero_le _, Nat.zero_le _⟩ (show decode cX3_exchanging 19 = .ok (.invokevirtual 141, 3) from by decide +kernel) rfl (fun v σ' hPo => ?_)
      obtain ⟨⟨rfl, rfl⟩, g12, hI13⟩ := hPo
      show V 0 0 22 [(0, .ref 11)] [.int (f_X3_upperRegister  M), .int 8] LAY (M, L)
      refine x_run C e_X3_exchanging_6 e_X3_exchanging_6_k (pc' := 23) (lv' := [(0, .ref 11)]) (st' := [.int (8 + (f_X3_upperRegister  M))]) (σ' := (M, L)) rfl ⟨trivial, trivial⟩ ?_
      refine x_goto C (show decode cX3_exchanging 23 = .ok (.goto 7, 3) from by decide +kernel) (tgt := 30) (by decide) ?_
      exact b_X3_exchanging_30 r C (8 + (f_X3_upperRegister  M)) M (x_rgw (x_rg_add (x_rgc (x := 8) (k := 8) (by decide)) g12 (by decide) (by decide)) (lo' := 0) (hi' := 15) (by decide) (by decide)) hI h
-- X3_joining
def e_X3_joining_1 : List xI := [(0, .aload_n 0, 1, .null)]
theorem e_X3_joining_1_k : e_X3_joining_1.all (fun q => xokB cX3_joining q && xokL q) = true := by decide +kernel
def e_X3_joining_2 : List xI := [(4, .istore 4, 2, .null), (6, .aload_n 0, 1, .null)]
theorem e_X3_joining_2_k : e_X3_joining_2.all (fun q => xokB cX3_joining q && xokL q) = true := by decide +kernel
def e_X3_joining_3 : List xI := [(10, .iconst 3, 1, .int 3)]
theorem e_X3_joining_3_k : e_X3_joining_3.all (fun q => xokB cX3_joining q && xokL q) = true := by decide +kernel
def e_X3_joining_4 : List xI := [(34, .aload_n 0, 1, .null)]
theorem e_X3_joining_4_k : e_X3_joining_4.all (fun q => xokB cX3_joining q && xokL q) = true := by decide +kernel
def e_X3_joining_5 : List xI := [(64, .aload_n 0, 1, .null)]
theorem e_X3_joining_5_k : e_X3_joining_5.all (fun q => xokB cX3_joining q && xokL q) = true := by decide +kernel
def e_X3_joining_6 : List xI := [(68, .iconst 1, 1, .int 1)]
theorem e_X3_joining_6_k : e_X3_joining_6.all (fun q => xokB cX3_joining q && xokL q) = true := by decide +kernel
def e_X3_joining_7 : List xI := [(95, .aload_n 0, 1, .null)]
theorem e_X3_joining_7_k : e_X3_joining_7.all (fun q => xokB cX3_joining q && xokL q) = true := by decide +kernel
def e_X3_joining_8 : List xI := [(102, .aload_n 0, 1, .null)]
theorem e_X3_joining_8_k : e_X3_joining_8.all (fun q => xokB cX3_joining q && xokL q) = true := by decide +kernel
def e_X3_joining_9 : List xI := [(109, .aload_n 0, 1, .null), (110, .aload_n 3, 1, .null), (111, .aload_n 0, 1, .null)]
theorem e_X3_joining_9_k : e_X3_joining_9.all (fun q => xokB cX3_joining q && xokL q) = true := by decide +kernel
def e_X3_joining_10 : List xI := [(115, .iload 4, 2, .null), (117, .iconst 0, 1, .int 0), (118, .iconst 1, 1, .int 1)]
theorem e_X3_joining_10_k : e_X3_joining_10.all (fun q => xokB cX3_joining q && xokL q) = true := by decide +kernel
def e_X3_joining_11 : List xI := [(72, .aload_n 0, 1, .null), (73, .aload_n 1, 1, .null), (74, .iload 4, 2, .null), (76, .aload_n 0, 1, .null)]
theorem e_X3_joining_11_k : e_X3_joining_11.all (fun q => xokB cX3_joining q && xokL q) = true := by decide +kernel
def e_X3_joining_12 : List xI := [(80, .aload_n 0, 1, .null)]
theorem e_X3_joining_12_k : e_X3_joining_12.all (fun q => xokB cX3_joining q && xokL q) = true := by decide +kernel
def e_X3_joining_13 : List xI := [(84, .aload_n 0, 1, .null)]
theorem e_X3_joining_13_k : e_X3_joining_13.all (fun q => xokB cX3_joining q && xokL q) = true := by decide +kernel
def e_X3_joining_14 : List xI := [(41, .aload_n 0, 1, .null), (42, .aload_n 1, 1, .null), (43, .aload_n 0, 1, .null)]
theorem e_X3_joining_14_k : e_X3_joining_14.all (fun q => xokB cX3_joining q && xokL q) = true := by decide +kernel
def e_X3_joining_15 : List xI := [(47, .iload 4, 2, .null), (49, .aload_n 0, 1, .null)]
theorem e_X3_joining_15_k : e_X3_joining_15.all (fun q => xokB cX3_joining q && xokL q) = true := by decide +kernel
def e_X3_joining_16 : List xI := [(53, .aload_n 0, 1, .null)]
theorem e_X3_joining_16_k : e_X3_joining_16.all (fun q => xokB cX3_joining q && xokL q) = true := by decide +kernel
def e_X3_joining_17 : List xI := [(14, .aload_n 0, 1, .null), (15, .aload_n 2, 1, .null), (16, .aload_n 0, 1, .null)]
theorem e_X3_joining_17_k : e_X3_joining_17.all (fun q => xokB cX3_joining q && xokL q) = true := by decide +kernel
def e_X3_joining_18 : List xI := [(20, .iload 4, 2, .null), (22, .iconst 1, 1, .int 1), (23, .aload_n 0, 1, .null)]
theorem e_X3_joining_18_k : e_X3_joining_18.all (fun q => xokB cX3_joining q && xokL q) = true := by decide +kernel
def e_X3_joining_19 : List xI := [(123, .aload_n 0, 1, .null)]
theorem e_X3_joining_19_k : e_X3_joining_19.all (fun q => xokB cX3_joining q && xokL q) = true := by decide +kernel
def e_X3_joining_20 : List xI := [(150, .aload_n 1, 1, .null)]
theorem e_X3_joining_20_k : e_X3_joining_20.all (fun q => xokB cX3_joining q && xokL q) = true := by decide +kernel
def e_X3_joining_21 : List xI := [(157, .aload_n 0, 1, .null)]
theorem e_X3_joining_21_k : e_X3_joining_21.all (fun q => xokB cX3_joining q && xokL q) = true := by decide +kernel
def e_X3_joining_22 : List xI := [(130, .aload_n 0, 1, .null), (131, .aload_n 3, 1, .null), (132, .aload_n 0, 1, .null)]
theorem e_X3_joining_22_k : e_X3_joining_22.all (fun q => xokB cX3_joining q && xokL q) = true := by decide +kernel
def e_X3_joining_23 : List xI := [(139, .iload 4, 2, .null)]
theorem e_X3_joining_23_k : e_X3_joining_23.all (fun q => xokB cX3_joining q && xokL q) = true := by decide +kernel
def e_X3_joining_24 : List xI := [(144, .iconst 0, 1, .int 0), (145, .iconst 1, 1, .int 1)]
theorem e_X3_joining_24_k : e_X3_joining_24.all (fun q => xokB cX3_joining q && xokL q) = true := by decide +kernel
abbrev P_X3_joining (r : Nat × St) (L : Nat → Nat → Int64) : Option Value → xG → Prop := fun v σ' => PoE r.1 r.2 L v σ' ∧ r.1 < 66 ∧ InvK INVC r.2
abbrev R_X3_joining : Room := { frames := 2, cells := 0, slots := 0, locals := 46 }
abbrev C_X3_joining (l : Launch) (r : Nat × St) (L : Nat → Nat → Int64) (V : XJ) : Prop := XC l yX3_joining.cls yX3_joining.name cX3_joining 5 R_X3_joining 0 0 fl_X3 kc_X3 LAY.length (xfin (some (.object "SupervisorMachine$Op")) LAY (P_X3_joining r L)) V
def f_X3_joining_123 (x1 : Nat) (x3 : Nat) (x4 : Int32) (M : St) : Nat × St := (if (f_X3_z  M) = 0 then (xb (f_X3_pair x3 (f_X9_before (f_X3_lowerRegister  M)) (f_X9_before x4) 0 1 M) fun q101 => (q101.1, q101.2)) else (if x1 = 8 then (xb (f_X3_exchanging  M) fun q88 => (q88.1, q88.2)) else (65, M)))
def f_X3_joining (a1 : Nat) (a2 : Nat) (a3 : Nat) (M : St) : Nat × St := (if (f_X3_z  M) = 3 then (xb (f_X3_pair a2 (f_X3_operand  M) (f_X3_upperRegister  M) 1 (f_X9_isData (f_X3_operand  M)) M) fun q79 => (q79.1, q79.2)) else (if (f_X3_bit8  M) = 0 then (xb (f_X3_pair a1 (f_X3_operand  M) (f_X3_upperRegister  M) (f_X3_z  M) (f_X9_isData (f_X3_operand  M)) M) fun q66 => (q66.1, q66.2)) else (if (f_X3_mode  M) ≤ 1 then (if (f_X3_z  M) = 0 then (if (f_X3_mode  M) = 0 then (xb (f_X3_pair a3 (f_X3_lowerRegister  M) (f_X3_upperRegister  M) 0 1 M) fun q34 => (q34.1, q34.2)) else f_X3_joining_123 a1 a3 (f_X3_upperRegister  M) M) else f_X3_joining_123 a1 a3 (f_X3_upperRegister  M) M) else (xb (f_X3_pair a1 (f_X3_upperRegister  M) (f_X3_operand  M) (f_X3_z  M) (f_X9_isOpenMemory (f_X3_operand  M)) M) fun q50 => (q50.1, q50.2)))))
set_option maxRecDepth 20000 in
set_option maxHeartbeats 4000000 in
theorem b_X3_joining_123 {l : Launch} {L : Nat → Nat → Int64} {V : XJ} (r : Nat × St) (C : C_X3_joining l r L V) (x1 : Nat) (x3 : Nat) (x4 : Int32) (M : St) (bdx1 : x1 < 66) (bdx3 : x3 < 66) (wx4 : xrg 0 7 x4) (hI : InvK INVC M) (h : f_X3_joining_123 x1 x3 x4 M = r) : V 0 0 123 [(0, .ref 11), (1, .ref (1000 + x1)), (3, .ref (1000 + x3)), (4, .int x4)] [] LAY (M, L) := by
  unfold f_X3_joining_123 at h
  refine x_run C e_X3_joining_19 e_X3_joining_19_k (pc' := 124) (lv' := [(0, .ref 11), (1, .ref (1000 + x1)), (3, .ref (1000 + x3)), (4, .int x4)]) (st' := [.ref 11]) (σ' := (M, L)) rfl ⟨trivial, trivial⟩ ?_
  refine x_callV C (k := 11) (ci := 2) (rest := []) (avs := []) (k_X3_z l  M L hI) yoX3_z ml_X3_144 rfl rfl rfl rfl ⟨Nat.zero_le _, Nat.zero_le _⟩ (show decode cX3_joining 124 = .ok (.invokevirtual 144, 3) from by decide +kernel) rfl (fun v σ' hPo => ?_)
  obtain ⟨⟨rfl, rfl⟩, g83, hI84⟩ := hPo
  show V 0 0 127 [(0, .ref 11), (1, .ref (1000 + x1)), (3, .ref (1000 + x3)), (4, .int x4)] [.int (f_X3_z  M)] LAY (M, L)
  refine x_if_ne C (show decode cX3_joining 127 = .ok (.ifCond .ne 23, 3) from by decide +kernel) (tgt := 150) (by decide) (fun c85 => ?_) (fun c85 => ?_)
  · rw [if_neg c85] at h
    have g86 : xrg 1 3 (f_X3_z  M) := (x_c_ne g83 (by decide) c85)
    refine x_run C e_X3_joining_20 e_X3_joining_20_k (pc' := 151) (lv' := [(0, .ref 11), (1, .ref (1000 + x1)), (3, .ref (1000 + x3)), (4, .int x4)]) (st' := [.ref (1000 + x1)]) (σ' := (M, L)) rfl ⟨trivial, trivial⟩ ?_
    refine x_getE C 8 (by decide) (x_in 829 (by decide +kernel) rfl) (show decode cX3_joining 151 = .ok (.getstatic 50, 3) from by decide +kernel) ?_
    refine x_acmp_ne C bdx1 (show 8 < 66 by decide) (show decode cX3_joining 154 = .ok (.if_acmp .ne 10, 3) from by decide +kernel) (tgt := 164) (by decide) (fun c87 => ?_) (fun c87 => ?_)
    · rw [if_neg c87] at h
      refine x_getE C 65 (by decide) (x_in 678 (by decide +kernel) rfl) (show decode cX3_joining 164 = .ok (.getstatic 108, 3) from by decide +kernel) ?_
      subst h
      exact x_aret C (show decode cX3_joining 167 = .ok (.areturn, 1) from by decide +kernel) (x_finE ⟨⟨rfl, rfl⟩, (show 65 < 66 by decide), hI⟩) (Nat.le_refl 0) (Nat.le_refl 0)
    · rw [if_pos c87] at h
      refine x_run C e_X3_joining_21 e_X3_joining_21_k (pc' := 158) (lv' := [(0, .ref 11), (1, .ref (1000 + x1)), (3, .ref (1000 + x3)), (4, .int x4)]) (st' := [.ref 11]) (σ' := (M, L)) rfl ⟨trivial, trivial⟩ ?_
      refine x_callV C (k := 11) (ci := 2) (rest := []) (avs := []) (k_X3_exchanging l  M L hI) yoX3_exchanging ml_X3_181 rfl rfl rfl rfl ⟨Nat.zero_le _, Nat.zero_le _⟩ (show decode cX3_joining 158 = .ok (.invokevirtual 181, 3) from by decide +kernel) rfl (fun v σ' hPo => ?_)
      obtain ⟨⟨rfl, rfl⟩, g89, hI90⟩ := hPo
      generalize hq88 : f_X3_exchanging  M = q88 at h g89 hI90 ⊢
      obtain ⟨r88, M88⟩ := q88
      have h := xb_eq h
      try dsimp only at h g89 hI90
      show V 0 0 161 [(0, .ref 11), (1, .ref (1000 + x1)), (3, .ref (1000 + x3)), (4, .int x4)] [.ref (1000 + r88)] LAY (M88, L)
      refine x_goto C (show decode cX3_joining 161 = .ok (.goto 6, 3) from by decide +kernel) (tgt := 167) (by decide) ?_
      subst h
      exact x_aret C (show decode cX3_joining 167 = .ok (.areturn, 1) from by decide +kernel) (x_finE ⟨⟨rfl, rfl⟩, g89, hI90⟩) (Nat.le_refl 0) (Nat.le_refl 0)
  · rw [if_pos c85] at h
    have g91 : xrg 0 0 (f_X3_z  M) := (x_c_eq g83 (x_rgc (x := 0) (k := 0) (by decide)) c85).1
    refine x_run C e_X3_joining_22 e_X3_joining_22_k (pc' := 133) (lv' := [(0, .ref 11), (1, .ref (1000 + x1)), (3, .ref (1000 + x3)), (4, .int x4)]) (st' := [.ref 11, .ref (1000 + x3), .ref 11]) (σ' := (M, L)) rfl ⟨trivial, trivial, trivial, trivial⟩ ?_
    refine x_callV C (k := 11) (ci := 2) (rest := [.ref (1000 + x3), .ref 11]) (avs := []) (k_X3_lowerRegister l  M L hI) yoX3_lowerRegister ml_X3_154 rfl rfl rfl rfl ⟨Nat.zero_le _, Nat.zero_le _⟩ (show decode cX3_joining 133 = .ok (.invokevirtual 154, 3) from by decide +kernel) rfl (fun v σ' hPo => ?_)
    obtain ⟨⟨rfl, rfl⟩, g93, hI94⟩ := hPo
    show V 0 0 136 [(0, .ref 11), (1, .ref (1000 + x1)), (3, .ref (1000 + x3)), (4, .int x4)] [.int (f_X3_lowerRegister  M), .ref (1000 + x3), .ref 11] LAY (M, L)
    refine x_callS C (rest := [.ref (1000 + x3), .ref 11]) (avs := [.int (f_X3_lowerRegister  M)]) (k_X9_before l (f_X3_lowerRegister  M) M L) yoX9_before ml_X3_157 rfl ⟨Nat.zero_le _, Nat.zero_le _⟩ (show decode cX3_joining 136 = .ok (.invokestatic 157, 3) from by decide +kernel) rfl (fun v σ' hPo => ?_)
    obtain ⟨⟨rfl, rfl⟩, g96, -⟩ := hPo
    show V 0 0 139 [(0, .ref 11), (1, .ref (1000 + x1)), (3, .ref (1000 + x3)), (4, .int x4)] [.int (f_X9_before (f_X3_lowerRegister  M)), .ref (1000 + x3), .ref 11] LAY (M, L)
    refine x_run C e_X3_joining_23 e_X3_joining_23_k (pc' := 141) (lv' := [(0, .ref 11), (1, .ref (1000 + x1)), (3, .ref (1000 + x3)), (4, .int x4)]) (st' := [.int x4, .int (f_X9_before (f_X3_lowerRegister  M)), .ref (1000 + x3), .ref 11]) (σ' := (M, L)) rfl ⟨trivial, trivial⟩ ?_
    refine x_callS C (rest := [.int (f_X9_before (f_X3_lowerRegister  M)), .ref (1000 + x3), .ref 11]) (avs := [.int x4]) (k_X9_before l x4 M L) yoX9_before ml_X3_157 rfl ⟨Nat.zero_le _, Nat.zero_le _⟩ (show decode cX3_joining 141 = .ok (.invokestatic 157, 3) from by decide +kernel) rfl (fun v σ' hPo => ?_)
    obtain ⟨⟨rfl, rfl⟩, g99, -⟩ := hPo
    show V 0 0 144 [(0, .ref 11), (1, .ref (1000 + x1)), (3, .ref (1000 + x3)), (4, .int x4)] [.int (f_X9_before x4), .int (f_X9_before (f_X3_lowerRegister  M)), .ref (1000 + x3), .ref 11] LAY (M, L)
    refine x_run C e_X3_joining_24 e_X3_joining_24_k (pc' := 146) (lv' := [(0, .ref 11), (1, .ref (1000 + x1)), (3, .ref (1000 + x3)), (4, .int x4)]) (st' := [.int 1, .int 0, .int (f_X9_before x4), .int (f_X9_before (f_X3_lowerRegister  M)), .ref (1000 + x3), .ref 11]) (σ' := (M, L)) rfl ⟨trivial, trivial, trivial⟩ ?_
    refine x_callV C (k := 11) (ci := 2) (rest := []) (avs := [.ref (1000 + x3), .int (f_X9_before (f_X3_lowerRegister  M)), .int (f_X9_before x4), .int 0, .int 1]) (k_X3_pair l x3 (f_X9_before (f_X3_lowerRegister  M)) (f_X9_before x4) 0 1 M L bdx3 hI) yoX3_pair ml_X3_114 rfl rfl rfl rfl ⟨Nat.zero_le _, Nat.zero_le _⟩ (show decode cX3_joining 146 = .ok (.invokevirtual 114, 3) from by decide +kernel) rfl (fun v σ' hPo => ?_)
    obtain ⟨⟨rfl, rfl⟩, g102, hI103⟩ := hPo
    generalize hq101 : f_X3_pair x3 (f_X9_before (f_X3_lowerRegister  M)) (f_X9_before x4) 0 1 M = q101 at h g102 hI103 ⊢
    obtain ⟨r101, M101⟩ := q101
    have h := xb_eq h
    try dsimp only at h g102 hI103
    show V 0 0 149 [(0, .ref 11), (1, .ref (1000 + x1)), (3, .ref (1000 + x3)), (4, .int x4)] [.ref (1000 + r101)] LAY (M101, L)
    subst h
    exact x_aret C (show decode cX3_joining 149 = .ok (.areturn, 1) from by decide +kernel) (x_finE ⟨⟨rfl, rfl⟩, g102, hI103⟩) (Nat.le_refl 0) (Nat.le_refl 0)
set_option maxRecDepth 20000 in
set_option maxHeartbeats 4000000 in
theorem k_X3_joining (l : Launch) (a1 : Nat) (a2 : Nat) (a3 : Nat) (M : St) (L : Nat → Nat → Int64) (hb1 : a1 < 66) (hb2 : a2 < 66) (hb3 : a3 < 66) (hI : InvK INVC M) : XM l yX3_joining cX3_joining 5 (some (.object "SupervisorMachine$Op")) R_X3_joining LAY [.ref 11, .ref (1000 + a1), .ref (1000 + a2), .ref (1000 + a3)] (M, L) (P_X3_joining (f_X3_joining a1 a2 a3 M) L) := by
  refine XM.of (by decide) (Nat.le_of_ble_eq_true rfl) LAY_in cl_ok fl_X3_ok kc_X3_ok (fun V C => ?_)
  obtain ⟨r, h⟩ : ∃ r, f_X3_joining a1 a2 a3 M = r := ⟨_, rfl⟩
  rw [h] at C
  change C_X3_joining l r L V at C
  unfold f_X3_joining at h
  show V 0 0 0 [(0, .ref 11), (1, .ref (1000 + a1)), (2, .ref (1000 + a2)), (3, .ref (1000 + a3))] [] LAY (M, L)
  refine x_run C e_X3_joining_1 e_X3_joining_1_k (pc' := 1) (lv' := [(0, .ref 11), (1, .ref (1000 + a1)), (2, .ref (1000 + a2)), (3, .ref (1000 + a3))]) (st' := [.ref 11]) (σ' := (M, L)) rfl ⟨trivial, trivial⟩ ?_
  refine x_callV C (k := 11) (ci := 2) (rest := []) (avs := []) (k_X3_upperRegister l  M L hI) yoX3_upperRegister ml_X3_141 rfl rfl rfl rfl ⟨Nat.zero_le _, Nat.zero_le _⟩ (show decode cX3_joining 1 = .ok (.invokevirtual 141, 3) from by decide +kernel) rfl (fun v σ' hPo => ?_)
  obtain ⟨⟨rfl, rfl⟩, g2, hI3⟩ := hPo
  show V 0 0 4 [(0, .ref 11), (1, .ref (1000 + a1)), (2, .ref (1000 + a2)), (3, .ref (1000 + a3))] [.int (f_X3_upperRegister  M)] LAY (M, L)
  refine x_run C e_X3_joining_2 e_X3_joining_2_k (pc' := 7) (lv' := [(4, .int (f_X3_upperRegister  M)), (0, .ref 11), (1, .ref (1000 + a1)), (2, .ref (1000 + a2)), (3, .ref (1000 + a3))]) (st' := [.ref 11]) (σ' := (M, L)) rfl ⟨trivial, trivial, trivial⟩ ?_
  refine x_callV C (k := 11) (ci := 2) (rest := []) (avs := []) (k_X3_z l  M L hI) yoX3_z ml_X3_144 rfl rfl rfl rfl ⟨Nat.zero_le _, Nat.zero_le _⟩ (show decode cX3_joining 7 = .ok (.invokevirtual 144, 3) from by decide +kernel) rfl (fun v σ' hPo => ?_)
  obtain ⟨⟨rfl, rfl⟩, g5, hI6⟩ := hPo
  show V 0 0 10 [(4, .int (f_X3_upperRegister  M)), (0, .ref 11), (1, .ref (1000 + a1)), (2, .ref (1000 + a2)), (3, .ref (1000 + a3))] [.int (f_X3_z  M)] LAY (M, L)
  refine x_run C e_X3_joining_3 e_X3_joining_3_k (pc' := 11) (lv' := [(4, .int (f_X3_upperRegister  M)), (0, .ref 11), (1, .ref (1000 + a1)), (2, .ref (1000 + a2)), (3, .ref (1000 + a3))]) (st' := [.int 3, .int (f_X3_z  M)]) (σ' := (M, L)) rfl ⟨trivial, trivial⟩ ?_
  refine x_icmp_ne C (show decode cX3_joining 11 = .ok (.if_icmp .ne 23, 3) from by decide +kernel) (tgt := 34) (by decide) (fun c7 => ?_) (fun c7 => ?_)
  · rw [if_neg c7] at h
    have g8 : xrg 0 2 (f_X3_z  M) := (x_c_neh g5 (by decide) c7)
    refine x_run C e_X3_joining_4 e_X3_joining_4_k (pc' := 35) (lv' := [(4, .int (f_X3_upperRegister  M)), (0, .ref 11), (1, .ref (1000 + a1)), (2, .ref (1000 + a2)), (3, .ref (1000 + a3))]) (st' := [.ref 11]) (σ' := (M, L)) rfl ⟨trivial, trivial⟩ ?_
    refine x_callV C (k := 11) (ci := 2) (rest := []) (avs := []) (k_X3_bit8 l  M L hI) yoX3_bit8 ml_X3_80 rfl rfl rfl rfl ⟨Nat.zero_le _, Nat.zero_le _⟩ (show decode cX3_joining 35 = .ok (.invokevirtual 80, 3) from by decide +kernel) rfl (fun v σ' hPo => ?_)
    obtain ⟨⟨rfl, rfl⟩, g10, hI11⟩ := hPo
    show V 0 0 38 [(4, .int (f_X3_upperRegister  M)), (0, .ref 11), (1, .ref (1000 + a1)), (2, .ref (1000 + a2)), (3, .ref (1000 + a3))] [.int (f_X3_bit8  M)] LAY (M, L)
    refine x_if_ne C (show decode cX3_joining 38 = .ok (.ifCond .ne 26, 3) from by decide +kernel) (tgt := 64) (by decide) (fun c12 => ?_) (fun c12 => ?_)
    · rw [if_neg c12] at h
      have g13 : xrg 1 1 (f_X3_bit8  M) := (x_c_ne g10 (by decide) c12)
      refine x_run C e_X3_joining_5 e_X3_joining_5_k (pc' := 65) (lv' := [(4, .int (f_X3_upperRegister  M)), (0, .ref 11), (1, .ref (1000 + a1)), (2, .ref (1000 + a2)), (3, .ref (1000 + a3))]) (st' := [.ref 11]) (σ' := (M, L)) rfl ⟨trivial, trivial⟩ ?_
      refine x_callV C (k := 11) (ci := 2) (rest := []) (avs := []) (k_X3_mode l  M L hI) yoX3_mode ml_X3_151 rfl rfl rfl rfl ⟨Nat.zero_le _, Nat.zero_le _⟩ (show decode cX3_joining 65 = .ok (.invokevirtual 151, 3) from by decide +kernel) rfl (fun v σ' hPo => ?_)
      obtain ⟨⟨rfl, rfl⟩, g15, hI16⟩ := hPo
      show V 0 0 68 [(4, .int (f_X3_upperRegister  M)), (0, .ref 11), (1, .ref (1000 + a1)), (2, .ref (1000 + a2)), (3, .ref (1000 + a3))] [.int (f_X3_mode  M)] LAY (M, L)
      refine x_run C e_X3_joining_6 e_X3_joining_6_k (pc' := 69) (lv' := [(4, .int (f_X3_upperRegister  M)), (0, .ref 11), (1, .ref (1000 + a1)), (2, .ref (1000 + a2)), (3, .ref (1000 + a3))]) (st' := [.int 1, .int (f_X3_mode  M)]) (σ' := (M, L)) rfl ⟨trivial, trivial⟩ ?_
      refine x_icmp_le C (show decode cX3_joining 69 = .ok (.if_icmp .le 26, 3) from by decide +kernel) (tgt := 95) (by decide) (fun c17 => ?_) (fun c17 => ?_)
      · rw [if_pos c17] at h
        have g18 : xrg 0 1 (f_X3_mode  M) := (x_c_le g15 (x_rgc (x := 1) (k := 1) (by decide)) c17).1
        refine x_run C e_X3_joining_7 e_X3_joining_7_k (pc' := 96) (lv' := [(4, .int (f_X3_upperRegister  M)), (0, .ref 11), (1, .ref (1000 + a1)), (2, .ref (1000 + a2)), (3, .ref (1000 + a3))]) (st' := [.ref 11]) (σ' := (M, L)) rfl ⟨trivial, trivial⟩ ?_
        refine x_callV C (k := 11) (ci := 2) (rest := []) (avs := []) (k_X3_z l  M L hI) yoX3_z ml_X3_144 rfl rfl rfl rfl ⟨Nat.zero_le _, Nat.zero_le _⟩ (show decode cX3_joining 96 = .ok (.invokevirtual 144, 3) from by decide +kernel) rfl (fun v σ' hPo => ?_)
        obtain ⟨⟨rfl, rfl⟩, g20, hI21⟩ := hPo
        show V 0 0 99 [(4, .int (f_X3_upperRegister  M)), (0, .ref 11), (1, .ref (1000 + a1)), (2, .ref (1000 + a2)), (3, .ref (1000 + a3))] [.int (f_X3_z  M)] LAY (M, L)
        refine x_if_ne C (show decode cX3_joining 99 = .ok (.ifCond .ne 24, 3) from by decide +kernel) (tgt := 123) (by decide) (fun c22 => ?_) (fun c22 => ?_)
        · rw [if_neg c22] at h
          have g23 : xrg 1 3 (f_X3_z  M) := (x_c_ne g20 (by decide) c22)
          refine x_lv C [1, 2, 4, 0] rfl ?_
          exact b_X3_joining_123 r C a1 a3 (f_X3_upperRegister  M) M hb1 hb3 g2 hI h
        · rw [if_pos c22] at h
          have g24 : xrg 0 0 (f_X3_z  M) := (x_c_eq g20 (x_rgc (x := 0) (k := 0) (by decide)) c22).1
          refine x_run C e_X3_joining_8 e_X3_joining_8_k (pc' := 103) (lv' := [(4, .int (f_X3_upperRegister  M)), (0, .ref 11), (1, .ref (1000 + a1)), (2, .ref (1000 + a2)), (3, .ref (1000 + a3))]) (st' := [.ref 11]) (σ' := (M, L)) rfl ⟨trivial, trivial⟩ ?_
          refine x_callV C (k := 11) (ci := 2) (rest := []) (avs := []) (k_X3_mode l  M L hI) yoX3_mode ml_X3_151 rfl rfl rfl rfl ⟨Nat.zero_le _, Nat.zero_le _⟩ (show decode cX3_joining 103 = .ok (.invokevirtual 151, 3) from by decide +kernel) rfl (fun v σ' hPo => ?_)
          obtain ⟨⟨rfl, rfl⟩, g26, hI27⟩ := hPo
          show V 0 0 106 [(4, .int (f_X3_upperRegister  M)), (0, .ref 11), (1, .ref (1000 + a1)), (2, .ref (1000 + a2)), (3, .ref (1000 + a3))] [.int (f_X3_mode  M)] LAY (M, L)
          refine x_if_ne C (show decode cX3_joining 106 = .ok (.ifCond .ne 17, 3) from by decide +kernel) (tgt := 123) (by decide) (fun c28 => ?_) (fun c28 => ?_)
          · rw [if_neg c28] at h
            have g29 : xrg 1 7 (f_X3_mode  M) := (x_c_ne g26 (by decide) c28)
            refine x_lv C [1, 2, 4, 0] rfl ?_
            exact b_X3_joining_123 r C a1 a3 (f_X3_upperRegister  M) M hb1 hb3 g2 hI h
          · rw [if_pos c28] at h
            have g30 : xrg 0 0 (f_X3_mode  M) := (x_c_eq g26 (x_rgc (x := 0) (k := 0) (by decide)) c28).1
            refine x_run C e_X3_joining_9 e_X3_joining_9_k (pc' := 112) (lv' := [(4, .int (f_X3_upperRegister  M)), (0, .ref 11), (1, .ref (1000 + a1)), (2, .ref (1000 + a2)), (3, .ref (1000 + a3))]) (st' := [.ref 11, .ref (1000 + a3), .ref 11]) (σ' := (M, L)) rfl ⟨trivial, trivial, trivial, trivial⟩ ?_
            refine x_callV C (k := 11) (ci := 2) (rest := [.ref (1000 + a3), .ref 11]) (avs := []) (k_X3_lowerRegister l  M L hI) yoX3_lowerRegister ml_X3_154 rfl rfl rfl rfl ⟨Nat.zero_le _, Nat.zero_le _⟩ (show decode cX3_joining 112 = .ok (.invokevirtual 154, 3) from by decide +kernel) rfl (fun v σ' hPo => ?_)
            obtain ⟨⟨rfl, rfl⟩, g32, hI33⟩ := hPo
            show V 0 0 115 [(4, .int (f_X3_upperRegister  M)), (0, .ref 11), (1, .ref (1000 + a1)), (2, .ref (1000 + a2)), (3, .ref (1000 + a3))] [.int (f_X3_lowerRegister  M), .ref (1000 + a3), .ref 11] LAY (M, L)
            refine x_run C e_X3_joining_10 e_X3_joining_10_k (pc' := 119) (lv' := [(4, .int (f_X3_upperRegister  M)), (0, .ref 11), (1, .ref (1000 + a1)), (2, .ref (1000 + a2)), (3, .ref (1000 + a3))]) (st' := [.int 1, .int 0, .int (f_X3_upperRegister  M), .int (f_X3_lowerRegister  M), .ref (1000 + a3), .ref 11]) (σ' := (M, L)) rfl ⟨trivial, trivial, trivial, trivial⟩ ?_
            refine x_callV C (k := 11) (ci := 2) (rest := []) (avs := [.ref (1000 + a3), .int (f_X3_lowerRegister  M), .int (f_X3_upperRegister  M), .int 0, .int 1]) (k_X3_pair l a3 (f_X3_lowerRegister  M) (f_X3_upperRegister  M) 0 1 M L hb3 hI) yoX3_pair ml_X3_114 rfl rfl rfl rfl ⟨Nat.zero_le _, Nat.zero_le _⟩ (show decode cX3_joining 119 = .ok (.invokevirtual 114, 3) from by decide +kernel) rfl (fun v σ' hPo => ?_)
            obtain ⟨⟨rfl, rfl⟩, g35, hI36⟩ := hPo
            generalize hq34 : f_X3_pair a3 (f_X3_lowerRegister  M) (f_X3_upperRegister  M) 0 1 M = q34 at h g35 hI36 ⊢
            obtain ⟨r34, M34⟩ := q34
            have h := xb_eq h
            try dsimp only at h g35 hI36
            show V 0 0 122 [(4, .int (f_X3_upperRegister  M)), (0, .ref 11), (1, .ref (1000 + a1)), (2, .ref (1000 + a2)), (3, .ref (1000 + a3))] [.ref (1000 + r34)] LAY (M34, L)
            subst h
            exact x_aret C (show decode cX3_joining 122 = .ok (.areturn, 1) from by decide +kernel) (x_finE ⟨⟨rfl, rfl⟩, g35, hI36⟩) (Nat.le_refl 0) (Nat.le_refl 0)
      · rw [if_neg c17] at h
        have g37 : xrg 2 7 (f_X3_mode  M) := (x_c_nle g15 (x_rgc (x := 1) (k := 1) (by decide)) c17).1
        refine x_run C e_X3_joining_11 e_X3_joining_11_k (pc' := 77) (lv' := [(4, .int (f_X3_upperRegister  M)), (0, .ref 11), (1, .ref (1000 + a1)), (2, .ref (1000 + a2)), (3, .ref (1000 + a3))]) (st' := [.ref 11, .int (f_X3_upperRegister  M), .ref (1000 + a1), .ref 11]) (σ' := (M, L)) rfl ⟨trivial, trivial, trivial, trivial, trivial⟩ ?_
        refine x_callV C (k := 11) (ci := 2) (rest := [.int (f_X3_upperRegister  M), .ref (1000 + a1), .ref 11]) (avs := []) (k_X3_operand l  M L hI) yoX3_operand ml_X3_111 rfl rfl rfl rfl ⟨Nat.zero_le _, Nat.zero_le _⟩ (show decode cX3_joining 77 = .ok (.invokevirtual 111, 3) from by decide +kernel) rfl (fun v σ' hPo => ?_)
        obtain ⟨⟨rfl, rfl⟩, g39, hI40⟩ := hPo
        show V 0 0 80 [(4, .int (f_X3_upperRegister  M)), (0, .ref 11), (1, .ref (1000 + a1)), (2, .ref (1000 + a2)), (3, .ref (1000 + a3))] [.int (f_X3_operand  M), .int (f_X3_upperRegister  M), .ref (1000 + a1), .ref 11] LAY (M, L)
        refine x_run C e_X3_joining_12 e_X3_joining_12_k (pc' := 81) (lv' := [(4, .int (f_X3_upperRegister  M)), (0, .ref 11), (1, .ref (1000 + a1)), (2, .ref (1000 + a2)), (3, .ref (1000 + a3))]) (st' := [.ref 11, .int (f_X3_operand  M), .int (f_X3_upperRegister  M), .ref (1000 + a1), .ref 11]) (σ' := (M, L)) rfl ⟨trivial, trivial⟩ ?_
        refine x_callV C (k := 11) (ci := 2) (rest := [.int (f_X3_operand  M), .int (f_X3_upperRegister  M), .ref (1000 + a1), .ref 11]) (avs := []) (k_X3_z l  M L hI) yoX3_z ml_X3_144 rfl rfl rfl rfl ⟨Nat.zero_le _, Nat.zero_le _⟩ (show decode cX3_joining 81 = .ok (.invokevirtual 144, 3) from by decide +kernel) rfl (fun v σ' hPo => ?_)
        obtain ⟨⟨rfl, rfl⟩, g42, hI43⟩ := hPo
        show V 0 0 84 [(4, .int (f_X3_upperRegister  M)), (0, .ref 11), (1, .ref (1000 + a1)), (2, .ref (1000 + a2)), (3, .ref (1000 + a3))] [.int (f_X3_z  M), .int (f_X3_operand  M), .int (f_X3_upperRegister  M), .ref (1000 + a1), .ref 11] LAY (M, L)
        refine x_run C e_X3_joining_13 e_X3_joining_13_k (pc' := 85) (lv' := [(4, .int (f_X3_upperRegister  M)), (0, .ref 11), (1, .ref (1000 + a1)), (2, .ref (1000 + a2)), (3, .ref (1000 + a3))]) (st' := [.ref 11, .int (f_X3_z  M), .int (f_X3_operand  M), .int (f_X3_upperRegister  M), .ref (1000 + a1), .ref 11]) (σ' := (M, L)) rfl ⟨trivial, trivial⟩ ?_
        refine x_callV C (k := 11) (ci := 2) (rest := [.int (f_X3_z  M), .int (f_X3_operand  M), .int (f_X3_upperRegister  M), .ref (1000 + a1), .ref 11]) (avs := []) (k_X3_operand l  M L hI) yoX3_operand ml_X3_111 rfl rfl rfl rfl ⟨Nat.zero_le _, Nat.zero_le _⟩ (show decode cX3_joining 85 = .ok (.invokevirtual 111, 3) from by decide +kernel) rfl (fun v σ' hPo => ?_)
        obtain ⟨⟨rfl, rfl⟩, g45, hI46⟩ := hPo
        show V 0 0 88 [(4, .int (f_X3_upperRegister  M)), (0, .ref 11), (1, .ref (1000 + a1)), (2, .ref (1000 + a2)), (3, .ref (1000 + a3))] [.int (f_X3_operand  M), .int (f_X3_z  M), .int (f_X3_operand  M), .int (f_X3_upperRegister  M), .ref (1000 + a1), .ref 11] LAY (M, L)
        refine x_callS C (rest := [.int (f_X3_z  M), .int (f_X3_operand  M), .int (f_X3_upperRegister  M), .ref (1000 + a1), .ref 11]) (avs := [.int (f_X3_operand  M)]) (k_X9_isOpenMemory l (f_X3_operand  M) M L) yoX9_isOpenMemory ml_X3_160 rfl ⟨Nat.zero_le _, Nat.zero_le _⟩ (show decode cX3_joining 88 = .ok (.invokestatic 160, 3) from by decide +kernel) rfl (fun v σ' hPo => ?_)
        obtain ⟨⟨rfl, rfl⟩, g48, -⟩ := hPo
        show V 0 0 91 [(4, .int (f_X3_upperRegister  M)), (0, .ref 11), (1, .ref (1000 + a1)), (2, .ref (1000 + a2)), (3, .ref (1000 + a3))] [.int (f_X9_isOpenMemory (f_X3_operand  M)), .int (f_X3_z  M), .int (f_X3_operand  M), .int (f_X3_upperRegister  M), .ref (1000 + a1), .ref 11] LAY (M, L)
        refine x_callV C (k := 11) (ci := 2) (rest := []) (avs := [.ref (1000 + a1), .int (f_X3_upperRegister  M), .int (f_X3_operand  M), .int (f_X3_z  M), .int (f_X9_isOpenMemory (f_X3_operand  M))]) (k_X3_pair l a1 (f_X3_upperRegister  M) (f_X3_operand  M) (f_X3_z  M) (f_X9_isOpenMemory (f_X3_operand  M)) M L hb1 hI) yoX3_pair ml_X3_114 rfl rfl rfl rfl ⟨Nat.zero_le _, Nat.zero_le _⟩ (show decode cX3_joining 91 = .ok (.invokevirtual 114, 3) from by decide +kernel) rfl (fun v σ' hPo => ?_)
        obtain ⟨⟨rfl, rfl⟩, g51, hI52⟩ := hPo
        generalize hq50 : f_X3_pair a1 (f_X3_upperRegister  M) (f_X3_operand  M) (f_X3_z  M) (f_X9_isOpenMemory (f_X3_operand  M)) M = q50 at h g51 hI52 ⊢
        obtain ⟨r50, M50⟩ := q50
        have h := xb_eq h
        try dsimp only at h g51 hI52
        show V 0 0 94 [(4, .int (f_X3_upperRegister  M)), (0, .ref 11), (1, .ref (1000 + a1)), (2, .ref (1000 + a2)), (3, .ref (1000 + a3))] [.ref (1000 + r50)] LAY (M50, L)
        subst h
        exact x_aret C (show decode cX3_joining 94 = .ok (.areturn, 1) from by decide +kernel) (x_finE ⟨⟨rfl, rfl⟩, g51, hI52⟩) (Nat.le_refl 0) (Nat.le_refl 0)
    · rw [if_pos c12] at h
      have g53 : xrg 0 0 (f_X3_bit8  M) := (x_c_eq g10 (x_rgc (x := 0) (k := 0) (by decide)) c12).1
      refine x_run C e_X3_joining_14 e_X3_joining_14_k (pc' := 44) (lv' := [(4, .int (f_X3_upperRegister  M)), (0, .ref 11), (1, .ref (1000 + a1)), (2, .ref (1000 + a2)), (3, .ref (1000 + a3))]) (st' := [.ref 11, .ref (1000 + a1), .ref 11]) (σ' := (M, L)) rfl ⟨trivial, trivial, trivial, trivial⟩ ?_
      refine x_callV C (k := 11) (ci := 2) (rest := [.ref (1000 + a1), .ref 11]) (avs := []) (k_X3_operand l  M L hI) yoX3_operand ml_X3_111 rfl rfl rfl rfl ⟨Nat.zero_le _, Nat.zero_le _⟩ (show decode cX3_joining 44 = .ok (.invokevirtual 111, 3) from by decide +kernel) rfl (fun v σ' hPo => ?_)
      obtain ⟨⟨rfl, rfl⟩, g55, hI56⟩ := hPo
      show V 0 0 47 [(4, .int (f_X3_upperRegister  M)), (0, .ref 11), (1, .ref (1000 + a1)), (2, .ref (1000 + a2)), (3, .ref (1000 + a3))] [.int (f_X3_operand  M), .ref (1000 + a1), .ref 11] LAY (M, L)
      refine x_run C e_X3_joining_15 e_X3_joining_15_k (pc' := 50) (lv' := [(4, .int (f_X3_upperRegister  M)), (0, .ref 11), (1, .ref (1000 + a1)), (2, .ref (1000 + a2)), (3, .ref (1000 + a3))]) (st' := [.ref 11, .int (f_X3_upperRegister  M), .int (f_X3_operand  M), .ref (1000 + a1), .ref 11]) (σ' := (M, L)) rfl ⟨trivial, trivial, trivial⟩ ?_
      refine x_callV C (k := 11) (ci := 2) (rest := [.int (f_X3_upperRegister  M), .int (f_X3_operand  M), .ref (1000 + a1), .ref 11]) (avs := []) (k_X3_z l  M L hI) yoX3_z ml_X3_144 rfl rfl rfl rfl ⟨Nat.zero_le _, Nat.zero_le _⟩ (show decode cX3_joining 50 = .ok (.invokevirtual 144, 3) from by decide +kernel) rfl (fun v σ' hPo => ?_)
      obtain ⟨⟨rfl, rfl⟩, g58, hI59⟩ := hPo
      show V 0 0 53 [(4, .int (f_X3_upperRegister  M)), (0, .ref 11), (1, .ref (1000 + a1)), (2, .ref (1000 + a2)), (3, .ref (1000 + a3))] [.int (f_X3_z  M), .int (f_X3_upperRegister  M), .int (f_X3_operand  M), .ref (1000 + a1), .ref 11] LAY (M, L)
      refine x_run C e_X3_joining_16 e_X3_joining_16_k (pc' := 54) (lv' := [(4, .int (f_X3_upperRegister  M)), (0, .ref 11), (1, .ref (1000 + a1)), (2, .ref (1000 + a2)), (3, .ref (1000 + a3))]) (st' := [.ref 11, .int (f_X3_z  M), .int (f_X3_upperRegister  M), .int (f_X3_operand  M), .ref (1000 + a1), .ref 11]) (σ' := (M, L)) rfl ⟨trivial, trivial⟩ ?_
      refine x_callV C (k := 11) (ci := 2) (rest := [.int (f_X3_z  M), .int (f_X3_upperRegister  M), .int (f_X3_operand  M), .ref (1000 + a1), .ref 11]) (avs := []) (k_X3_operand l  M L hI) yoX3_operand ml_X3_111 rfl rfl rfl rfl ⟨Nat.zero_le _, Nat.zero_le _⟩ (show decode cX3_joining 54 = .ok (.invokevirtual 111, 3) from by decide +kernel) rfl (fun v σ' hPo => ?_)
      obtain ⟨⟨rfl, rfl⟩, g61, hI62⟩ := hPo
      show V 0 0 57 [(4, .int (f_X3_upperRegister  M)), (0, .ref 11), (1, .ref (1000 + a1)), (2, .ref (1000 + a2)), (3, .ref (1000 + a3))] [.int (f_X3_operand  M), .int (f_X3_z  M), .int (f_X3_upperRegister  M), .int (f_X3_operand  M), .ref (1000 + a1), .ref 11] LAY (M, L)
      refine x_callS C (rest := [.int (f_X3_z  M), .int (f_X3_upperRegister  M), .int (f_X3_operand  M), .ref (1000 + a1), .ref 11]) (avs := [.int (f_X3_operand  M)]) (k_X9_isData l (f_X3_operand  M) M L) yoX9_isData ml_X3_178 rfl ⟨Nat.zero_le _, Nat.zero_le _⟩ (show decode cX3_joining 57 = .ok (.invokestatic 178, 3) from by decide +kernel) rfl (fun v σ' hPo => ?_)
      obtain ⟨⟨rfl, rfl⟩, g64, -⟩ := hPo
      show V 0 0 60 [(4, .int (f_X3_upperRegister  M)), (0, .ref 11), (1, .ref (1000 + a1)), (2, .ref (1000 + a2)), (3, .ref (1000 + a3))] [.int (f_X9_isData (f_X3_operand  M)), .int (f_X3_z  M), .int (f_X3_upperRegister  M), .int (f_X3_operand  M), .ref (1000 + a1), .ref 11] LAY (M, L)
      refine x_callV C (k := 11) (ci := 2) (rest := []) (avs := [.ref (1000 + a1), .int (f_X3_operand  M), .int (f_X3_upperRegister  M), .int (f_X3_z  M), .int (f_X9_isData (f_X3_operand  M))]) (k_X3_pair l a1 (f_X3_operand  M) (f_X3_upperRegister  M) (f_X3_z  M) (f_X9_isData (f_X3_operand  M)) M L hb1 hI) yoX3_pair ml_X3_114 rfl rfl rfl rfl ⟨Nat.zero_le _, Nat.zero_le _⟩ (show decode cX3_joining 60 = .ok (.invokevirtual 114, 3) from by decide +kernel) rfl (fun v σ' hPo => ?_)
      obtain ⟨⟨rfl, rfl⟩, g67, hI68⟩ := hPo
      generalize hq66 : f_X3_pair a1 (f_X3_operand  M) (f_X3_upperRegister  M) (f_X3_z  M) (f_X9_isData (f_X3_operand  M)) M = q66 at h g67 hI68 ⊢
      obtain ⟨r66, M66⟩ := q66
      have h := xb_eq h
      try dsimp only at h g67 hI68
      show V 0 0 63 [(4, .int (f_X3_upperRegister  M)), (0, .ref 11), (1, .ref (1000 + a1)), (2, .ref (1000 + a2)), (3, .ref (1000 + a3))] [.ref (1000 + r66)] LAY (M66, L)
      subst h
      exact x_aret C (show decode cX3_joining 63 = .ok (.areturn, 1) from by decide +kernel) (x_finE ⟨⟨rfl, rfl⟩, g67, hI68⟩) (Nat.le_refl 0) (Nat.le_refl 0)
  · rw [if_pos c7] at h
    have g69 : xrg 3 3 (f_X3_z  M) := (x_c_eq g5 (x_rgc (x := 3) (k := 3) (by decide)) c7).1
    refine x_run C e_X3_joining_17 e_X3_joining_17_k (pc' := 17) (lv' := [(4, .int (f_X3_upperRegister  M)), (0, .ref 11), (1, .ref (1000 + a1)), (2, .ref (1000 + a2)), (3, .ref (1000 + a3))]) (st' := [.ref 11, .ref (1000 + a2), .ref 11]) (σ' := (M, L)) rfl ⟨trivial, trivial, trivial, trivial⟩ ?_
    refine x_callV C (k := 11) (ci := 2) (rest := [.ref (1000 + a2), .ref 11]) (avs := []) (k_X3_operand l  M L hI) yoX3_operand ml_X3_111 rfl rfl rfl rfl ⟨Nat.zero_le _, Nat.zero_le _⟩ (show decode cX3_joining 17 = .ok (.invokevirtual 111, 3) from by decide +kernel) rfl (fun v σ' hPo => ?_)
    obtain ⟨⟨rfl, rfl⟩, g71, hI72⟩ := hPo
    show V 0 0 20 [(4, .int (f_X3_upperRegister  M)), (0, .ref 11), (1, .ref (1000 + a1)), (2, .ref (1000 + a2)), (3, .ref (1000 + a3))] [.int (f_X3_operand  M), .ref (1000 + a2), .ref 11] LAY (M, L)
    refine x_run C e_X3_joining_18 e_X3_joining_18_k (pc' := 24) (lv' := [(4, .int (f_X3_upperRegister  M)), (0, .ref 11), (1, .ref (1000 + a1)), (2, .ref (1000 + a2)), (3, .ref (1000 + a3))]) (st' := [.ref 11, .int 1, .int (f_X3_upperRegister  M), .int (f_X3_operand  M), .ref (1000 + a2), .ref 11]) (σ' := (M, L)) rfl ⟨trivial, trivial, trivial, trivial⟩ ?_
    refine x_callV C (k := 11) (ci := 2) (rest := [.int 1, .int (f_X3_upperRegister  M), .int (f_X3_operand  M), .ref (1000 + a2), .ref 11]) (avs := []) (k_X3_operand l  M L hI) yoX3_operand ml_X3_111 rfl rfl rfl rfl ⟨Nat.zero_le _, Nat.zero_le _⟩ (show decode cX3_joining 24 = .ok (.invokevirtual 111, 3) from by decide +kernel) rfl (fun v σ' hPo => ?_)
    obtain ⟨⟨rfl, rfl⟩, g74, hI75⟩ := hPo
    show V 0 0 27 [(4, .int (f_X3_upperRegister  M)), (0, .ref 11), (1, .ref (1000 + a1)), (2, .ref (1000 + a2)), (3, .ref (1000 + a3))] [.int (f_X3_operand  M), .int 1, .int (f_X3_upperRegister  M), .int (f_X3_operand  M), .ref (1000 + a2), .ref 11] LAY (M, L)
    refine x_callS C (rest := [.int 1, .int (f_X3_upperRegister  M), .int (f_X3_operand  M), .ref (1000 + a2), .ref 11]) (avs := [.int (f_X3_operand  M)]) (k_X9_isData l (f_X3_operand  M) M L) yoX9_isData ml_X3_178 rfl ⟨Nat.zero_le _, Nat.zero_le _⟩ (show decode cX3_joining 27 = .ok (.invokestatic 178, 3) from by decide +kernel) rfl (fun v σ' hPo => ?_)
    obtain ⟨⟨rfl, rfl⟩, g77, -⟩ := hPo
    show V 0 0 30 [(4, .int (f_X3_upperRegister  M)), (0, .ref 11), (1, .ref (1000 + a1)), (2, .ref (1000 + a2)), (3, .ref (1000 + a3))] [.int (f_X9_isData (f_X3_operand  M)), .int 1, .int (f_X3_upperRegister  M), .int (f_X3_operand  M), .ref (1000 + a2), .ref 11] LAY (M, L)
    refine x_callV C (k := 11) (ci := 2) (rest := []) (avs := [.ref (1000 + a2), .int (f_X3_operand  M), .int (f_X3_upperRegister  M), .int 1, .int (f_X9_isData (f_X3_operand  M))]) (k_X3_pair l a2 (f_X3_operand  M) (f_X3_upperRegister  M) 1 (f_X9_isData (f_X3_operand  M)) M L hb2 hI) yoX3_pair ml_X3_114 rfl rfl rfl rfl ⟨Nat.zero_le _, Nat.zero_le _⟩ (show decode cX3_joining 30 = .ok (.invokevirtual 114, 3) from by decide +kernel) rfl (fun v σ' hPo => ?_)
    obtain ⟨⟨rfl, rfl⟩, g80, hI81⟩ := hPo
    generalize hq79 : f_X3_pair a2 (f_X3_operand  M) (f_X3_upperRegister  M) 1 (f_X9_isData (f_X3_operand  M)) M = q79 at h g80 hI81 ⊢
    obtain ⟨r79, M79⟩ := q79
    have h := xb_eq h
    try dsimp only at h g80 hI81
    show V 0 0 33 [(4, .int (f_X3_upperRegister  M)), (0, .ref 11), (1, .ref (1000 + a1)), (2, .ref (1000 + a2)), (3, .ref (1000 + a3))] [.ref (1000 + r79)] LAY (M79, L)
    subst h
    exact x_aret C (show decode cX3_joining 33 = .ok (.areturn, 1) from by decide +kernel) (x_finE ⟨⟨rfl, rfl⟩, g80, hI81⟩) (Nat.le_refl 0) (Nat.le_refl 0)
-- X3_quick
def e_X3_quick_1 : List xI := [(0, .aload_n 0, 1, .null)]
theorem e_X3_quick_1_k : e_X3_quick_1.all (fun q => xokB cX3_quick q && xokL q) = true := by decide +kernel
def e_X3_quick_2 : List xI := [(4, .iconst 3, 1, .int 3)]
theorem e_X3_quick_2_k : e_X3_quick_2.all (fun q => xokB cX3_quick q && xokL q) = true := by decide +kernel
def e_X3_quick_3 : List xI := [(38, .aload_n 0, 1, .null)]
theorem e_X3_quick_3_k : e_X3_quick_3.all (fun q => xokB cX3_quick q && xokL q) = true := by decide +kernel
def e_X3_quick_4 : List xI := [(42, .aload_n 0, 1, .null)]
theorem e_X3_quick_4_k : e_X3_quick_4.all (fun q => xokB cX3_quick q && xokL q) = true := by decide +kernel
def e_X3_quick_5 : List xI := [(52, .aload_n 0, 1, .null)]
theorem e_X3_quick_5_k : e_X3_quick_5.all (fun q => xokB cX3_quick q && xokL q) = true := by decide +kernel
def e_X3_quick_6 : List xI := [(62, .iconst 1, 1, .int 1)]
theorem e_X3_quick_6_k : e_X3_quick_6.all (fun q => xokB cX3_quick q && xokL q) = true := by decide +kernel
def e_X3_quick_7 : List xI := [(8, .aload_n 0, 1, .null)]
theorem e_X3_quick_7_k : e_X3_quick_7.all (fun q => xokB cX3_quick q && xokL q) = true := by decide +kernel
def e_X3_quick_8 : List xI := [(12, .iconst 1, 1, .int 1)]
theorem e_X3_quick_8_k : e_X3_quick_8.all (fun q => xokB cX3_quick q && xokL q) = true := by decide +kernel
def e_X3_quick_9 : List xI := [(22, .aload_n 0, 1, .null)]
theorem e_X3_quick_9_k : e_X3_quick_9.all (fun q => xokB cX3_quick q && xokL q) = true := by decide +kernel
def e_X3_quick_10 : List xI := [(26, .iconst 0, 1, .int 0), (27, .aload_n 0, 1, .null)]
theorem e_X3_quick_10_k : e_X3_quick_10.all (fun q => xokB cX3_quick q && xokL q) = true := by decide +kernel
def e_X3_quick_11 : List xI := [(66, .iconst 0, 1, .int 0)]
theorem e_X3_quick_11_k : e_X3_quick_11.all (fun q => xokB cX3_quick q && xokL q) = true := by decide +kernel
def e_X3_quick_12 : List xI := [(67, .istore_n 1, 1, .null), (68, .aload_n 0, 1, .null), (69, .aload_n 0, 1, .null)]
theorem e_X3_quick_12_k : e_X3_quick_12.all (fun q => xokB cX3_quick q && xokL q) = true := by decide +kernel
def e_X3_quick_13 : List xI := [(85, .aload_n 0, 1, .null)]
theorem e_X3_quick_13_k : e_X3_quick_13.all (fun q => xokB cX3_quick q && xokL q) = true := by decide +kernel
def e_X3_quick_14 : List xI := [(89, .iload_n 1, 1, .null)]
theorem e_X3_quick_14_k : e_X3_quick_14.all (fun q => xokB cX3_quick q && xokL q) = true := by decide +kernel
abbrev P_X3_quick (r : Nat × St) (L : Nat → Nat → Int64) : Option Value → xG → Prop := fun v σ' => PoE r.1 r.2 L v σ' ∧ r.1 < 66 ∧ InvK INVC r.2
abbrev R_X3_quick : Room := { frames := 2, cells := 0, slots := 0, locals := 48 }
abbrev C_X3_quick (l : Launch) (r : Nat × St) (L : Nat → Nat → Int64) (V : XJ) : Prop := XC l yX3_quick.cls yX3_quick.name cX3_quick 2 R_X3_quick 0 0 fl_X3 kc_X3 LAY.length (xfin (some (.object "SupervisorMachine$Op")) LAY (P_X3_quick r L)) V
def f_X3_quick_85 (x1 : Int32) (s0 : Nat) (M : St) : Nat × St := (xb (f_X3_single s0 (f_X3_z  M) x1 M) fun q51 => (q51.1, q51.2))
def f_X3_quick_67 (s0 : Int32) (M : St) : Nat × St := (if (f_X3_bit8  M) = 0 then f_X3_quick_85 s0 19 M else f_X3_quick_85 s0 20 M)
def f_X3_quick_66  (M : St) : Nat × St := f_X3_quick_67 0 M
def f_X3_quick (M : St) : Nat × St := (if (f_X3_z  M) = 3 then (if (f_X3_mode  M) = 1 then (49, M) else (xb (f_X3_single 36 0 (f_X9_isOpenData (f_X3_operand  M)) M) fun q38 => (q38.1, q38.2))) else (if (f_X9_isAny (f_X3_operand  M) (f_X3_z  M)) = 0 then f_X3_quick_66  M else (if (f_X9_isOpen (f_X3_operand  M)) = 0 then f_X3_quick_66  M else f_X3_quick_67 1 M)))
set_option maxRecDepth 20000 in
set_option maxHeartbeats 4000000 in
theorem b_X3_quick_85 {l : Launch} {L : Nat → Nat → Int64} {V : XJ} (r : Nat × St) (C : C_X3_quick l r L V) (x1 : Int32) (s0 : Nat) (M : St) (wx1 : xrg 0 1 x1) (bds0 : s0 < 66) (hI : InvK INVC M) (h : f_X3_quick_85 x1 s0 M = r) : V 0 0 85 [(0, .ref 11), (1, .int x1)] [.ref (1000 + s0), .ref 11] LAY (M, L) := by
  unfold f_X3_quick_85 at h
  refine x_run C e_X3_quick_13 e_X3_quick_13_k (pc' := 86) (lv' := [(0, .ref 11), (1, .int x1)]) (st' := [.ref 11, .ref (1000 + s0), .ref 11]) (σ' := (M, L)) rfl ⟨trivial, trivial⟩ ?_
  refine x_callV C (k := 11) (ci := 2) (rest := [.ref (1000 + s0), .ref 11]) (avs := []) (k_X3_z l  M L hI) yoX3_z ml_X3_144 rfl rfl rfl rfl ⟨Nat.zero_le _, Nat.zero_le _⟩ (show decode cX3_quick 86 = .ok (.invokevirtual 144, 3) from by decide +kernel) rfl (fun v σ' hPo => ?_)
  obtain ⟨⟨rfl, rfl⟩, g49, hI50⟩ := hPo
  show V 0 0 89 [(0, .ref 11), (1, .int x1)] [.int (f_X3_z  M), .ref (1000 + s0), .ref 11] LAY (M, L)
  refine x_run C e_X3_quick_14 e_X3_quick_14_k (pc' := 90) (lv' := [(0, .ref 11), (1, .int x1)]) (st' := [.int x1, .int (f_X3_z  M), .ref (1000 + s0), .ref 11]) (σ' := (M, L)) rfl ⟨trivial, trivial⟩ ?_
  refine x_callV C (k := 11) (ci := 2) (rest := []) (avs := [.ref (1000 + s0), .int (f_X3_z  M), .int x1]) (k_X3_single l s0 (f_X3_z  M) x1 M L bds0 hI) yoX3_single ml_X3_193 rfl rfl rfl rfl ⟨Nat.zero_le _, Nat.zero_le _⟩ (show decode cX3_quick 90 = .ok (.invokevirtual 193, 3) from by decide +kernel) rfl (fun v σ' hPo => ?_)
  obtain ⟨⟨rfl, rfl⟩, g52, hI53⟩ := hPo
  generalize hq51 : f_X3_single s0 (f_X3_z  M) x1 M = q51 at h g52 hI53 ⊢
  obtain ⟨r51, M51⟩ := q51
  have h := xb_eq h
  try dsimp only at h g52 hI53
  show V 0 0 93 [(0, .ref 11), (1, .int x1)] [.ref (1000 + r51)] LAY (M51, L)
  subst h
  exact x_aret C (show decode cX3_quick 93 = .ok (.areturn, 1) from by decide +kernel) (x_finE ⟨⟨rfl, rfl⟩, g52, hI53⟩) (Nat.le_refl 0) (Nat.le_refl 0)
set_option maxRecDepth 20000 in
set_option maxHeartbeats 4000000 in
theorem b_X3_quick_67 {l : Launch} {L : Nat → Nat → Int64} {V : XJ} (r : Nat × St) (C : C_X3_quick l r L V) (s0 : Int32) (M : St) (ws0 : xrg 0 1 s0) (hI : InvK INVC M) (h : f_X3_quick_67 s0 M = r) : V 0 0 67 [(0, .ref 11)] [.int s0] LAY (M, L) := by
  unfold f_X3_quick_67 at h
  refine x_run C e_X3_quick_12 e_X3_quick_12_k (pc' := 70) (lv' := [(1, .int s0), (0, .ref 11)]) (st' := [.ref 11, .ref 11]) (σ' := (M, L)) rfl ⟨trivial, trivial, trivial, trivial⟩ ?_
  refine x_callV C (k := 11) (ci := 2) (rest := [.ref 11]) (avs := []) (k_X3_bit8 l  M L hI) yoX3_bit8 ml_X3_80 rfl rfl rfl rfl ⟨Nat.zero_le _, Nat.zero_le _⟩ (show decode cX3_quick 70 = .ok (.invokevirtual 80, 3) from by decide +kernel) rfl (fun v σ' hPo => ?_)
  obtain ⟨⟨rfl, rfl⟩, g43, hI44⟩ := hPo
  show V 0 0 73 [(1, .int s0), (0, .ref 11)] [.int (f_X3_bit8  M), .ref 11] LAY (M, L)
  refine x_if_ne C (show decode cX3_quick 73 = .ok (.ifCond .ne 9, 3) from by decide +kernel) (tgt := 82) (by decide) (fun c45 => ?_) (fun c45 => ?_)
  · rw [if_neg c45] at h
    have g46 : xrg 1 1 (f_X3_bit8  M) := (x_c_ne g43 (by decide) c45)
    refine x_getE C 20 (by decide) (x_in 861 (by decide +kernel) rfl) (show decode cX3_quick 82 = .ok (.getstatic 200, 3) from by decide +kernel) ?_
    refine x_lv C [1, 0] rfl ?_
    exact b_X3_quick_85 r C s0 20 M ws0 (show 20 < 66 by decide) hI h
  · rw [if_pos c45] at h
    have g47 : xrg 0 0 (f_X3_bit8  M) := (x_c_eq g43 (x_rgc (x := 0) (k := 0) (by decide)) c45).1
    refine x_getE C 19 (by decide) (x_in 859 (by decide +kernel) rfl) (show decode cX3_quick 76 = .ok (.getstatic 197, 3) from by decide +kernel) ?_
    refine x_goto C (show decode cX3_quick 79 = .ok (.goto 6, 3) from by decide +kernel) (tgt := 85) (by decide) ?_
    refine x_lv C [1, 0] rfl ?_
    exact b_X3_quick_85 r C s0 19 M ws0 (show 19 < 66 by decide) hI h
set_option maxRecDepth 20000 in
set_option maxHeartbeats 4000000 in
theorem b_X3_quick_66 {l : Launch} {L : Nat → Nat → Int64} {V : XJ} (r : Nat × St) (C : C_X3_quick l r L V)  (M : St) (hI : InvK INVC M) (h : f_X3_quick_66  M = r) : V 0 0 66 [(0, .ref 11)] [] LAY (M, L) := by
  unfold f_X3_quick_66 at h
  refine x_run C e_X3_quick_11 e_X3_quick_11_k (pc' := 67) (lv' := [(0, .ref 11)]) (st' := [.int 0]) (σ' := (M, L)) rfl ⟨trivial, trivial⟩ ?_
  exact b_X3_quick_67 r C 0 M (x_rgw (x_rgc (x := 0) (k := 0) (by decide)) (lo' := 0) (hi' := 1) (by decide) (by decide)) hI h
set_option maxRecDepth 20000 in
set_option maxHeartbeats 4000000 in
theorem k_X3_quick (l : Launch) (M : St) (L : Nat → Nat → Int64) (hI : InvK INVC M) : XM l yX3_quick cX3_quick 2 (some (.object "SupervisorMachine$Op")) R_X3_quick LAY [.ref 11] (M, L) (P_X3_quick (f_X3_quick M) L) := by
  refine XM.of (by decide) (Nat.le_of_ble_eq_true rfl) LAY_in cl_ok fl_X3_ok kc_X3_ok (fun V C => ?_)
  obtain ⟨r, h⟩ : ∃ r, f_X3_quick M = r := ⟨_, rfl⟩
  rw [h] at C
  change C_X3_quick l r L V at C
  unfold f_X3_quick at h
  show V 0 0 0 [(0, .ref 11)] [] LAY (M, L)
  refine x_run C e_X3_quick_1 e_X3_quick_1_k (pc' := 1) (lv' := [(0, .ref 11)]) (st' := [.ref 11]) (σ' := (M, L)) rfl ⟨trivial, trivial⟩ ?_
  refine x_callV C (k := 11) (ci := 2) (rest := []) (avs := []) (k_X3_z l  M L hI) yoX3_z ml_X3_144 rfl rfl rfl rfl ⟨Nat.zero_le _, Nat.zero_le _⟩ (show decode cX3_quick 1 = .ok (.invokevirtual 144, 3) from by decide +kernel) rfl (fun v σ' hPo => ?_)
  obtain ⟨⟨rfl, rfl⟩, g2, hI3⟩ := hPo
  show V 0 0 4 [(0, .ref 11)] [.int (f_X3_z  M)] LAY (M, L)
  refine x_run C e_X3_quick_2 e_X3_quick_2_k (pc' := 5) (lv' := [(0, .ref 11)]) (st' := [.int 3, .int (f_X3_z  M)]) (σ' := (M, L)) rfl ⟨trivial, trivial⟩ ?_
  refine x_icmp_ne C (show decode cX3_quick 5 = .ok (.if_icmp .ne 33, 3) from by decide +kernel) (tgt := 38) (by decide) (fun c4 => ?_) (fun c4 => ?_)
  · rw [if_neg c4] at h
    have g5 : xrg 0 2 (f_X3_z  M) := (x_c_neh g2 (by decide) c4)
    refine x_run C e_X3_quick_3 e_X3_quick_3_k (pc' := 39) (lv' := [(0, .ref 11)]) (st' := [.ref 11]) (σ' := (M, L)) rfl ⟨trivial, trivial⟩ ?_
    refine x_callV C (k := 11) (ci := 2) (rest := []) (avs := []) (k_X3_operand l  M L hI) yoX3_operand ml_X3_111 rfl rfl rfl rfl ⟨Nat.zero_le _, Nat.zero_le _⟩ (show decode cX3_quick 39 = .ok (.invokevirtual 111, 3) from by decide +kernel) rfl (fun v σ' hPo => ?_)
    obtain ⟨⟨rfl, rfl⟩, g7, hI8⟩ := hPo
    show V 0 0 42 [(0, .ref 11)] [.int (f_X3_operand  M)] LAY (M, L)
    refine x_run C e_X3_quick_4 e_X3_quick_4_k (pc' := 43) (lv' := [(0, .ref 11)]) (st' := [.ref 11, .int (f_X3_operand  M)]) (σ' := (M, L)) rfl ⟨trivial, trivial⟩ ?_
    refine x_callV C (k := 11) (ci := 2) (rest := [.int (f_X3_operand  M)]) (avs := []) (k_X3_z l  M L hI) yoX3_z ml_X3_144 rfl rfl rfl rfl ⟨Nat.zero_le _, Nat.zero_le _⟩ (show decode cX3_quick 43 = .ok (.invokevirtual 144, 3) from by decide +kernel) rfl (fun v σ' hPo => ?_)
    obtain ⟨⟨rfl, rfl⟩, g10, hI11⟩ := hPo
    show V 0 0 46 [(0, .ref 11)] [.int (f_X3_z  M), .int (f_X3_operand  M)] LAY (M, L)
    refine x_callS C (rest := []) (avs := [.int (f_X3_operand  M), .int (f_X3_z  M)]) (k_X9_isAny l (f_X3_operand  M) (f_X3_z  M) M L) yoX9_isAny ml_X3_118 rfl ⟨Nat.zero_le _, Nat.zero_le _⟩ (show decode cX3_quick 46 = .ok (.invokestatic 118, 3) from by decide +kernel) rfl (fun v σ' hPo => ?_)
    obtain ⟨⟨rfl, rfl⟩, g13, -⟩ := hPo
    show V 0 0 49 [(0, .ref 11)] [.int (f_X9_isAny (f_X3_operand  M) (f_X3_z  M))] LAY (M, L)
    refine x_if_eq C (show decode cX3_quick 49 = .ok (.ifCond .eq 17, 3) from by decide +kernel) (tgt := 66) (by decide) (fun c15 => ?_) (fun c15 => ?_)
    · rw [if_pos c15] at h
      have g16 : xrg 0 0 (f_X9_isAny (f_X3_operand  M) (f_X3_z  M)) := (x_c_eq g13 (x_rgc (x := 0) (k := 0) (by decide)) c15).1
      exact b_X3_quick_66 r C  M hI h
    · rw [if_neg c15] at h
      have g17 : xrg 1 1 (f_X9_isAny (f_X3_operand  M) (f_X3_z  M)) := (x_c_ne g13 (by decide) c15)
      refine x_run C e_X3_quick_5 e_X3_quick_5_k (pc' := 53) (lv' := [(0, .ref 11)]) (st' := [.ref 11]) (σ' := (M, L)) rfl ⟨trivial, trivial⟩ ?_
      refine x_callV C (k := 11) (ci := 2) (rest := []) (avs := []) (k_X3_operand l  M L hI) yoX3_operand ml_X3_111 rfl rfl rfl rfl ⟨Nat.zero_le _, Nat.zero_le _⟩ (show decode cX3_quick 53 = .ok (.invokevirtual 111, 3) from by decide +kernel) rfl (fun v σ' hPo => ?_)
      obtain ⟨⟨rfl, rfl⟩, g19, hI20⟩ := hPo
      show V 0 0 56 [(0, .ref 11)] [.int (f_X3_operand  M)] LAY (M, L)
      refine x_callS C (rest := []) (avs := [.int (f_X3_operand  M)]) (k_X9_isOpen l (f_X3_operand  M) M L) yoX9_isOpen ml_X3_124 rfl ⟨Nat.zero_le _, Nat.zero_le _⟩ (show decode cX3_quick 56 = .ok (.invokestatic 124, 3) from by decide +kernel) rfl (fun v σ' hPo => ?_)
      obtain ⟨⟨rfl, rfl⟩, g22, -⟩ := hPo
      show V 0 0 59 [(0, .ref 11)] [.int (f_X9_isOpen (f_X3_operand  M))] LAY (M, L)
      refine x_if_eq C (show decode cX3_quick 59 = .ok (.ifCond .eq 7, 3) from by decide +kernel) (tgt := 66) (by decide) (fun c24 => ?_) (fun c24 => ?_)
      · rw [if_pos c24] at h
        have g25 : xrg 0 0 (f_X9_isOpen (f_X3_operand  M)) := (x_c_eq g22 (x_rgc (x := 0) (k := 0) (by decide)) c24).1
        exact b_X3_quick_66 r C  M hI h
      · rw [if_neg c24] at h
        have g26 : xrg 1 1 (f_X9_isOpen (f_X3_operand  M)) := (x_c_ne g22 (by decide) c24)
        refine x_run C e_X3_quick_6 e_X3_quick_6_k (pc' := 63) (lv' := [(0, .ref 11)]) (st' := [.int 1]) (σ' := (M, L)) rfl ⟨trivial, trivial⟩ ?_
        refine x_goto C (show decode cX3_quick 63 = .ok (.goto 4, 3) from by decide +kernel) (tgt := 67) (by decide) ?_
        exact b_X3_quick_67 r C 1 M (x_rgw (x_rgc (x := 1) (k := 1) (by decide)) (lo' := 0) (hi' := 1) (by decide) (by decide)) hI h
  · rw [if_pos c4] at h
    have g27 : xrg 3 3 (f_X3_z  M) := (x_c_eq g2 (x_rgc (x := 3) (k := 3) (by decide)) c4).1
    refine x_run C e_X3_quick_7 e_X3_quick_7_k (pc' := 9) (lv' := [(0, .ref 11)]) (st' := [.ref 11]) (σ' := (M, L)) rfl ⟨trivial, trivial⟩ ?_
    refine x_callV C (k := 11) (ci := 2) (rest := []) (avs := []) (k_X3_mode l  M L hI) yoX3_mode ml_X3_151 rfl rfl rfl rfl ⟨Nat.zero_le _, Nat.zero_le _⟩ (show decode cX3_quick 9 = .ok (.invokevirtual 151, 3) from by decide +kernel) rfl (fun v σ' hPo => ?_)
    obtain ⟨⟨rfl, rfl⟩, g29, hI30⟩ := hPo
    show V 0 0 12 [(0, .ref 11)] [.int (f_X3_mode  M)] LAY (M, L)
    refine x_run C e_X3_quick_8 e_X3_quick_8_k (pc' := 13) (lv' := [(0, .ref 11)]) (st' := [.int 1, .int (f_X3_mode  M)]) (σ' := (M, L)) rfl ⟨trivial, trivial⟩ ?_
    refine x_icmp_ne C (show decode cX3_quick 13 = .ok (.if_icmp .ne 9, 3) from by decide +kernel) (tgt := 22) (by decide) (fun c31 => ?_) (fun c31 => ?_)
    · rw [if_neg c31] at h
      refine x_run C e_X3_quick_9 e_X3_quick_9_k (pc' := 23) (lv' := [(0, .ref 11)]) (st' := [.ref 11]) (σ' := (M, L)) rfl ⟨trivial, trivial⟩ ?_
      refine x_getE C 36 (by decide) (x_in 857 (by decide +kernel) rfl) (show decode cX3_quick 23 = .ok (.getstatic 190, 3) from by decide +kernel) ?_
      refine x_run C e_X3_quick_10 e_X3_quick_10_k (pc' := 28) (lv' := [(0, .ref 11)]) (st' := [.ref 11, .int 0, .ref (1000 + 36), .ref 11]) (σ' := (M, L)) rfl ⟨trivial, trivial, trivial⟩ ?_
      refine x_callV C (k := 11) (ci := 2) (rest := [.int 0, .ref (1000 + 36), .ref 11]) (avs := []) (k_X3_operand l  M L hI) yoX3_operand ml_X3_111 rfl rfl rfl rfl ⟨Nat.zero_le _, Nat.zero_le _⟩ (show decode cX3_quick 28 = .ok (.invokevirtual 111, 3) from by decide +kernel) rfl (fun v σ' hPo => ?_)
      obtain ⟨⟨rfl, rfl⟩, g33, hI34⟩ := hPo
      show V 0 0 31 [(0, .ref 11)] [.int (f_X3_operand  M), .int 0, .ref (1000 + 36), .ref 11] LAY (M, L)
      refine x_callS C (rest := [.int 0, .ref (1000 + 36), .ref 11]) (avs := [.int (f_X3_operand  M)]) (k_X9_isOpenData l (f_X3_operand  M) M L) yoX9_isOpenData ml_X3_175 rfl ⟨Nat.zero_le _, Nat.zero_le _⟩ (show decode cX3_quick 31 = .ok (.invokestatic 175, 3) from by decide +kernel) rfl (fun v σ' hPo => ?_)
      obtain ⟨⟨rfl, rfl⟩, g36, -⟩ := hPo
      show V 0 0 34 [(0, .ref 11)] [.int (f_X9_isOpenData (f_X3_operand  M)), .int 0, .ref (1000 + 36), .ref 11] LAY (M, L)
      refine x_callV C (k := 11) (ci := 2) (rest := []) (avs := [.ref (1000 + 36), .int 0, .int (f_X9_isOpenData (f_X3_operand  M))]) (k_X3_single l 36 0 (f_X9_isOpenData (f_X3_operand  M)) M L (show 36 < 66 by decide) hI) yoX3_single ml_X3_193 rfl rfl rfl rfl ⟨Nat.zero_le _, Nat.zero_le _⟩ (show decode cX3_quick 34 = .ok (.invokevirtual 193, 3) from by decide +kernel) rfl (fun v σ' hPo => ?_)
      obtain ⟨⟨rfl, rfl⟩, g39, hI40⟩ := hPo
      generalize hq38 : f_X3_single 36 0 (f_X9_isOpenData (f_X3_operand  M)) M = q38 at h g39 hI40 ⊢
      obtain ⟨r38, M38⟩ := q38
      have h := xb_eq h
      try dsimp only at h g39 hI40
      show V 0 0 37 [(0, .ref 11)] [.ref (1000 + r38)] LAY (M38, L)
      subst h
      exact x_aret C (show decode cX3_quick 37 = .ok (.areturn, 1) from by decide +kernel) (x_finE ⟨⟨rfl, rfl⟩, g39, hI40⟩) (Nat.le_refl 0) (Nat.le_refl 0)
    · rw [if_pos c31] at h
      have g41 : xrg 1 1 (f_X3_mode  M) := (x_c_eq g29 (x_rgc (x := 1) (k := 1) (by decide)) c31).1
      refine x_getE C 49 (by decide) (x_in 855 (by decide +kernel) rfl) (show decode cX3_quick 16 = .ok (.getstatic 187, 3) from by decide +kernel) ?_
      refine x_goto C (show decode cX3_quick 19 = .ok (.goto 18, 3) from by decide +kernel) (tgt := 37) (by decide) ?_
      subst h
      exact x_aret C (show decode cX3_quick 37 = .ok (.areturn, 1) from by decide +kernel) (x_finE ⟨⟨rfl, rfl⟩, (show 49 < 66 by decide), hI⟩) (Nat.le_refl 0) (Nat.le_refl 0)
-- X3_bits
def e_X3_bits_1 : List xI := [(0, .aload_n 0, 1, .null)]
theorem e_X3_bits_1_k : e_X3_bits_1.all (fun q => xokB cX3_bits q && xokL q) = true := by decide +kernel
def e_X3_bits_2 : List xI := [(11, .aload_n 0, 1, .null)]
theorem e_X3_bits_2_k : e_X3_bits_2.all (fun q => xokB cX3_bits q && xokL q) = true := by decide +kernel
def e_X3_bits_3 : List xI := [(7, .iload_n 2, 1, .null)]
theorem e_X3_bits_3_k : e_X3_bits_3.all (fun q => xokB cX3_bits q && xokL q) = true := by decide +kernel
def e_X3_bits_4 : List xI := [(18, .istore_n 3, 1, .null), (19, .aload_n 0, 1, .null), (20, .aload_n 1, 1, .null), (21, .aload_n 0, 1, .null)]
theorem e_X3_bits_4_k : e_X3_bits_4.all (fun q => xokB cX3_bits q && xokL q) = true := by decide +kernel
def e_X3_bits_5 : List xI := [(35, .iconst 0, 1, .int 0)]
theorem e_X3_bits_5_k : e_X3_bits_5.all (fun q => xokB cX3_bits q && xokL q) = true := by decide +kernel
def e_X3_bits_6 : List xI := [(31, .iconst 2, 1, .int 2)]
theorem e_X3_bits_6_k : e_X3_bits_6.all (fun q => xokB cX3_bits q && xokL q) = true := by decide +kernel
def e_X3_bits_7 : List xI := [(36, .iload_n 3, 1, .null)]
theorem e_X3_bits_7_k : e_X3_bits_7.all (fun q => xokB cX3_bits q && xokL q) = true := by decide +kernel
abbrev P_X3_bits (r : Nat × St) (L : Nat → Nat → Int64) : Option Value → xG → Prop := fun v σ' => PoE r.1 r.2 L v σ' ∧ r.1 < 66 ∧ InvK INVC r.2
abbrev R_X3_bits : Room := { frames := 2, cells := 0, slots := 0, locals := 48 }
abbrev C_X3_bits (l : Launch) (r : Nat × St) (L : Nat → Nat → Int64) (V : XJ) : Prop := XC l yX3_bits.cls yX3_bits.name cX3_bits 4 R_X3_bits 0 0 fl_X3 kc_X3 LAY.length (xfin (some (.object "SupervisorMachine$Op")) LAY (P_X3_bits r L)) V
def f_X3_bits_36 (x3 : Int32) (s0 : Int32) (s1 : Nat) (M : St) : Nat × St := (xb (f_X3_single s1 s0 x3 M) fun q22 => (q22.1, q22.2))
def f_X3_bits_18 (x1 : Nat) (s0 : Int32) (M : St) : Nat × St := (if (f_X9_of (f_X3_operand  M)) = 0 then f_X3_bits_36 s0 2 x1 M else f_X3_bits_36 s0 0 x1 M)
def f_X3_bits (a1 : Nat) (a2 : Int32) (M : St) : Nat × St := (if (f_X3_z  M) = 0 then f_X3_bits_18 a1 a2 M else f_X3_bits_18 a1 (f_X9_isOpenData (f_X3_operand  M)) M)
set_option maxRecDepth 20000 in
set_option maxHeartbeats 4000000 in
theorem b_X3_bits_36 {l : Launch} {L : Nat → Nat → Int64} {V : XJ} (r : Nat × St) (C : C_X3_bits l r L V) (x3 : Int32) (s0 : Int32) (s1 : Nat) (M : St) (ws0 : xrg 0 2 s0) (bds1 : s1 < 66) (hI : InvK INVC M) (h : f_X3_bits_36 x3 s0 s1 M = r) : V 0 0 36 [(3, .int x3)] [.int s0, .ref (1000 + s1), .ref 11] LAY (M, L) := by
  unfold f_X3_bits_36 at h
  refine x_run C e_X3_bits_7 e_X3_bits_7_k (pc' := 37) (lv' := [(3, .int x3)]) (st' := [.int x3, .int s0, .ref (1000 + s1), .ref 11]) (σ' := (M, L)) rfl ⟨trivial, trivial⟩ ?_
  refine x_callV C (k := 11) (ci := 2) (rest := []) (avs := [.ref (1000 + s1), .int s0, .int x3]) (k_X3_single l s1 s0 x3 M L bds1 hI) yoX3_single ml_X3_193 rfl rfl rfl rfl ⟨Nat.zero_le _, Nat.zero_le _⟩ (show decode cX3_bits 37 = .ok (.invokevirtual 193, 3) from by decide +kernel) rfl (fun v σ' hPo => ?_)
  obtain ⟨⟨rfl, rfl⟩, g23, hI24⟩ := hPo
  generalize hq22 : f_X3_single s1 s0 x3 M = q22 at h g23 hI24 ⊢
  obtain ⟨r22, M22⟩ := q22
  have h := xb_eq h
  try dsimp only at h g23 hI24
  show V 0 0 40 [(3, .int x3)] [.ref (1000 + r22)] LAY (M22, L)
  subst h
  exact x_aret C (show decode cX3_bits 40 = .ok (.areturn, 1) from by decide +kernel) (x_finE ⟨⟨rfl, rfl⟩, g23, hI24⟩) (Nat.le_refl 0) (Nat.le_refl 0)
set_option maxRecDepth 20000 in
set_option maxHeartbeats 4000000 in
theorem b_X3_bits_18 {l : Launch} {L : Nat → Nat → Int64} {V : XJ} (r : Nat × St) (C : C_X3_bits l r L V) (x1 : Nat) (s0 : Int32) (M : St) (bdx1 : x1 < 66) (hI : InvK INVC M) (h : f_X3_bits_18 x1 s0 M = r) : V 0 0 18 [(0, .ref 11), (1, .ref (1000 + x1))] [.int s0] LAY (M, L) := by
  unfold f_X3_bits_18 at h
  refine x_run C e_X3_bits_4 e_X3_bits_4_k (pc' := 22) (lv' := [(3, .int s0), (0, .ref 11), (1, .ref (1000 + x1))]) (st' := [.ref 11, .ref (1000 + x1), .ref 11]) (σ' := (M, L)) rfl ⟨trivial, trivial, trivial, trivial, trivial⟩ ?_
  refine x_callV C (k := 11) (ci := 2) (rest := [.ref (1000 + x1), .ref 11]) (avs := []) (k_X3_operand l  M L hI) yoX3_operand ml_X3_111 rfl rfl rfl rfl ⟨Nat.zero_le _, Nat.zero_le _⟩ (show decode cX3_bits 22 = .ok (.invokevirtual 111, 3) from by decide +kernel) rfl (fun v σ' hPo => ?_)
  obtain ⟨⟨rfl, rfl⟩, g14, hI15⟩ := hPo
  show V 0 0 25 [(3, .int s0), (0, .ref 11), (1, .ref (1000 + x1))] [.int (f_X3_operand  M), .ref (1000 + x1), .ref 11] LAY (M, L)
  refine x_callS C (rest := [.ref (1000 + x1), .ref 11]) (avs := [.int (f_X3_operand  M)]) (k_X9_of l (f_X3_operand  M) M L) yoX9_of ml_X3_137 rfl ⟨Nat.zero_le _, Nat.zero_le _⟩ (show decode cX3_bits 25 = .ok (.invokestatic 137, 3) from by decide +kernel) rfl (fun v σ' hPo => ?_)
  obtain ⟨⟨rfl, rfl⟩, g17, -⟩ := hPo
  show V 0 0 28 [(3, .int s0), (0, .ref 11), (1, .ref (1000 + x1))] [.int (f_X9_of (f_X3_operand  M)), .ref (1000 + x1), .ref 11] LAY (M, L)
  refine x_if_ne C (show decode cX3_bits 28 = .ok (.ifCond .ne 7, 3) from by decide +kernel) (tgt := 35) (by decide) (fun c19 => ?_) (fun c19 => ?_)
  · rw [if_neg c19] at h
    have g20 : xrg 1 14 (f_X9_of (f_X3_operand  M)) := (x_c_ne g17 (by decide) c19)
    refine x_run C e_X3_bits_5 e_X3_bits_5_k (pc' := 36) (lv' := [(3, .int s0), (0, .ref 11), (1, .ref (1000 + x1))]) (st' := [.int 0, .ref (1000 + x1), .ref 11]) (σ' := (M, L)) rfl ⟨trivial, trivial⟩ ?_
    refine x_lv C [0] rfl ?_
    exact b_X3_bits_36 r C s0 0 x1 M (x_rgw (x_rgc (x := 0) (k := 0) (by decide)) (lo' := 0) (hi' := 2) (by decide) (by decide)) bdx1 hI h
  · rw [if_pos c19] at h
    have g21 : xrg 0 0 (f_X9_of (f_X3_operand  M)) := (x_c_eq g17 (x_rgc (x := 0) (k := 0) (by decide)) c19).1
    refine x_run C e_X3_bits_6 e_X3_bits_6_k (pc' := 32) (lv' := [(3, .int s0), (0, .ref 11), (1, .ref (1000 + x1))]) (st' := [.int 2, .ref (1000 + x1), .ref 11]) (σ' := (M, L)) rfl ⟨trivial, trivial⟩ ?_
    refine x_goto C (show decode cX3_bits 32 = .ok (.goto 4, 3) from by decide +kernel) (tgt := 36) (by decide) ?_
    refine x_lv C [0] rfl ?_
    exact b_X3_bits_36 r C s0 2 x1 M (x_rgw (x_rgc (x := 2) (k := 2) (by decide)) (lo' := 0) (hi' := 2) (by decide) (by decide)) bdx1 hI h
set_option maxRecDepth 20000 in
set_option maxHeartbeats 4000000 in
theorem k_X3_bits (l : Launch) (a1 : Nat) (a2 : Int32) (M : St) (L : Nat → Nat → Int64) (hb1 : a1 < 66) (hI : InvK INVC M) : XM l yX3_bits cX3_bits 4 (some (.object "SupervisorMachine$Op")) R_X3_bits LAY [.ref 11, .ref (1000 + a1), .int a2] (M, L) (P_X3_bits (f_X3_bits a1 a2 M) L) := by
  refine XM.of (by decide) (Nat.le_of_ble_eq_true rfl) LAY_in cl_ok fl_X3_ok kc_X3_ok (fun V C => ?_)
  obtain ⟨r, h⟩ : ∃ r, f_X3_bits a1 a2 M = r := ⟨_, rfl⟩
  rw [h] at C
  change C_X3_bits l r L V at C
  unfold f_X3_bits at h
  show V 0 0 0 [(0, .ref 11), (1, .ref (1000 + a1)), (2, .int a2)] [] LAY (M, L)
  refine x_run C e_X3_bits_1 e_X3_bits_1_k (pc' := 1) (lv' := [(0, .ref 11), (1, .ref (1000 + a1)), (2, .int a2)]) (st' := [.ref 11]) (σ' := (M, L)) rfl ⟨trivial, trivial⟩ ?_
  refine x_callV C (k := 11) (ci := 2) (rest := []) (avs := []) (k_X3_z l  M L hI) yoX3_z ml_X3_144 rfl rfl rfl rfl ⟨Nat.zero_le _, Nat.zero_le _⟩ (show decode cX3_bits 1 = .ok (.invokevirtual 144, 3) from by decide +kernel) rfl (fun v σ' hPo => ?_)
  obtain ⟨⟨rfl, rfl⟩, g2, hI3⟩ := hPo
  show V 0 0 4 [(0, .ref 11), (1, .ref (1000 + a1)), (2, .int a2)] [.int (f_X3_z  M)] LAY (M, L)
  refine x_if_ne C (show decode cX3_bits 4 = .ok (.ifCond .ne 7, 3) from by decide +kernel) (tgt := 11) (by decide) (fun c4 => ?_) (fun c4 => ?_)
  · rw [if_neg c4] at h
    have g5 : xrg 1 3 (f_X3_z  M) := (x_c_ne g2 (by decide) c4)
    refine x_run C e_X3_bits_2 e_X3_bits_2_k (pc' := 12) (lv' := [(0, .ref 11), (1, .ref (1000 + a1)), (2, .int a2)]) (st' := [.ref 11]) (σ' := (M, L)) rfl ⟨trivial, trivial⟩ ?_
    refine x_callV C (k := 11) (ci := 2) (rest := []) (avs := []) (k_X3_operand l  M L hI) yoX3_operand ml_X3_111 rfl rfl rfl rfl ⟨Nat.zero_le _, Nat.zero_le _⟩ (show decode cX3_bits 12 = .ok (.invokevirtual 111, 3) from by decide +kernel) rfl (fun v σ' hPo => ?_)
    obtain ⟨⟨rfl, rfl⟩, g7, hI8⟩ := hPo
    show V 0 0 15 [(0, .ref 11), (1, .ref (1000 + a1)), (2, .int a2)] [.int (f_X3_operand  M)] LAY (M, L)
    refine x_callS C (rest := []) (avs := [.int (f_X3_operand  M)]) (k_X9_isOpenData l (f_X3_operand  M) M L) yoX9_isOpenData ml_X3_175 rfl ⟨Nat.zero_le _, Nat.zero_le _⟩ (show decode cX3_bits 15 = .ok (.invokestatic 175, 3) from by decide +kernel) rfl (fun v σ' hPo => ?_)
    obtain ⟨⟨rfl, rfl⟩, g10, -⟩ := hPo
    show V 0 0 18 [(0, .ref 11), (1, .ref (1000 + a1)), (2, .int a2)] [.int (f_X9_isOpenData (f_X3_operand  M))] LAY (M, L)
    refine x_lv C [0, 1] rfl ?_
    exact b_X3_bits_18 r C a1 (f_X9_isOpenData (f_X3_operand  M)) M hb1 hI h
  · rw [if_pos c4] at h
    have g12 : xrg 0 0 (f_X3_z  M) := (x_c_eq g2 (x_rgc (x := 0) (k := 0) (by decide)) c4).1
    refine x_run C e_X3_bits_3 e_X3_bits_3_k (pc' := 8) (lv' := [(0, .ref 11), (1, .ref (1000 + a1)), (2, .int a2)]) (st' := [.int a2]) (σ' := (M, L)) rfl ⟨trivial, trivial⟩ ?_
    refine x_goto C (show decode cX3_bits 8 = .ok (.goto 10, 3) from by decide +kernel) (tgt := 18) (by decide) ?_
    refine x_lv C [0, 1] rfl ?_
    exact b_X3_bits_18 r C a1 a2 M hb1 hI h
-- X3_byRegister
def e_X3_byRegister_1 : List xI := [(0, .aload_n 0, 1, .null)]
theorem e_X3_byRegister_1_k : e_X3_byRegister_1.all (fun q => xokB cX3_byRegister q && xokL q) = true := by decide +kernel
def e_X3_byRegister_2 : List xI := [(4, .iconst 1, 1, .int 1)]
theorem e_X3_byRegister_2_k : e_X3_byRegister_2.all (fun q => xokB cX3_byRegister q && xokL q) = true := by decide +kernel
def e_X3_byRegister_3 : List xI := [(12, .aload_n 0, 1, .null)]
theorem e_X3_byRegister_3_k : e_X3_byRegister_3.all (fun q => xokB cX3_byRegister q && xokL q) = true := by decide +kernel
def e_X3_byRegister_4 : List xI := [(16, .aload_n 0, 1, .null)]
theorem e_X3_byRegister_4_k : e_X3_byRegister_4.all (fun q => xokB cX3_byRegister q && xokL q) = true := by decide +kernel
abbrev P_X3_byRegister (r : Nat × St) (L : Nat → Nat → Int64) : Option Value → xG → Prop := fun v σ' => PoE r.1 r.2 L v σ' ∧ r.1 < 66 ∧ InvK INVC r.2
abbrev R_X3_byRegister : Room := { frames := 3, cells := 0, slots := 0, locals := 71 }
abbrev C_X3_byRegister (l : Launch) (r : Nat × St) (L : Nat → Nat → Int64) (V : XJ) : Prop := XC l yX3_byRegister.cls yX3_byRegister.name cX3_byRegister 1 R_X3_byRegister 0 0 fl_X3 kc_X3 LAY.length (xfin (some (.object "SupervisorMachine$Op")) LAY (P_X3_byRegister r L)) V
def f_X3_byRegister (M : St) : Nat × St := (if (f_X3_mode  M) = 1 then (24, M) else (xb (f_X3_bits 22 (f_X9_isData (f_X3_operand  M)) M) fun q11 => (q11.1, q11.2)))
set_option maxRecDepth 20000 in
set_option maxHeartbeats 4000000 in
theorem k_X3_byRegister (l : Launch) (M : St) (L : Nat → Nat → Int64) (hI : InvK INVC M) : XM l yX3_byRegister cX3_byRegister 1 (some (.object "SupervisorMachine$Op")) R_X3_byRegister LAY [.ref 11] (M, L) (P_X3_byRegister (f_X3_byRegister M) L) := by
  refine XM.of (by decide) (Nat.le_of_ble_eq_true rfl) LAY_in cl_ok fl_X3_ok kc_X3_ok (fun V C => ?_)
  obtain ⟨r, h⟩ : ∃ r, f_X3_byRegister M = r := ⟨_, rfl⟩
  rw [h] at C
  change C_X3_byRegister l r L V at C
  unfold f_X3_byRegister at h
  show V 0 0 0 [(0, .ref 11)] [] LAY (M, L)
  refine x_run C e_X3_byRegister_1 e_X3_byRegister_1_k (pc' := 1) (lv' := [(0, .ref 11)]) (st' := [.ref 11]) (σ' := (M, L)) rfl ⟨trivial, trivial⟩ ?_
  refine x_callV C (k := 11) (ci := 2) (rest := []) (avs := []) (k_X3_mode l  M L hI) yoX3_mode ml_X3_151 rfl rfl rfl rfl ⟨Nat.zero_le _, Nat.zero_le _⟩ (show decode cX3_byRegister 1 = .ok (.invokevirtual 151, 3) from by decide +kernel) rfl (fun v σ' hPo => ?_)
  obtain ⟨⟨rfl, rfl⟩, g2, hI3⟩ := hPo
  show V 0 0 4 [(0, .ref 11)] [.int (f_X3_mode  M)] LAY (M, L)
  refine x_run C e_X3_byRegister_2 e_X3_byRegister_2_k (pc' := 5) (lv' := [(0, .ref 11)]) (st' := [.int 1, .int (f_X3_mode  M)]) (σ' := (M, L)) rfl ⟨trivial, trivial⟩ ?_
  refine x_icmp_ne C (show decode cX3_byRegister 5 = .ok (.if_icmp .ne 7, 3) from by decide +kernel) (tgt := 12) (by decide) (fun c4 => ?_) (fun c4 => ?_)
  · rw [if_neg c4] at h
    refine x_run C e_X3_byRegister_3 e_X3_byRegister_3_k (pc' := 13) (lv' := [(0, .ref 11)]) (st' := [.ref 11]) (σ' := (M, L)) rfl ⟨trivial, trivial⟩ ?_
    refine x_getE C 22 (by decide) (x_in 873 (by decide +kernel) rfl) (show decode cX3_byRegister 13 = .ok (.getstatic 206, 3) from by decide +kernel) ?_
    refine x_run C e_X3_byRegister_4 e_X3_byRegister_4_k (pc' := 17) (lv' := [(0, .ref 11)]) (st' := [.ref 11, .ref (1000 + 22), .ref 11]) (σ' := (M, L)) rfl ⟨trivial, trivial⟩ ?_
    refine x_callV C (k := 11) (ci := 2) (rest := [.ref (1000 + 22), .ref 11]) (avs := []) (k_X3_operand l  M L hI) yoX3_operand ml_X3_111 rfl rfl rfl rfl ⟨Nat.zero_le _, Nat.zero_le _⟩ (show decode cX3_byRegister 17 = .ok (.invokevirtual 111, 3) from by decide +kernel) rfl (fun v σ' hPo => ?_)
    obtain ⟨⟨rfl, rfl⟩, g6, hI7⟩ := hPo
    show V 0 0 20 [(0, .ref 11)] [.int (f_X3_operand  M), .ref (1000 + 22), .ref 11] LAY (M, L)
    refine x_callS C (rest := [.ref (1000 + 22), .ref 11]) (avs := [.int (f_X3_operand  M)]) (k_X9_isData l (f_X3_operand  M) M L) yoX9_isData ml_X3_178 rfl ⟨Nat.zero_le _, Nat.zero_le _⟩ (show decode cX3_byRegister 20 = .ok (.invokestatic 178, 3) from by decide +kernel) rfl (fun v σ' hPo => ?_)
    obtain ⟨⟨rfl, rfl⟩, g9, -⟩ := hPo
    show V 0 0 23 [(0, .ref 11)] [.int (f_X9_isData (f_X3_operand  M)), .ref (1000 + 22), .ref 11] LAY (M, L)
    refine x_callV C (k := 11) (ci := 2) (rest := []) (avs := [.ref (1000 + 22), .int (f_X9_isData (f_X3_operand  M))]) (k_X3_bits l 22 (f_X9_isData (f_X3_operand  M)) M L (show 22 < 66 by decide) hI) yoX3_bits ml_X3_209 rfl rfl rfl rfl ⟨Nat.zero_le _, Nat.zero_le _⟩ (show decode cX3_byRegister 23 = .ok (.invokevirtual 209, 3) from by decide +kernel) rfl (fun v σ' hPo => ?_)
    obtain ⟨⟨rfl, rfl⟩, g12, hI13⟩ := hPo
    generalize hq11 : f_X3_bits 22 (f_X9_isData (f_X3_operand  M)) M = q11 at h g12 hI13 ⊢
    obtain ⟨r11, M11⟩ := q11
    have h := xb_eq h
    try dsimp only at h g12 hI13
    show V 0 0 26 [(0, .ref 11)] [.ref (1000 + r11)] LAY (M11, L)
    subst h
    exact x_aret C (show decode cX3_byRegister 26 = .ok (.areturn, 1) from by decide +kernel) (x_finE ⟨⟨rfl, rfl⟩, g12, hI13⟩) (Nat.le_refl 0) (Nat.le_refl 0)
  · rw [if_pos c4] at h
    have g14 : xrg 1 1 (f_X3_mode  M) := (x_c_eq g2 (x_rgc (x := 1) (k := 1) (by decide)) c4).1
    refine x_getE C 24 (by decide) (x_in 871 (by decide +kernel) rfl) (show decode cX3_byRegister 8 = .ok (.getstatic 203, 3) from by decide +kernel) ?_
    subst h
    exact x_aret C (show decode cX3_byRegister 11 = .ok (.areturn, 1) from by decide +kernel) (x_finE ⟨⟨rfl, rfl⟩, (show 24 < 66 by decide), hI⟩) (Nat.le_refl 0) (Nat.le_refl 0)
-- X3_withNumber
def e_X3_withNumber_1 : List xI := [(0, .aload_n 1, 1, .null)]
theorem e_X3_withNumber_1_k : e_X3_withNumber_1.all (fun q => xokB cX3_withNumber q && xokL q) = true := by decide +kernel
def e_X3_withNumber_2 : List xI := [(7, .aload_n 1, 1, .null)]
theorem e_X3_withNumber_2_k : e_X3_withNumber_2.all (fun q => xokB cX3_withNumber q && xokL q) = true := by decide +kernel
def e_X3_withNumber_3 : List xI := [(14, .aload_n 1, 1, .null)]
theorem e_X3_withNumber_3_k : e_X3_withNumber_3.all (fun q => xokB cX3_withNumber q && xokL q) = true := by decide +kernel
def e_X3_withNumber_4 : List xI := [(25, .iconst 0, 1, .int 0)]
theorem e_X3_withNumber_4_k : e_X3_withNumber_4.all (fun q => xokB cX3_withNumber q && xokL q) = true := by decide +kernel
def e_X3_withNumber_5 : List xI := [(21, .iconst 1, 1, .int 1)]
theorem e_X3_withNumber_5_k : e_X3_withNumber_5.all (fun q => xokB cX3_withNumber q && xokL q) = true := by decide +kernel
def e_X3_withNumber_6 : List xI := [(26, .istore_n 2, 1, .null), (27, .iload_n 2, 1, .null)]
theorem e_X3_withNumber_6_k : e_X3_withNumber_6.all (fun q => xokB cX3_withNumber q && xokL q) = true := by decide +kernel
def e_X3_withNumber_7 : List xI := [(31, .aload_n 0, 1, .null)]
theorem e_X3_withNumber_7_k : e_X3_withNumber_7.all (fun q => xokB cX3_withNumber q && xokL q) = true := by decide +kernel
def e_X3_withNumber_8 : List xI := [(35, .bipush 60, 2, .int 60)]
theorem e_X3_withNumber_8_k : e_X3_withNumber_8.all (fun q => xokB cX3_withNumber q && xokL q) = true := by decide +kernel
def e_X3_withNumber_9 : List xI := [(40, .aload_n 0, 1, .null)]
theorem e_X3_withNumber_9_k : e_X3_withNumber_9.all (fun q => xokB cX3_withNumber q && xokL q) = true := by decide +kernel
def e_X3_withNumber_10 : List xI := [(44, .iconst 2, 1, .int 2)]
theorem e_X3_withNumber_10_k : e_X3_withNumber_10.all (fun q => xokB cX3_withNumber q && xokL q) = true := by decide +kernel
def e_X3_withNumber_11 : List xI := [(48, .aload_n 0, 1, .null)]
theorem e_X3_withNumber_11_k : e_X3_withNumber_11.all (fun q => xokB cX3_withNumber q && xokL q) = true := by decide +kernel
def e_X3_withNumber_12 : List xI := [(65, .aload_n 0, 1, .null), (66, .aload_n 1, 1, .null), (67, .bipush 60, 2, .int 60), (69, .aload_n 0, 1, .null)]
theorem e_X3_withNumber_12_k : e_X3_withNumber_12.all (fun q => xokB cX3_withNumber q && xokL q) = true := by decide +kernel
def e_X3_withNumber_13 : List xI := [(73, .aload_n 0, 1, .null)]
theorem e_X3_withNumber_13_k : e_X3_withNumber_13.all (fun q => xokB cX3_withNumber q && xokL q) = true := by decide +kernel
def e_X3_withNumber_14 : List xI := [(77, .aload_n 0, 1, .null)]
theorem e_X3_withNumber_14_k : e_X3_withNumber_14.all (fun q => xokB cX3_withNumber q && xokL q) = true := by decide +kernel
def e_X3_withNumber_15 : List xI := [(81, .iconst 3, 1, .int 3)]
theorem e_X3_withNumber_15_k : e_X3_withNumber_15.all (fun q => xokB cX3_withNumber q && xokL q) = true := by decide +kernel
def e_X3_withNumber_16 : List xI := [(85, .aload_n 0, 1, .null)]
theorem e_X3_withNumber_16_k : e_X3_withNumber_16.all (fun q => xokB cX3_withNumber q && xokL q) = true := by decide +kernel
def e_X3_withNumber_17 : List xI := [(95, .iconst 1, 1, .int 1)]
theorem e_X3_withNumber_17_k : e_X3_withNumber_17.all (fun q => xokB cX3_withNumber q && xokL q) = true := by decide +kernel
def e_X3_withNumber_18 : List xI := [(99, .iconst 0, 1, .int 0)]
theorem e_X3_withNumber_18_k : e_X3_withNumber_18.all (fun q => xokB cX3_withNumber q && xokL q) = true := by decide +kernel
abbrev P_X3_withNumber (r : Nat × St) (L : Nat → Nat → Int64) : Option Value → xG → Prop := fun v σ' => PoE r.1 r.2 L v σ' ∧ r.1 < 66 ∧ InvK INVC r.2
abbrev R_X3_withNumber : Room := { frames := 2, cells := 0, slots := 0, locals := 42 }
abbrev C_X3_withNumber (l : Launch) (r : Nat × St) (L : Nat → Nat → Int64) (V : XJ) : Prop := XC l yX3_withNumber.cls yX3_withNumber.name cX3_withNumber 3 R_X3_withNumber 0 0 fl_X3 kc_X3 LAY.length (xfin (some (.object "SupervisorMachine$Op")) LAY (P_X3_withNumber r L)) V
def f_X3_withNumber_100 (s0 : Int32) (s1 : Int32) (s2 : Int32) (s3 : Int32) (s4 : Nat) (M : St) : Nat × St := (xb (f_X3_pair s4 s3 s2 s1 s0 M) fun q45 => (q45.1, q45.2))
def f_X3_withNumber_99 (s0 : Int32) (s1 : Int32) (s2 : Int32) (s3 : Nat) (M : St) : Nat × St := f_X3_withNumber_100 0 s0 s1 s2 s3 M
def f_X3_withNumber_65 (x1 : Nat) (M : St) : Nat × St := (if 3 ≤ (f_X3_z  M) then f_X3_withNumber_99 (f_X3_z  M) (f_X3_operand  M) 60 x1 M else (if (f_X9_isOpenData (f_X3_operand  M)) = 0 then f_X3_withNumber_99 (f_X3_z  M) (f_X3_operand  M) 60 x1 M else f_X3_withNumber_100 1 (f_X3_z  M) (f_X3_operand  M) 60 x1 M))
def f_X3_withNumber_26 (x1 : Nat) (s0 : Int32) (M : St) : Nat × St := (if s0 = 0 then f_X3_withNumber_65 x1 M else (if (f_X3_operand  M) = 60 then (if 2 ≤ (f_X3_z  M) then f_X3_withNumber_65 x1 M else (if (f_X3_z  M) = 0 then (25, M) else (26, M))) else f_X3_withNumber_65 x1 M))
def f_X3_withNumber_21 (x1 : Nat) (M : St) : Nat × St := f_X3_withNumber_26 x1 1 M
def f_X3_withNumber (a1 : Nat) (M : St) : Nat × St := (if a1 = 9 then f_X3_withNumber_21 a1 M else (if a1 = 8 then f_X3_withNumber_21 a1 M else (if a1 = 10 then f_X3_withNumber_21 a1 M else f_X3_withNumber_26 a1 0 M)))
set_option maxRecDepth 20000 in
set_option maxHeartbeats 4000000 in
theorem b_X3_withNumber_100 {l : Launch} {L : Nat → Nat → Int64} {V : XJ} (r : Nat × St) (C : C_X3_withNumber l r L V) (s0 : Int32) (s1 : Int32) (s2 : Int32) (s3 : Int32) (s4 : Nat) (M : St) (ws0 : xrg 0 1 s0) (ws1 : xrg 0 3 s1) (ws2 : xrg 0 63 s2) (ws3 : xrg 60 60 s3) (bds4 : s4 < 66) (hI : InvK INVC M) (h : f_X3_withNumber_100 s0 s1 s2 s3 s4 M = r) : V 0 0 100 [] [.int s0, .int s1, .int s2, .int s3, .ref (1000 + s4), .ref 11] LAY (M, L) := by
  unfold f_X3_withNumber_100 at h
  refine x_callV C (k := 11) (ci := 2) (rest := []) (avs := [.ref (1000 + s4), .int s3, .int s2, .int s1, .int s0]) (k_X3_pair l s4 s3 s2 s1 s0 M L bds4 hI) yoX3_pair ml_X3_114 rfl rfl rfl rfl ⟨Nat.zero_le _, Nat.zero_le _⟩ (show decode cX3_withNumber 100 = .ok (.invokevirtual 114, 3) from by decide +kernel) rfl (fun v σ' hPo => ?_)
  obtain ⟨⟨rfl, rfl⟩, g46, hI47⟩ := hPo
  generalize hq45 : f_X3_pair s4 s3 s2 s1 s0 M = q45 at h g46 hI47 ⊢
  obtain ⟨r45, M45⟩ := q45
  have h := xb_eq h
  try dsimp only at h g46 hI47
  show V 0 0 103 [] [.ref (1000 + r45)] LAY (M45, L)
  subst h
  exact x_aret C (show decode cX3_withNumber 103 = .ok (.areturn, 1) from by decide +kernel) (x_finE ⟨⟨rfl, rfl⟩, g46, hI47⟩) (Nat.le_refl 0) (Nat.le_refl 0)
set_option maxRecDepth 20000 in
set_option maxHeartbeats 4000000 in
theorem b_X3_withNumber_99 {l : Launch} {L : Nat → Nat → Int64} {V : XJ} (r : Nat × St) (C : C_X3_withNumber l r L V) (s0 : Int32) (s1 : Int32) (s2 : Int32) (s3 : Nat) (M : St) (ws0 : xrg 0 3 s0) (ws1 : xrg 0 63 s1) (ws2 : xrg 60 60 s2) (bds3 : s3 < 66) (hI : InvK INVC M) (h : f_X3_withNumber_99 s0 s1 s2 s3 M = r) : V 0 0 99 [] [.int s0, .int s1, .int s2, .ref (1000 + s3), .ref 11] LAY (M, L) := by
  unfold f_X3_withNumber_99 at h
  refine x_run C e_X3_withNumber_18 e_X3_withNumber_18_k (pc' := 100) (lv' := []) (st' := [.int 0, .int s0, .int s1, .int s2, .ref (1000 + s3), .ref 11]) (σ' := (M, L)) rfl ⟨trivial, trivial⟩ ?_
  exact b_X3_withNumber_100 r C 0 s0 s1 s2 s3 M (x_rgw (x_rgc (x := 0) (k := 0) (by decide)) (lo' := 0) (hi' := 1) (by decide) (by decide)) ws0 ws1 ws2 bds3 hI h
set_option maxRecDepth 20000 in
set_option maxHeartbeats 4000000 in
theorem b_X3_withNumber_65 {l : Launch} {L : Nat → Nat → Int64} {V : XJ} (r : Nat × St) (C : C_X3_withNumber l r L V) (x1 : Nat) (M : St) (bdx1 : x1 < 66) (hI : InvK INVC M) (h : f_X3_withNumber_65 x1 M = r) : V 0 0 65 [(0, .ref 11), (1, .ref (1000 + x1))] [] LAY (M, L) := by
  unfold f_X3_withNumber_65 at h
  refine x_run C e_X3_withNumber_12 e_X3_withNumber_12_k (pc' := 70) (lv' := [(0, .ref 11), (1, .ref (1000 + x1))]) (st' := [.ref 11, .int 60, .ref (1000 + x1), .ref 11]) (σ' := (M, L)) rfl ⟨trivial, trivial, trivial, trivial, trivial⟩ ?_
  refine x_callV C (k := 11) (ci := 2) (rest := [.int 60, .ref (1000 + x1), .ref 11]) (avs := []) (k_X3_operand l  M L hI) yoX3_operand ml_X3_111 rfl rfl rfl rfl ⟨Nat.zero_le _, Nat.zero_le _⟩ (show decode cX3_withNumber 70 = .ok (.invokevirtual 111, 3) from by decide +kernel) rfl (fun v σ' hPo => ?_)
  obtain ⟨⟨rfl, rfl⟩, g25, hI26⟩ := hPo
  show V 0 0 73 [(0, .ref 11), (1, .ref (1000 + x1))] [.int (f_X3_operand  M), .int 60, .ref (1000 + x1), .ref 11] LAY (M, L)
  refine x_run C e_X3_withNumber_13 e_X3_withNumber_13_k (pc' := 74) (lv' := [(0, .ref 11), (1, .ref (1000 + x1))]) (st' := [.ref 11, .int (f_X3_operand  M), .int 60, .ref (1000 + x1), .ref 11]) (σ' := (M, L)) rfl ⟨trivial, trivial⟩ ?_
  refine x_callV C (k := 11) (ci := 2) (rest := [.int (f_X3_operand  M), .int 60, .ref (1000 + x1), .ref 11]) (avs := []) (k_X3_z l  M L hI) yoX3_z ml_X3_144 rfl rfl rfl rfl ⟨Nat.zero_le _, Nat.zero_le _⟩ (show decode cX3_withNumber 74 = .ok (.invokevirtual 144, 3) from by decide +kernel) rfl (fun v σ' hPo => ?_)
  obtain ⟨⟨rfl, rfl⟩, g28, hI29⟩ := hPo
  show V 0 0 77 [(0, .ref 11), (1, .ref (1000 + x1))] [.int (f_X3_z  M), .int (f_X3_operand  M), .int 60, .ref (1000 + x1), .ref 11] LAY (M, L)
  refine x_run C e_X3_withNumber_14 e_X3_withNumber_14_k (pc' := 78) (lv' := [(0, .ref 11), (1, .ref (1000 + x1))]) (st' := [.ref 11, .int (f_X3_z  M), .int (f_X3_operand  M), .int 60, .ref (1000 + x1), .ref 11]) (σ' := (M, L)) rfl ⟨trivial, trivial⟩ ?_
  refine x_callV C (k := 11) (ci := 2) (rest := [.int (f_X3_z  M), .int (f_X3_operand  M), .int 60, .ref (1000 + x1), .ref 11]) (avs := []) (k_X3_z l  M L hI) yoX3_z ml_X3_144 rfl rfl rfl rfl ⟨Nat.zero_le _, Nat.zero_le _⟩ (show decode cX3_withNumber 78 = .ok (.invokevirtual 144, 3) from by decide +kernel) rfl (fun v σ' hPo => ?_)
  obtain ⟨⟨rfl, rfl⟩, g31, hI32⟩ := hPo
  show V 0 0 81 [(0, .ref 11), (1, .ref (1000 + x1))] [.int (f_X3_z  M), .int (f_X3_z  M), .int (f_X3_operand  M), .int 60, .ref (1000 + x1), .ref 11] LAY (M, L)
  refine x_run C e_X3_withNumber_15 e_X3_withNumber_15_k (pc' := 82) (lv' := [(0, .ref 11), (1, .ref (1000 + x1))]) (st' := [.int 3, .int (f_X3_z  M), .int (f_X3_z  M), .int (f_X3_operand  M), .int 60, .ref (1000 + x1), .ref 11]) (σ' := (M, L)) rfl ⟨trivial, trivial⟩ ?_
  refine x_icmp_ge C (show decode cX3_withNumber 82 = .ok (.if_icmp .ge 17, 3) from by decide +kernel) (tgt := 99) (by decide) (fun c33 => ?_) (fun c33 => ?_)
  · rw [if_pos c33] at h
    have g34 : xrg 3 3 (f_X3_z  M) := (x_c_le (x_rgc (x := 3) (k := 3) (by decide)) g31 c33).2
    refine x_lv C [] rfl ?_
    exact b_X3_withNumber_99 r C (f_X3_z  M) (f_X3_operand  M) 60 x1 M (x_rgw g34 (lo' := 0) (hi' := 3) (by decide) (by decide)) g25 (x_rgc (x := 60) (k := 60) (by decide)) bdx1 hI h
  · rw [if_neg c33] at h
    have g35 : xrg 0 2 (f_X3_z  M) := (x_c_nle (x_rgc (x := 3) (k := 3) (by decide)) g31 c33).2
    refine x_run C e_X3_withNumber_16 e_X3_withNumber_16_k (pc' := 86) (lv' := [(0, .ref 11), (1, .ref (1000 + x1))]) (st' := [.ref 11, .int (f_X3_z  M), .int (f_X3_operand  M), .int 60, .ref (1000 + x1), .ref 11]) (σ' := (M, L)) rfl ⟨trivial, trivial⟩ ?_
    refine x_callV C (k := 11) (ci := 2) (rest := [.int (f_X3_z  M), .int (f_X3_operand  M), .int 60, .ref (1000 + x1), .ref 11]) (avs := []) (k_X3_operand l  M L hI) yoX3_operand ml_X3_111 rfl rfl rfl rfl ⟨Nat.zero_le _, Nat.zero_le _⟩ (show decode cX3_withNumber 86 = .ok (.invokevirtual 111, 3) from by decide +kernel) rfl (fun v σ' hPo => ?_)
    obtain ⟨⟨rfl, rfl⟩, g37, hI38⟩ := hPo
    show V 0 0 89 [(0, .ref 11), (1, .ref (1000 + x1))] [.int (f_X3_operand  M), .int (f_X3_z  M), .int (f_X3_operand  M), .int 60, .ref (1000 + x1), .ref 11] LAY (M, L)
    refine x_callS C (rest := [.int (f_X3_z  M), .int (f_X3_operand  M), .int 60, .ref (1000 + x1), .ref 11]) (avs := [.int (f_X3_operand  M)]) (k_X9_isOpenData l (f_X3_operand  M) M L) yoX9_isOpenData ml_X3_175 rfl ⟨Nat.zero_le _, Nat.zero_le _⟩ (show decode cX3_withNumber 89 = .ok (.invokestatic 175, 3) from by decide +kernel) rfl (fun v σ' hPo => ?_)
    obtain ⟨⟨rfl, rfl⟩, g40, -⟩ := hPo
    show V 0 0 92 [(0, .ref 11), (1, .ref (1000 + x1))] [.int (f_X9_isOpenData (f_X3_operand  M)), .int (f_X3_z  M), .int (f_X3_operand  M), .int 60, .ref (1000 + x1), .ref 11] LAY (M, L)
    refine x_if_eq C (show decode cX3_withNumber 92 = .ok (.ifCond .eq 7, 3) from by decide +kernel) (tgt := 99) (by decide) (fun c42 => ?_) (fun c42 => ?_)
    · rw [if_pos c42] at h
      have g43 : xrg 0 0 (f_X9_isOpenData (f_X3_operand  M)) := (x_c_eq g40 (x_rgc (x := 0) (k := 0) (by decide)) c42).1
      refine x_lv C [] rfl ?_
      exact b_X3_withNumber_99 r C (f_X3_z  M) (f_X3_operand  M) 60 x1 M (x_rgw g35 (lo' := 0) (hi' := 3) (by decide) (by decide)) g37 (x_rgc (x := 60) (k := 60) (by decide)) bdx1 hI h
    · rw [if_neg c42] at h
      have g44 : xrg 1 1 (f_X9_isOpenData (f_X3_operand  M)) := (x_c_ne g40 (by decide) c42)
      refine x_run C e_X3_withNumber_17 e_X3_withNumber_17_k (pc' := 96) (lv' := [(0, .ref 11), (1, .ref (1000 + x1))]) (st' := [.int 1, .int (f_X3_z  M), .int (f_X3_operand  M), .int 60, .ref (1000 + x1), .ref 11]) (σ' := (M, L)) rfl ⟨trivial, trivial⟩ ?_
      refine x_goto C (show decode cX3_withNumber 96 = .ok (.goto 4, 3) from by decide +kernel) (tgt := 100) (by decide) ?_
      refine x_lv C [] rfl ?_
      exact b_X3_withNumber_100 r C 1 (f_X3_z  M) (f_X3_operand  M) 60 x1 M (x_rgw (x_rgc (x := 1) (k := 1) (by decide)) (lo' := 0) (hi' := 1) (by decide) (by decide)) (x_rgw g35 (lo' := 0) (hi' := 3) (by decide) (by decide)) g37 (x_rgc (x := 60) (k := 60) (by decide)) bdx1 hI h
set_option maxRecDepth 20000 in
set_option maxHeartbeats 4000000 in
theorem b_X3_withNumber_26 {l : Launch} {L : Nat → Nat → Int64} {V : XJ} (r : Nat × St) (C : C_X3_withNumber l r L V) (x1 : Nat) (s0 : Int32) (M : St) (bdx1 : x1 < 66) (ws0 : xrg 0 1 s0) (hI : InvK INVC M) (h : f_X3_withNumber_26 x1 s0 M = r) : V 0 0 26 [(0, .ref 11), (1, .ref (1000 + x1))] [.int s0] LAY (M, L) := by
  unfold f_X3_withNumber_26 at h
  refine x_run C e_X3_withNumber_6 e_X3_withNumber_6_k (pc' := 28) (lv' := [(2, .int s0), (0, .ref 11), (1, .ref (1000 + x1))]) (st' := [.int s0]) (σ' := (M, L)) rfl ⟨trivial, trivial, trivial⟩ ?_
  refine x_if_eq C (show decode cX3_withNumber 28 = .ok (.ifCond .eq 37, 3) from by decide +kernel) (tgt := 65) (by decide) (fun c4 => ?_) (fun c4 => ?_)
  · rw [if_pos c4] at h
    have g5 : xrg 0 0 s0 := (x_c_eq ws0 (x_rgc (x := 0) (k := 0) (by decide)) c4).1
    refine x_lv C [1, 2] rfl ?_
    exact b_X3_withNumber_65 r C x1 M bdx1 hI h
  · rw [if_neg c4] at h
    have g6 : xrg 1 1 s0 := (x_c_ne ws0 (by decide) c4)
    refine x_run C e_X3_withNumber_7 e_X3_withNumber_7_k (pc' := 32) (lv' := [(2, .int s0), (0, .ref 11), (1, .ref (1000 + x1))]) (st' := [.ref 11]) (σ' := (M, L)) rfl ⟨trivial, trivial⟩ ?_
    refine x_callV C (k := 11) (ci := 2) (rest := []) (avs := []) (k_X3_operand l  M L hI) yoX3_operand ml_X3_111 rfl rfl rfl rfl ⟨Nat.zero_le _, Nat.zero_le _⟩ (show decode cX3_withNumber 32 = .ok (.invokevirtual 111, 3) from by decide +kernel) rfl (fun v σ' hPo => ?_)
    obtain ⟨⟨rfl, rfl⟩, g8, hI9⟩ := hPo
    show V 0 0 35 [(2, .int s0), (0, .ref 11), (1, .ref (1000 + x1))] [.int (f_X3_operand  M)] LAY (M, L)
    refine x_run C e_X3_withNumber_8 e_X3_withNumber_8_k (pc' := 37) (lv' := [(2, .int s0), (0, .ref 11), (1, .ref (1000 + x1))]) (st' := [.int 60, .int (f_X3_operand  M)]) (σ' := (M, L)) rfl ⟨trivial, trivial⟩ ?_
    refine x_icmp_ne C (show decode cX3_withNumber 37 = .ok (.if_icmp .ne 28, 3) from by decide +kernel) (tgt := 65) (by decide) (fun c10 => ?_) (fun c10 => ?_)
    · rw [if_neg c10] at h
      refine x_lv C [1, 2] rfl ?_
      exact b_X3_withNumber_65 r C x1 M bdx1 hI h
    · rw [if_pos c10] at h
      have g11 : xrg 60 60 (f_X3_operand  M) := (x_c_eq g8 (x_rgc (x := 60) (k := 60) (by decide)) c10).1
      refine x_run C e_X3_withNumber_9 e_X3_withNumber_9_k (pc' := 41) (lv' := [(2, .int s0), (0, .ref 11), (1, .ref (1000 + x1))]) (st' := [.ref 11]) (σ' := (M, L)) rfl ⟨trivial, trivial⟩ ?_
      refine x_callV C (k := 11) (ci := 2) (rest := []) (avs := []) (k_X3_z l  M L hI) yoX3_z ml_X3_144 rfl rfl rfl rfl ⟨Nat.zero_le _, Nat.zero_le _⟩ (show decode cX3_withNumber 41 = .ok (.invokevirtual 144, 3) from by decide +kernel) rfl (fun v σ' hPo => ?_)
      obtain ⟨⟨rfl, rfl⟩, g13, hI14⟩ := hPo
      show V 0 0 44 [(2, .int s0), (0, .ref 11), (1, .ref (1000 + x1))] [.int (f_X3_z  M)] LAY (M, L)
      refine x_run C e_X3_withNumber_10 e_X3_withNumber_10_k (pc' := 45) (lv' := [(2, .int s0), (0, .ref 11), (1, .ref (1000 + x1))]) (st' := [.int 2, .int (f_X3_z  M)]) (σ' := (M, L)) rfl ⟨trivial, trivial⟩ ?_
      refine x_icmp_ge C (show decode cX3_withNumber 45 = .ok (.if_icmp .ge 20, 3) from by decide +kernel) (tgt := 65) (by decide) (fun c15 => ?_) (fun c15 => ?_)
      · rw [if_pos c15] at h
        have g16 : xrg 2 3 (f_X3_z  M) := (x_c_le (x_rgc (x := 2) (k := 2) (by decide)) g13 c15).2
        refine x_lv C [1, 2] rfl ?_
        exact b_X3_withNumber_65 r C x1 M bdx1 hI h
      · rw [if_neg c15] at h
        have g17 : xrg 0 1 (f_X3_z  M) := (x_c_nle (x_rgc (x := 2) (k := 2) (by decide)) g13 c15).2
        refine x_run C e_X3_withNumber_11 e_X3_withNumber_11_k (pc' := 49) (lv' := [(2, .int s0), (0, .ref 11), (1, .ref (1000 + x1))]) (st' := [.ref 11]) (σ' := (M, L)) rfl ⟨trivial, trivial⟩ ?_
        refine x_callV C (k := 11) (ci := 2) (rest := []) (avs := []) (k_X3_z l  M L hI) yoX3_z ml_X3_144 rfl rfl rfl rfl ⟨Nat.zero_le _, Nat.zero_le _⟩ (show decode cX3_withNumber 49 = .ok (.invokevirtual 144, 3) from by decide +kernel) rfl (fun v σ' hPo => ?_)
        obtain ⟨⟨rfl, rfl⟩, g19, hI20⟩ := hPo
        show V 0 0 52 [(2, .int s0), (0, .ref 11), (1, .ref (1000 + x1))] [.int (f_X3_z  M)] LAY (M, L)
        refine x_if_ne C (show decode cX3_withNumber 52 = .ok (.ifCond .ne 9, 3) from by decide +kernel) (tgt := 61) (by decide) (fun c21 => ?_) (fun c21 => ?_)
        · rw [if_neg c21] at h
          have g22 : xrg 1 3 (f_X3_z  M) := (x_c_ne g19 (by decide) c21)
          refine x_getE C 26 (by decide) (x_in 889 (by decide +kernel) rfl) (show decode cX3_withNumber 61 = .ok (.getstatic 222, 3) from by decide +kernel) ?_
          subst h
          exact x_aret C (show decode cX3_withNumber 64 = .ok (.areturn, 1) from by decide +kernel) (x_finE ⟨⟨rfl, rfl⟩, (show 26 < 66 by decide), hI⟩) (Nat.le_refl 0) (Nat.le_refl 0)
        · rw [if_pos c21] at h
          have g23 : xrg 0 0 (f_X3_z  M) := (x_c_eq g19 (x_rgc (x := 0) (k := 0) (by decide)) c21).1
          refine x_getE C 25 (by decide) (x_in 887 (by decide +kernel) rfl) (show decode cX3_withNumber 55 = .ok (.getstatic 219, 3) from by decide +kernel) ?_
          refine x_goto C (show decode cX3_withNumber 58 = .ok (.goto 6, 3) from by decide +kernel) (tgt := 64) (by decide) ?_
          subst h
          exact x_aret C (show decode cX3_withNumber 64 = .ok (.areturn, 1) from by decide +kernel) (x_finE ⟨⟨rfl, rfl⟩, (show 25 < 66 by decide), hI⟩) (Nat.le_refl 0) (Nat.le_refl 0)
set_option maxRecDepth 20000 in
set_option maxHeartbeats 4000000 in
theorem b_X3_withNumber_21 {l : Launch} {L : Nat → Nat → Int64} {V : XJ} (r : Nat × St) (C : C_X3_withNumber l r L V) (x1 : Nat) (M : St) (bdx1 : x1 < 66) (hI : InvK INVC M) (h : f_X3_withNumber_21 x1 M = r) : V 0 0 21 [(0, .ref 11), (1, .ref (1000 + x1))] [] LAY (M, L) := by
  unfold f_X3_withNumber_21 at h
  refine x_run C e_X3_withNumber_5 e_X3_withNumber_5_k (pc' := 22) (lv' := [(0, .ref 11), (1, .ref (1000 + x1))]) (st' := [.int 1]) (σ' := (M, L)) rfl ⟨trivial, trivial⟩ ?_
  refine x_goto C (show decode cX3_withNumber 22 = .ok (.goto 4, 3) from by decide +kernel) (tgt := 26) (by decide) ?_
  exact b_X3_withNumber_26 r C x1 1 M bdx1 (x_rgw (x_rgc (x := 1) (k := 1) (by decide)) (lo' := 0) (hi' := 1) (by decide) (by decide)) hI h
set_option maxRecDepth 20000 in
set_option maxHeartbeats 4000000 in
theorem k_X3_withNumber (l : Launch) (a1 : Nat) (M : St) (L : Nat → Nat → Int64) (hb1 : a1 < 66) (hI : InvK INVC M) : XM l yX3_withNumber cX3_withNumber 3 (some (.object "SupervisorMachine$Op")) R_X3_withNumber LAY [.ref 11, .ref (1000 + a1)] (M, L) (P_X3_withNumber (f_X3_withNumber a1 M) L) := by
  refine XM.of (by decide) (Nat.le_of_ble_eq_true rfl) LAY_in cl_ok fl_X3_ok kc_X3_ok (fun V C => ?_)
  obtain ⟨r, h⟩ : ∃ r, f_X3_withNumber a1 M = r := ⟨_, rfl⟩
  rw [h] at C
  change C_X3_withNumber l r L V at C
  unfold f_X3_withNumber at h
  show V 0 0 0 [(0, .ref 11), (1, .ref (1000 + a1))] [] LAY (M, L)
  refine x_run C e_X3_withNumber_1 e_X3_withNumber_1_k (pc' := 1) (lv' := [(0, .ref 11), (1, .ref (1000 + a1))]) (st' := [.ref (1000 + a1)]) (σ' := (M, L)) rfl ⟨trivial, trivial⟩ ?_
  refine x_getE C 9 (by decide) (x_in 845 (by decide +kernel) rfl) (show decode cX3_withNumber 1 = .ok (.getstatic 62, 3) from by decide +kernel) ?_
  refine x_acmp_eq C hb1 (show 9 < 66 by decide) (show decode cX3_withNumber 4 = .ok (.if_acmp .eq 17, 3) from by decide +kernel) (tgt := 21) (by decide) (fun c1 => ?_) (fun c1 => ?_)
  · rw [if_pos c1] at h
    exact b_X3_withNumber_21 r C a1 M hb1 hI h
  · rw [if_neg c1] at h
    refine x_run C e_X3_withNumber_2 e_X3_withNumber_2_k (pc' := 8) (lv' := [(0, .ref 11), (1, .ref (1000 + a1))]) (st' := [.ref (1000 + a1)]) (σ' := (M, L)) rfl ⟨trivial, trivial⟩ ?_
    refine x_getE C 8 (by decide) (x_in 829 (by decide +kernel) rfl) (show decode cX3_withNumber 8 = .ok (.getstatic 50, 3) from by decide +kernel) ?_
    refine x_acmp_eq C hb1 (show 8 < 66 by decide) (show decode cX3_withNumber 11 = .ok (.if_acmp .eq 10, 3) from by decide +kernel) (tgt := 21) (by decide) (fun c2 => ?_) (fun c2 => ?_)
    · rw [if_pos c2] at h
      exact b_X3_withNumber_21 r C a1 M hb1 hI h
    · rw [if_neg c2] at h
      refine x_run C e_X3_withNumber_3 e_X3_withNumber_3_k (pc' := 15) (lv' := [(0, .ref 11), (1, .ref (1000 + a1))]) (st' := [.ref (1000 + a1)]) (σ' := (M, L)) rfl ⟨trivial, trivial⟩ ?_
      refine x_getE C 10 (by decide) (x_in 827 (by decide +kernel) rfl) (show decode cX3_withNumber 15 = .ok (.getstatic 172, 3) from by decide +kernel) ?_
      refine x_acmp_ne C hb1 (show 10 < 66 by decide) (show decode cX3_withNumber 18 = .ok (.if_acmp .ne 7, 3) from by decide +kernel) (tgt := 25) (by decide) (fun c3 => ?_) (fun c3 => ?_)
      · rw [if_neg c3] at h
        refine x_run C e_X3_withNumber_4 e_X3_withNumber_4_k (pc' := 26) (lv' := [(0, .ref 11), (1, .ref (1000 + a1))]) (st' := [.int 0]) (σ' := (M, L)) rfl ⟨trivial, trivial⟩ ?_
        exact b_X3_withNumber_26 r C a1 0 M hb1 (x_rgw (x_rgc (x := 0) (k := 0) (by decide)) (lo' := 0) (hi' := 1) (by decide) (by decide)) hI h
      · rw [if_pos c3] at h
        exact b_X3_withNumber_21 r C a1 M hb1 hI h
-- X3_byNumber
def e_X3_byNumber_1 : List xI := [(0, .aload_n 0, 1, .null)]
theorem e_X3_byNumber_1_k : e_X3_byNumber_1.all (fun q => xokB cX3_byNumber q && xokL q) = true := by decide +kernel
def e_X3_byNumber_2 : List xI := [(48, .aload_n 0, 1, .null)]
theorem e_X3_byNumber_2_k : e_X3_byNumber_2.all (fun q => xokB cX3_byNumber q && xokL q) = true := by decide +kernel
def e_X3_byNumber_3 : List xI := [(56, .aload_n 0, 1, .null)]
theorem e_X3_byNumber_3_k : e_X3_byNumber_3.all (fun q => xokB cX3_byNumber q && xokL q) = true := by decide +kernel
def e_X3_byNumber_4 : List xI := [(64, .aload_n 0, 1, .null)]
theorem e_X3_byNumber_4_k : e_X3_byNumber_4.all (fun q => xokB cX3_byNumber q && xokL q) = true := by decide +kernel
def e_X3_byNumber_5 : List xI := [(72, .aload_n 0, 1, .null)]
theorem e_X3_byNumber_5_k : e_X3_byNumber_5.all (fun q => xokB cX3_byNumber q && xokL q) = true := by decide +kernel
def e_X3_byNumber_6 : List xI := [(80, .aload_n 0, 1, .null)]
theorem e_X3_byNumber_6_k : e_X3_byNumber_6.all (fun q => xokB cX3_byNumber q && xokL q) = true := by decide +kernel
def e_X3_byNumber_7 : List xI := [(84, .aload_n 0, 1, .null)]
theorem e_X3_byNumber_7_k : e_X3_byNumber_7.all (fun q => xokB cX3_byNumber q && xokL q) = true := by decide +kernel
def e_X3_byNumber_8 : List xI := [(94, .aload_n 0, 1, .null)]
theorem e_X3_byNumber_8_k : e_X3_byNumber_8.all (fun q => xokB cX3_byNumber q && xokL q) = true := by decide +kernel
def e_X3_byNumber_9 : List xI := [(98, .bipush 60, 2, .int 60)]
theorem e_X3_byNumber_9_k : e_X3_byNumber_9.all (fun q => xokB cX3_byNumber q && xokL q) = true := by decide +kernel
def e_X3_byNumber_10 : List xI := [(103, .iconst 1, 1, .int 1)]
theorem e_X3_byNumber_10_k : e_X3_byNumber_10.all (fun q => xokB cX3_byNumber q && xokL q) = true := by decide +kernel
def e_X3_byNumber_11 : List xI := [(112, .aload_n 0, 1, .null)]
theorem e_X3_byNumber_11_k : e_X3_byNumber_11.all (fun q => xokB cX3_byNumber q && xokL q) = true := by decide +kernel
def e_X3_byNumber_12 : List xI := [(120, .aload_n 0, 1, .null)]
theorem e_X3_byNumber_12_k : e_X3_byNumber_12.all (fun q => xokB cX3_byNumber q && xokL q) = true := by decide +kernel
def e_X3_byNumber_13 : List xI := [(107, .iconst 0, 1, .int 0)]
theorem e_X3_byNumber_13_k : e_X3_byNumber_13.all (fun q => xokB cX3_byNumber q && xokL q) = true := by decide +kernel
abbrev P_X3_byNumber (r : Nat × St) (L : Nat → Nat → Int64) : Option Value → xG → Prop := fun v σ' => PoE r.1 r.2 L v σ' ∧ r.1 < 66 ∧ InvK INVC r.2
abbrev R_X3_byNumber : Room := { frames := 3, cells := 0, slots := 0, locals := 71 }
abbrev C_X3_byNumber (l : Launch) (r : Nat × St) (L : Nat → Nat → Int64) (V : XJ) : Prop := XC l yX3_byNumber.cls yX3_byNumber.name cX3_byNumber 1 R_X3_byNumber 0 0 fl_X3 kc_X3 LAY.length (xfin (some (.object "SupervisorMachine$Op")) LAY (P_X3_byNumber r L)) V
def f_X3_byNumber_108 (s0 : Int32) (s1 : Nat) (M : St) : Nat × St := (xb (f_X3_bits s1 s0 M) fun q43 => (q43.1, q43.2))
def f_X3_byNumber_107 (s0 : Nat) (M : St) : Nat × St := f_X3_byNumber_108 0 s0 M
def f_X3_byNumber (M : St) : Nat × St := (if (f_X3_upperRegister  M) = 0 then (xb (f_X3_withNumber 9 M) fun q5 => (q5.1, q5.2)) else (if (f_X3_upperRegister  M) = 1 then (xb (f_X3_withNumber 8 M) fun q9 => (q9.1, q9.2)) else (if (f_X3_upperRegister  M) = 2 then (xb (f_X3_withNumber 4 M) fun q13 => (q13.1, q13.2)) else (if (f_X3_upperRegister  M) = 3 then (xb (f_X3_withNumber 1 M) fun q17 => (q17.1, q17.2)) else (if (f_X3_upperRegister  M) = 4 then (if (f_X9_isData (f_X3_operand  M)) = 0 then f_X3_byNumber_107 23 M else (if (f_X3_operand  M) = 60 then f_X3_byNumber_107 23 M else f_X3_byNumber_108 1 23 M)) else (if (f_X3_upperRegister  M) = 5 then (xb (f_X3_withNumber 10 M) fun q36 => (q36.1, q36.2)) else (if (f_X3_upperRegister  M) = 6 then (xb (f_X3_withNumber 7 M) fun q40 => (q40.1, q40.2)) else (65, M))))))))
set_option maxRecDepth 20000 in
set_option maxHeartbeats 4000000 in
theorem b_X3_byNumber_108 {l : Launch} {L : Nat → Nat → Int64} {V : XJ} (r : Nat × St) (C : C_X3_byNumber l r L V) (s0 : Int32) (s1 : Nat) (M : St) (ws0 : xrg 0 1 s0) (bds1 : s1 < 66) (hI : InvK INVC M) (h : f_X3_byNumber_108 s0 s1 M = r) : V 0 0 108 [] [.int s0, .ref (1000 + s1), .ref 11] LAY (M, L) := by
  unfold f_X3_byNumber_108 at h
  refine x_callV C (k := 11) (ci := 2) (rest := []) (avs := [.ref (1000 + s1), .int s0]) (k_X3_bits l s1 s0 M L bds1 hI) yoX3_bits ml_X3_209 rfl rfl rfl rfl ⟨Nat.zero_le _, Nat.zero_le _⟩ (show decode cX3_byNumber 108 = .ok (.invokevirtual 209, 3) from by decide +kernel) rfl (fun v σ' hPo => ?_)
  obtain ⟨⟨rfl, rfl⟩, g44, hI45⟩ := hPo
  generalize hq43 : f_X3_bits s1 s0 M = q43 at h g44 hI45 ⊢
  obtain ⟨r43, M43⟩ := q43
  have h := xb_eq h
  try dsimp only at h g44 hI45
  show V 0 0 111 [] [.ref (1000 + r43)] LAY (M43, L)
  subst h
  exact x_aret C (show decode cX3_byNumber 111 = .ok (.areturn, 1) from by decide +kernel) (x_finE ⟨⟨rfl, rfl⟩, g44, hI45⟩) (Nat.le_refl 0) (Nat.le_refl 0)
set_option maxRecDepth 20000 in
set_option maxHeartbeats 4000000 in
theorem b_X3_byNumber_107 {l : Launch} {L : Nat → Nat → Int64} {V : XJ} (r : Nat × St) (C : C_X3_byNumber l r L V) (s0 : Nat) (M : St) (bds0 : s0 < 66) (hI : InvK INVC M) (h : f_X3_byNumber_107 s0 M = r) : V 0 0 107 [] [.ref (1000 + s0), .ref 11] LAY (M, L) := by
  unfold f_X3_byNumber_107 at h
  refine x_run C e_X3_byNumber_13 e_X3_byNumber_13_k (pc' := 108) (lv' := []) (st' := [.int 0, .ref (1000 + s0), .ref 11]) (σ' := (M, L)) rfl ⟨trivial, trivial⟩ ?_
  exact b_X3_byNumber_108 r C 0 s0 M (x_rgw (x_rgc (x := 0) (k := 0) (by decide)) (lo' := 0) (hi' := 1) (by decide) (by decide)) bds0 hI h
set_option maxRecDepth 20000 in
set_option maxHeartbeats 4000000 in
theorem k_X3_byNumber (l : Launch) (M : St) (L : Nat → Nat → Int64) (hI : InvK INVC M) : XM l yX3_byNumber cX3_byNumber 1 (some (.object "SupervisorMachine$Op")) R_X3_byNumber LAY [.ref 11] (M, L) (P_X3_byNumber (f_X3_byNumber M) L) := by
  refine XM.of (by decide) (Nat.le_of_ble_eq_true rfl) LAY_in cl_ok fl_X3_ok kc_X3_ok (fun V C => ?_)
  obtain ⟨r, h⟩ : ∃ r, f_X3_byNumber M = r := ⟨_, rfl⟩
  rw [h] at C
  change C_X3_byNumber l r L V at C
  unfold f_X3_byNumber at h
  show V 0 0 0 [(0, .ref 11)] [] LAY (M, L)
  refine x_run C e_X3_byNumber_1 e_X3_byNumber_1_k (pc' := 1) (lv' := [(0, .ref 11)]) (st' := [.ref 11]) (σ' := (M, L)) rfl ⟨trivial, trivial⟩ ?_
  refine x_callV C (k := 11) (ci := 2) (rest := []) (avs := []) (k_X3_upperRegister l  M L hI) yoX3_upperRegister ml_X3_141 rfl rfl rfl rfl ⟨Nat.zero_le _, Nat.zero_le _⟩ (show decode cX3_byNumber 1 = .ok (.invokevirtual 141, 3) from by decide +kernel) rfl (fun v σ' hPo => ?_)
  obtain ⟨⟨rfl, rfl⟩, g2, hI3⟩ := hPo
  show V 0 0 4 [(0, .ref 11)] [.int (f_X3_upperRegister  M)] LAY (M, L)
  by_cases c4 : (f_X3_upperRegister  M) = 0
  · rw [if_pos c4] at h
    refine x_tin C (show decode cX3_byNumber 4 = .ok (.tableswitch 124 0 6 #[44, 52, 60, 68, 76, 108, 116], 44) from by decide +kernel) 0 c4 (off := 44) (tgt := 48) (by decide) ?_
    refine x_run C e_X3_byNumber_2 e_X3_byNumber_2_k (pc' := 49) (lv' := [(0, .ref 11)]) (st' := [.ref 11]) (σ' := (M, L)) rfl ⟨trivial, trivial⟩ ?_
    refine x_getE C 9 (by decide) (x_in 845 (by decide +kernel) rfl) (show decode cX3_byNumber 49 = .ok (.getstatic 62, 3) from by decide +kernel) ?_
    refine x_callV C (k := 11) (ci := 2) (rest := []) (avs := [.ref (1000 + 9)]) (k_X3_withNumber l 9 M L (show 9 < 66 by decide) hI) yoX3_withNumber ml_X3_213 rfl rfl rfl rfl ⟨Nat.zero_le _, Nat.zero_le _⟩ (show decode cX3_byNumber 52 = .ok (.invokevirtual 213, 3) from by decide +kernel) rfl (fun v σ' hPo => ?_)
    obtain ⟨⟨rfl, rfl⟩, g6, hI7⟩ := hPo
    generalize hq5 : f_X3_withNumber 9 M = q5 at h g6 hI7 ⊢
    obtain ⟨r5, M5⟩ := q5
    have h := xb_eq h
    try dsimp only at h g6 hI7
    show V 0 0 55 [(0, .ref 11)] [.ref (1000 + r5)] LAY (M5, L)
    subst h
    exact x_aret C (show decode cX3_byNumber 55 = .ok (.areturn, 1) from by decide +kernel) (x_finE ⟨⟨rfl, rfl⟩, g6, hI7⟩) (Nat.le_refl 0) (Nat.le_refl 0)
  rw [if_neg c4] at h
  by_cases c8 : (f_X3_upperRegister  M) = 1
  · rw [if_pos c8] at h
    refine x_tin C (show decode cX3_byNumber 4 = .ok (.tableswitch 124 0 6 #[44, 52, 60, 68, 76, 108, 116], 44) from by decide +kernel) 1 c8 (off := 52) (tgt := 56) (by decide) ?_
    refine x_run C e_X3_byNumber_3 e_X3_byNumber_3_k (pc' := 57) (lv' := [(0, .ref 11)]) (st' := [.ref 11]) (σ' := (M, L)) rfl ⟨trivial, trivial⟩ ?_
    refine x_getE C 8 (by decide) (x_in 829 (by decide +kernel) rfl) (show decode cX3_byNumber 57 = .ok (.getstatic 50, 3) from by decide +kernel) ?_
    refine x_callV C (k := 11) (ci := 2) (rest := []) (avs := [.ref (1000 + 8)]) (k_X3_withNumber l 8 M L (show 8 < 66 by decide) hI) yoX3_withNumber ml_X3_213 rfl rfl rfl rfl ⟨Nat.zero_le _, Nat.zero_le _⟩ (show decode cX3_byNumber 60 = .ok (.invokevirtual 213, 3) from by decide +kernel) rfl (fun v σ' hPo => ?_)
    obtain ⟨⟨rfl, rfl⟩, g10, hI11⟩ := hPo
    generalize hq9 : f_X3_withNumber 8 M = q9 at h g10 hI11 ⊢
    obtain ⟨r9, M9⟩ := q9
    have h := xb_eq h
    try dsimp only at h g10 hI11
    show V 0 0 63 [(0, .ref 11)] [.ref (1000 + r9)] LAY (M9, L)
    subst h
    exact x_aret C (show decode cX3_byNumber 63 = .ok (.areturn, 1) from by decide +kernel) (x_finE ⟨⟨rfl, rfl⟩, g10, hI11⟩) (Nat.le_refl 0) (Nat.le_refl 0)
  rw [if_neg c8] at h
  by_cases c12 : (f_X3_upperRegister  M) = 2
  · rw [if_pos c12] at h
    refine x_tin C (show decode cX3_byNumber 4 = .ok (.tableswitch 124 0 6 #[44, 52, 60, 68, 76, 108, 116], 44) from by decide +kernel) 2 c12 (off := 60) (tgt := 64) (by decide) ?_
    refine x_run C e_X3_byNumber_4 e_X3_byNumber_4_k (pc' := 65) (lv' := [(0, .ref 11)]) (st' := [.ref 11]) (σ' := (M, L)) rfl ⟨trivial, trivial⟩ ?_
    refine x_getE C 4 (by decide) (x_in 810 (by decide +kernel) rfl) (show decode cX3_byNumber 65 = .ok (.getstatic 38, 3) from by decide +kernel) ?_
    refine x_callV C (k := 11) (ci := 2) (rest := []) (avs := [.ref (1000 + 4)]) (k_X3_withNumber l 4 M L (show 4 < 66 by decide) hI) yoX3_withNumber ml_X3_213 rfl rfl rfl rfl ⟨Nat.zero_le _, Nat.zero_le _⟩ (show decode cX3_byNumber 68 = .ok (.invokevirtual 213, 3) from by decide +kernel) rfl (fun v σ' hPo => ?_)
    obtain ⟨⟨rfl, rfl⟩, g14, hI15⟩ := hPo
    generalize hq13 : f_X3_withNumber 4 M = q13 at h g14 hI15 ⊢
    obtain ⟨r13, M13⟩ := q13
    have h := xb_eq h
    try dsimp only at h g14 hI15
    show V 0 0 71 [(0, .ref 11)] [.ref (1000 + r13)] LAY (M13, L)
    subst h
    exact x_aret C (show decode cX3_byNumber 71 = .ok (.areturn, 1) from by decide +kernel) (x_finE ⟨⟨rfl, rfl⟩, g14, hI15⟩) (Nat.le_refl 0) (Nat.le_refl 0)
  rw [if_neg c12] at h
  by_cases c16 : (f_X3_upperRegister  M) = 3
  · rw [if_pos c16] at h
    refine x_tin C (show decode cX3_byNumber 4 = .ok (.tableswitch 124 0 6 #[44, 52, 60, 68, 76, 108, 116], 44) from by decide +kernel) 3 c16 (off := 68) (tgt := 72) (by decide) ?_
    refine x_run C e_X3_byNumber_5 e_X3_byNumber_5_k (pc' := 73) (lv' := [(0, .ref 11)]) (st' := [.ref 11]) (σ' := (M, L)) rfl ⟨trivial, trivial⟩ ?_
    refine x_getE C 1 (by decide) (x_in 778 (by decide +kernel) rfl) (show decode cX3_byNumber 73 = .ok (.getstatic 22, 3) from by decide +kernel) ?_
    refine x_callV C (k := 11) (ci := 2) (rest := []) (avs := [.ref (1000 + 1)]) (k_X3_withNumber l 1 M L (show 1 < 66 by decide) hI) yoX3_withNumber ml_X3_213 rfl rfl rfl rfl ⟨Nat.zero_le _, Nat.zero_le _⟩ (show decode cX3_byNumber 76 = .ok (.invokevirtual 213, 3) from by decide +kernel) rfl (fun v σ' hPo => ?_)
    obtain ⟨⟨rfl, rfl⟩, g18, hI19⟩ := hPo
    generalize hq17 : f_X3_withNumber 1 M = q17 at h g18 hI19 ⊢
    obtain ⟨r17, M17⟩ := q17
    have h := xb_eq h
    try dsimp only at h g18 hI19
    show V 0 0 79 [(0, .ref 11)] [.ref (1000 + r17)] LAY (M17, L)
    subst h
    exact x_aret C (show decode cX3_byNumber 79 = .ok (.areturn, 1) from by decide +kernel) (x_finE ⟨⟨rfl, rfl⟩, g18, hI19⟩) (Nat.le_refl 0) (Nat.le_refl 0)
  rw [if_neg c16] at h
  by_cases c20 : (f_X3_upperRegister  M) = 4
  · rw [if_pos c20] at h
    refine x_tin C (show decode cX3_byNumber 4 = .ok (.tableswitch 124 0 6 #[44, 52, 60, 68, 76, 108, 116], 44) from by decide +kernel) 4 c20 (off := 76) (tgt := 80) (by decide) ?_
    refine x_run C e_X3_byNumber_6 e_X3_byNumber_6_k (pc' := 81) (lv' := [(0, .ref 11)]) (st' := [.ref 11]) (σ' := (M, L)) rfl ⟨trivial, trivial⟩ ?_
    refine x_getE C 23 (by decide) (x_in 891 (by decide +kernel) rfl) (show decode cX3_byNumber 81 = .ok (.getstatic 216, 3) from by decide +kernel) ?_
    refine x_run C e_X3_byNumber_7 e_X3_byNumber_7_k (pc' := 85) (lv' := [(0, .ref 11)]) (st' := [.ref 11, .ref (1000 + 23), .ref 11]) (σ' := (M, L)) rfl ⟨trivial, trivial⟩ ?_
    refine x_callV C (k := 11) (ci := 2) (rest := [.ref (1000 + 23), .ref 11]) (avs := []) (k_X3_operand l  M L hI) yoX3_operand ml_X3_111 rfl rfl rfl rfl ⟨Nat.zero_le _, Nat.zero_le _⟩ (show decode cX3_byNumber 85 = .ok (.invokevirtual 111, 3) from by decide +kernel) rfl (fun v σ' hPo => ?_)
    obtain ⟨⟨rfl, rfl⟩, g22, hI23⟩ := hPo
    show V 0 0 88 [(0, .ref 11)] [.int (f_X3_operand  M), .ref (1000 + 23), .ref 11] LAY (M, L)
    refine x_callS C (rest := [.ref (1000 + 23), .ref 11]) (avs := [.int (f_X3_operand  M)]) (k_X9_isData l (f_X3_operand  M) M L) yoX9_isData ml_X3_178 rfl ⟨Nat.zero_le _, Nat.zero_le _⟩ (show decode cX3_byNumber 88 = .ok (.invokestatic 178, 3) from by decide +kernel) rfl (fun v σ' hPo => ?_)
    obtain ⟨⟨rfl, rfl⟩, g25, -⟩ := hPo
    show V 0 0 91 [(0, .ref 11)] [.int (f_X9_isData (f_X3_operand  M)), .ref (1000 + 23), .ref 11] LAY (M, L)
    refine x_if_eq C (show decode cX3_byNumber 91 = .ok (.ifCond .eq 16, 3) from by decide +kernel) (tgt := 107) (by decide) (fun c27 => ?_) (fun c27 => ?_)
    · rw [if_pos c27] at h
      have g28 : xrg 0 0 (f_X9_isData (f_X3_operand  M)) := (x_c_eq g25 (x_rgc (x := 0) (k := 0) (by decide)) c27).1
      refine x_lv C [] rfl ?_
      exact b_X3_byNumber_107 r C 23 M (show 23 < 66 by decide) hI h
    · rw [if_neg c27] at h
      have g29 : xrg 1 1 (f_X9_isData (f_X3_operand  M)) := (x_c_ne g25 (by decide) c27)
      refine x_run C e_X3_byNumber_8 e_X3_byNumber_8_k (pc' := 95) (lv' := [(0, .ref 11)]) (st' := [.ref 11, .ref (1000 + 23), .ref 11]) (σ' := (M, L)) rfl ⟨trivial, trivial⟩ ?_
      refine x_callV C (k := 11) (ci := 2) (rest := [.ref (1000 + 23), .ref 11]) (avs := []) (k_X3_operand l  M L hI) yoX3_operand ml_X3_111 rfl rfl rfl rfl ⟨Nat.zero_le _, Nat.zero_le _⟩ (show decode cX3_byNumber 95 = .ok (.invokevirtual 111, 3) from by decide +kernel) rfl (fun v σ' hPo => ?_)
      obtain ⟨⟨rfl, rfl⟩, g31, hI32⟩ := hPo
      show V 0 0 98 [(0, .ref 11)] [.int (f_X3_operand  M), .ref (1000 + 23), .ref 11] LAY (M, L)
      refine x_run C e_X3_byNumber_9 e_X3_byNumber_9_k (pc' := 100) (lv' := [(0, .ref 11)]) (st' := [.int 60, .int (f_X3_operand  M), .ref (1000 + 23), .ref 11]) (σ' := (M, L)) rfl ⟨trivial, trivial⟩ ?_
      refine x_icmp_eq C (show decode cX3_byNumber 100 = .ok (.if_icmp .eq 7, 3) from by decide +kernel) (tgt := 107) (by decide) (fun c33 => ?_) (fun c33 => ?_)
      · rw [if_pos c33] at h
        have g34 : xrg 60 60 (f_X3_operand  M) := (x_c_eq g31 (x_rgc (x := 60) (k := 60) (by decide)) c33).1
        refine x_lv C [] rfl ?_
        exact b_X3_byNumber_107 r C 23 M (show 23 < 66 by decide) hI h
      · rw [if_neg c33] at h
        refine x_run C e_X3_byNumber_10 e_X3_byNumber_10_k (pc' := 104) (lv' := [(0, .ref 11)]) (st' := [.int 1, .ref (1000 + 23), .ref 11]) (σ' := (M, L)) rfl ⟨trivial, trivial⟩ ?_
        refine x_goto C (show decode cX3_byNumber 104 = .ok (.goto 4, 3) from by decide +kernel) (tgt := 108) (by decide) ?_
        refine x_lv C [] rfl ?_
        exact b_X3_byNumber_108 r C 1 23 M (x_rgw (x_rgc (x := 1) (k := 1) (by decide)) (lo' := 0) (hi' := 1) (by decide) (by decide)) (show 23 < 66 by decide) hI h
  rw [if_neg c20] at h
  by_cases c35 : (f_X3_upperRegister  M) = 5
  · rw [if_pos c35] at h
    refine x_tin C (show decode cX3_byNumber 4 = .ok (.tableswitch 124 0 6 #[44, 52, 60, 68, 76, 108, 116], 44) from by decide +kernel) 5 c35 (off := 108) (tgt := 112) (by decide) ?_
    refine x_run C e_X3_byNumber_11 e_X3_byNumber_11_k (pc' := 113) (lv' := [(0, .ref 11)]) (st' := [.ref 11]) (σ' := (M, L)) rfl ⟨trivial, trivial⟩ ?_
    refine x_getE C 10 (by decide) (x_in 827 (by decide +kernel) rfl) (show decode cX3_byNumber 113 = .ok (.getstatic 172, 3) from by decide +kernel) ?_
    refine x_callV C (k := 11) (ci := 2) (rest := []) (avs := [.ref (1000 + 10)]) (k_X3_withNumber l 10 M L (show 10 < 66 by decide) hI) yoX3_withNumber ml_X3_213 rfl rfl rfl rfl ⟨Nat.zero_le _, Nat.zero_le _⟩ (show decode cX3_byNumber 116 = .ok (.invokevirtual 213, 3) from by decide +kernel) rfl (fun v σ' hPo => ?_)
    obtain ⟨⟨rfl, rfl⟩, g37, hI38⟩ := hPo
    generalize hq36 : f_X3_withNumber 10 M = q36 at h g37 hI38 ⊢
    obtain ⟨r36, M36⟩ := q36
    have h := xb_eq h
    try dsimp only at h g37 hI38
    show V 0 0 119 [(0, .ref 11)] [.ref (1000 + r36)] LAY (M36, L)
    subst h
    exact x_aret C (show decode cX3_byNumber 119 = .ok (.areturn, 1) from by decide +kernel) (x_finE ⟨⟨rfl, rfl⟩, g37, hI38⟩) (Nat.le_refl 0) (Nat.le_refl 0)
  rw [if_neg c35] at h
  by_cases c39 : (f_X3_upperRegister  M) = 6
  · rw [if_pos c39] at h
    refine x_tin C (show decode cX3_byNumber 4 = .ok (.tableswitch 124 0 6 #[44, 52, 60, 68, 76, 108, 116], 44) from by decide +kernel) 6 c39 (off := 116) (tgt := 120) (by decide) ?_
    refine x_run C e_X3_byNumber_12 e_X3_byNumber_12_k (pc' := 121) (lv' := [(0, .ref 11)]) (st' := [.ref 11]) (σ' := (M, L)) rfl ⟨trivial, trivial⟩ ?_
    refine x_getE C 7 (by decide) (x_in 822 (by decide +kernel) rfl) (show decode cX3_byNumber 121 = .ok (.getstatic 166, 3) from by decide +kernel) ?_
    refine x_callV C (k := 11) (ci := 2) (rest := []) (avs := [.ref (1000 + 7)]) (k_X3_withNumber l 7 M L (show 7 < 66 by decide) hI) yoX3_withNumber ml_X3_213 rfl rfl rfl rfl ⟨Nat.zero_le _, Nat.zero_le _⟩ (show decode cX3_byNumber 124 = .ok (.invokevirtual 213, 3) from by decide +kernel) rfl (fun v σ' hPo => ?_)
    obtain ⟨⟨rfl, rfl⟩, g41, hI42⟩ := hPo
    generalize hq40 : f_X3_withNumber 7 M = q40 at h g41 hI42 ⊢
    obtain ⟨r40, M40⟩ := q40
    have h := xb_eq h
    try dsimp only at h g41 hI42
    show V 0 0 127 [(0, .ref 11)] [.ref (1000 + r40)] LAY (M40, L)
    subst h
    exact x_aret C (show decode cX3_byNumber 127 = .ok (.areturn, 1) from by decide +kernel) (x_finE ⟨⟨rfl, rfl⟩, g41, hI42⟩) (Nat.le_refl 0) (Nat.le_refl 0)
  rw [if_neg c39] at h
  have hz : (f_X3_upperRegister  M).toInt < 0 ∨ 6 < (f_X3_upperRegister  M).toInt := by
    have zc4 := lv_neT (a := 0) c4 (by decide)
    have zc8 := lv_neT (a := 1) c8 (by decide)
    have zc12 := lv_neT (a := 2) c12 (by decide)
    have zc16 := lv_neT (a := 3) c16 (by decide)
    have zc20 := lv_neT (a := 4) c20 (by decide)
    have zc35 := lv_neT (a := 5) c35 (by decide)
    have zc39 := lv_neT (a := 6) c39 (by decide)
    omega
  refine x_tout C (show decode cX3_byNumber 4 = .ok (.tableswitch 124 0 6 #[44, 52, 60, 68, 76, 108, 116], 44) from by decide +kernel) hz (tgt := 128) (by decide) ?_
  refine x_getE C 65 (by decide) (x_in 678 (by decide +kernel) rfl) (show decode cX3_byNumber 128 = .ok (.getstatic 108, 3) from by decide +kernel) ?_
  subst h
  exact x_aret C (show decode cX3_byNumber 131 = .ok (.areturn, 1) from by decide +kernel) (x_finE ⟨⟨rfl, rfl⟩, (show 65 < 66 by decide), hI⟩) (Nat.le_refl 0) (Nat.le_refl 0)
-- X3_shifting
def e_X3_shifting_1 : List xI := [(0, .aload_n 0, 1, .null)]
theorem e_X3_shifting_1_k : e_X3_shifting_1.all (fun q => xokB cX3_shifting q && xokL q) = true := by decide +kernel
def e_X3_shifting_2 : List xI := [(4, .iconst 3, 1, .int 3)]
theorem e_X3_shifting_2_k : e_X3_shifting_2.all (fun q => xokB cX3_shifting q && xokL q) = true := by decide +kernel
def e_X3_shifting_3 : List xI := [(29, .aload_n 0, 1, .null)]
theorem e_X3_shifting_3_k : e_X3_shifting_3.all (fun q => xokB cX3_shifting q && xokL q) = true := by decide +kernel
def e_X3_shifting_4 : List xI := [(33, .iconst 1, 1, .int 1), (34, .aload_n 0, 1, .null)]
theorem e_X3_shifting_4_k : e_X3_shifting_4.all (fun q => xokB cX3_shifting q && xokL q) = true := by decide +kernel
def e_X3_shifting_5 : List xI := [(38, .iconst 4, 1, .int 4)]
theorem e_X3_shifting_5_k : e_X3_shifting_5.all (fun q => xokB cX3_shifting q && xokL q) = true := by decide +kernel
def e_X3_shifting_6 : List xI := [(42, .aload_n 0, 1, .null)]
theorem e_X3_shifting_6_k : e_X3_shifting_6.all (fun q => xokB cX3_shifting q && xokL q) = true := by decide +kernel
def e_X3_shifting_7 : List xI := [(52, .iconst 1, 1, .int 1)]
theorem e_X3_shifting_7_k : e_X3_shifting_7.all (fun q => xokB cX3_shifting q && xokL q) = true := by decide +kernel
def e_X3_shifting_8 : List xI := [(8, .aload_n 0, 1, .null)]
theorem e_X3_shifting_8_k : e_X3_shifting_8.all (fun q => xokB cX3_shifting q && xokL q) = true := by decide +kernel
def e_X3_shifting_9 : List xI := [(12, .aload_n 0, 1, .null)]
theorem e_X3_shifting_9_k : e_X3_shifting_9.all (fun q => xokB cX3_shifting q && xokL q) = true := by decide +kernel
def e_X3_shifting_10 : List xI := [(16, .aload_n 0, 1, .null)]
theorem e_X3_shifting_10_k : e_X3_shifting_10.all (fun q => xokB cX3_shifting q && xokL q) = true := by decide +kernel
def e_X3_shifting_11 : List xI := [(20, .aload_n 0, 1, .null)]
theorem e_X3_shifting_11_k : e_X3_shifting_11.all (fun q => xokB cX3_shifting q && xokL q) = true := by decide +kernel
def e_X3_shifting_12 : List xI := [(24, .iconst 1, 1, .int 1)]
theorem e_X3_shifting_12_k : e_X3_shifting_12.all (fun q => xokB cX3_shifting q && xokL q) = true := by decide +kernel
def e_X3_shifting_13 : List xI := [(56, .iconst 0, 1, .int 0)]
theorem e_X3_shifting_13_k : e_X3_shifting_13.all (fun q => xokB cX3_shifting q && xokL q) = true := by decide +kernel
abbrev P_X3_shifting (r : Nat × St) (L : Nat → Nat → Int64) : Option Value → xG → Prop := fun v σ' => PoE r.1 r.2 L v σ' ∧ r.1 < 66 ∧ InvK INVC r.2
abbrev R_X3_shifting : Room := { frames := 2, cells := 0, slots := 0, locals := 48 }
abbrev C_X3_shifting (l : Launch) (r : Nat × St) (L : Nat → Nat → Int64) (V : XJ) : Prop := XC l yX3_shifting.cls yX3_shifting.name cX3_shifting 1 R_X3_shifting 0 0 fl_X3 kc_X3 LAY.length (xfin (some (.object "SupervisorMachine$Op")) LAY (P_X3_shifting r L)) V
def f_X3_shifting_57 (s0 : Int32) (s1 : Int32) (s2 : Nat) (M : St) : Nat × St := (xb (f_X3_single s2 s1 s0 M) fun q34 => (q34.1, q34.2))
def f_X3_shifting_56 (s0 : Int32) (s1 : Nat) (M : St) : Nat × St := f_X3_shifting_57 0 s0 s1 M
def f_X3_shifting (M : St) : Nat × St := (if 3 ≤ (f_X3_z  M) then (if 4 ≤ (f_X3_upperRegister  M) then f_X3_shifting_56 1 28 M else (if (f_X9_isOpenMemory (f_X3_operand  M)) = 0 then f_X3_shifting_56 1 28 M else f_X3_shifting_57 1 1 28 M)) else (xb (f_X3_pair 27 (f_X3_upperRegister  M) (f_X3_lowerRegister  M) (f_X3_z  M) 1 M) fun q31 => (q31.1, q31.2)))
set_option maxRecDepth 20000 in
set_option maxHeartbeats 4000000 in
theorem b_X3_shifting_57 {l : Launch} {L : Nat → Nat → Int64} {V : XJ} (r : Nat × St) (C : C_X3_shifting l r L V) (s0 : Int32) (s1 : Int32) (s2 : Nat) (M : St) (ws0 : xrg 0 1 s0) (ws1 : xrg 1 1 s1) (bds2 : s2 < 66) (hI : InvK INVC M) (h : f_X3_shifting_57 s0 s1 s2 M = r) : V 0 0 57 [] [.int s0, .int s1, .ref (1000 + s2), .ref 11] LAY (M, L) := by
  unfold f_X3_shifting_57 at h
  refine x_callV C (k := 11) (ci := 2) (rest := []) (avs := [.ref (1000 + s2), .int s1, .int s0]) (k_X3_single l s2 s1 s0 M L bds2 hI) yoX3_single ml_X3_193 rfl rfl rfl rfl ⟨Nat.zero_le _, Nat.zero_le _⟩ (show decode cX3_shifting 57 = .ok (.invokevirtual 193, 3) from by decide +kernel) rfl (fun v σ' hPo => ?_)
  obtain ⟨⟨rfl, rfl⟩, g35, hI36⟩ := hPo
  generalize hq34 : f_X3_single s2 s1 s0 M = q34 at h g35 hI36 ⊢
  obtain ⟨r34, M34⟩ := q34
  have h := xb_eq h
  try dsimp only at h g35 hI36
  show V 0 0 60 [] [.ref (1000 + r34)] LAY (M34, L)
  subst h
  exact x_aret C (show decode cX3_shifting 60 = .ok (.areturn, 1) from by decide +kernel) (x_finE ⟨⟨rfl, rfl⟩, g35, hI36⟩) (Nat.le_refl 0) (Nat.le_refl 0)
set_option maxRecDepth 20000 in
set_option maxHeartbeats 4000000 in
theorem b_X3_shifting_56 {l : Launch} {L : Nat → Nat → Int64} {V : XJ} (r : Nat × St) (C : C_X3_shifting l r L V) (s0 : Int32) (s1 : Nat) (M : St) (ws0 : xrg 1 1 s0) (bds1 : s1 < 66) (hI : InvK INVC M) (h : f_X3_shifting_56 s0 s1 M = r) : V 0 0 56 [] [.int s0, .ref (1000 + s1), .ref 11] LAY (M, L) := by
  unfold f_X3_shifting_56 at h
  refine x_run C e_X3_shifting_13 e_X3_shifting_13_k (pc' := 57) (lv' := []) (st' := [.int 0, .int s0, .ref (1000 + s1), .ref 11]) (σ' := (M, L)) rfl ⟨trivial, trivial⟩ ?_
  exact b_X3_shifting_57 r C 0 s0 s1 M (x_rgw (x_rgc (x := 0) (k := 0) (by decide)) (lo' := 0) (hi' := 1) (by decide) (by decide)) ws0 bds1 hI h
set_option maxRecDepth 20000 in
set_option maxHeartbeats 4000000 in
theorem k_X3_shifting (l : Launch) (M : St) (L : Nat → Nat → Int64) (hI : InvK INVC M) : XM l yX3_shifting cX3_shifting 1 (some (.object "SupervisorMachine$Op")) R_X3_shifting LAY [.ref 11] (M, L) (P_X3_shifting (f_X3_shifting M) L) := by
  refine XM.of (by decide) (Nat.le_of_ble_eq_true rfl) LAY_in cl_ok fl_X3_ok kc_X3_ok (fun V C => ?_)
  obtain ⟨r, h⟩ : ∃ r, f_X3_shifting M = r := ⟨_, rfl⟩
  rw [h] at C
  change C_X3_shifting l r L V at C
  unfold f_X3_shifting at h
  show V 0 0 0 [(0, .ref 11)] [] LAY (M, L)
  refine x_run C e_X3_shifting_1 e_X3_shifting_1_k (pc' := 1) (lv' := [(0, .ref 11)]) (st' := [.ref 11]) (σ' := (M, L)) rfl ⟨trivial, trivial⟩ ?_
  refine x_callV C (k := 11) (ci := 2) (rest := []) (avs := []) (k_X3_z l  M L hI) yoX3_z ml_X3_144 rfl rfl rfl rfl ⟨Nat.zero_le _, Nat.zero_le _⟩ (show decode cX3_shifting 1 = .ok (.invokevirtual 144, 3) from by decide +kernel) rfl (fun v σ' hPo => ?_)
  obtain ⟨⟨rfl, rfl⟩, g2, hI3⟩ := hPo
  show V 0 0 4 [(0, .ref 11)] [.int (f_X3_z  M)] LAY (M, L)
  refine x_run C e_X3_shifting_2 e_X3_shifting_2_k (pc' := 5) (lv' := [(0, .ref 11)]) (st' := [.int 3, .int (f_X3_z  M)]) (σ' := (M, L)) rfl ⟨trivial, trivial⟩ ?_
  refine x_icmp_ge C (show decode cX3_shifting 5 = .ok (.if_icmp .ge 24, 3) from by decide +kernel) (tgt := 29) (by decide) (fun c4 => ?_) (fun c4 => ?_)
  · rw [if_pos c4] at h
    have g5 : xrg 3 3 (f_X3_z  M) := (x_c_le (x_rgc (x := 3) (k := 3) (by decide)) g2 c4).2
    refine x_run C e_X3_shifting_3 e_X3_shifting_3_k (pc' := 30) (lv' := [(0, .ref 11)]) (st' := [.ref 11]) (σ' := (M, L)) rfl ⟨trivial, trivial⟩ ?_
    refine x_getE C 28 (by decide) (x_in 899 (by decide +kernel) rfl) (show decode cX3_shifting 30 = .ok (.getstatic 228, 3) from by decide +kernel) ?_
    refine x_run C e_X3_shifting_4 e_X3_shifting_4_k (pc' := 35) (lv' := [(0, .ref 11)]) (st' := [.ref 11, .int 1, .ref (1000 + 28), .ref 11]) (σ' := (M, L)) rfl ⟨trivial, trivial, trivial⟩ ?_
    refine x_callV C (k := 11) (ci := 2) (rest := [.int 1, .ref (1000 + 28), .ref 11]) (avs := []) (k_X3_upperRegister l  M L hI) yoX3_upperRegister ml_X3_141 rfl rfl rfl rfl ⟨Nat.zero_le _, Nat.zero_le _⟩ (show decode cX3_shifting 35 = .ok (.invokevirtual 141, 3) from by decide +kernel) rfl (fun v σ' hPo => ?_)
    obtain ⟨⟨rfl, rfl⟩, g7, hI8⟩ := hPo
    show V 0 0 38 [(0, .ref 11)] [.int (f_X3_upperRegister  M), .int 1, .ref (1000 + 28), .ref 11] LAY (M, L)
    refine x_run C e_X3_shifting_5 e_X3_shifting_5_k (pc' := 39) (lv' := [(0, .ref 11)]) (st' := [.int 4, .int (f_X3_upperRegister  M), .int 1, .ref (1000 + 28), .ref 11]) (σ' := (M, L)) rfl ⟨trivial, trivial⟩ ?_
    refine x_icmp_ge C (show decode cX3_shifting 39 = .ok (.if_icmp .ge 17, 3) from by decide +kernel) (tgt := 56) (by decide) (fun c9 => ?_) (fun c9 => ?_)
    · rw [if_pos c9] at h
      have g10 : xrg 4 7 (f_X3_upperRegister  M) := (x_c_le (x_rgc (x := 4) (k := 4) (by decide)) g7 c9).2
      refine x_lv C [] rfl ?_
      exact b_X3_shifting_56 r C 1 28 M (x_rgc (x := 1) (k := 1) (by decide)) (show 28 < 66 by decide) hI h
    · rw [if_neg c9] at h
      have g11 : xrg 0 3 (f_X3_upperRegister  M) := (x_c_nle (x_rgc (x := 4) (k := 4) (by decide)) g7 c9).2
      refine x_run C e_X3_shifting_6 e_X3_shifting_6_k (pc' := 43) (lv' := [(0, .ref 11)]) (st' := [.ref 11, .int 1, .ref (1000 + 28), .ref 11]) (σ' := (M, L)) rfl ⟨trivial, trivial⟩ ?_
      refine x_callV C (k := 11) (ci := 2) (rest := [.int 1, .ref (1000 + 28), .ref 11]) (avs := []) (k_X3_operand l  M L hI) yoX3_operand ml_X3_111 rfl rfl rfl rfl ⟨Nat.zero_le _, Nat.zero_le _⟩ (show decode cX3_shifting 43 = .ok (.invokevirtual 111, 3) from by decide +kernel) rfl (fun v σ' hPo => ?_)
      obtain ⟨⟨rfl, rfl⟩, g13, hI14⟩ := hPo
      show V 0 0 46 [(0, .ref 11)] [.int (f_X3_operand  M), .int 1, .ref (1000 + 28), .ref 11] LAY (M, L)
      refine x_callS C (rest := [.int 1, .ref (1000 + 28), .ref 11]) (avs := [.int (f_X3_operand  M)]) (k_X9_isOpenMemory l (f_X3_operand  M) M L) yoX9_isOpenMemory ml_X3_160 rfl ⟨Nat.zero_le _, Nat.zero_le _⟩ (show decode cX3_shifting 46 = .ok (.invokestatic 160, 3) from by decide +kernel) rfl (fun v σ' hPo => ?_)
      obtain ⟨⟨rfl, rfl⟩, g16, -⟩ := hPo
      show V 0 0 49 [(0, .ref 11)] [.int (f_X9_isOpenMemory (f_X3_operand  M)), .int 1, .ref (1000 + 28), .ref 11] LAY (M, L)
      refine x_if_eq C (show decode cX3_shifting 49 = .ok (.ifCond .eq 7, 3) from by decide +kernel) (tgt := 56) (by decide) (fun c18 => ?_) (fun c18 => ?_)
      · rw [if_pos c18] at h
        have g19 : xrg 0 0 (f_X9_isOpenMemory (f_X3_operand  M)) := (x_c_eq g16 (x_rgc (x := 0) (k := 0) (by decide)) c18).1
        refine x_lv C [] rfl ?_
        exact b_X3_shifting_56 r C 1 28 M (x_rgc (x := 1) (k := 1) (by decide)) (show 28 < 66 by decide) hI h
      · rw [if_neg c18] at h
        have g20 : xrg 1 1 (f_X9_isOpenMemory (f_X3_operand  M)) := (x_c_ne g16 (by decide) c18)
        refine x_run C e_X3_shifting_7 e_X3_shifting_7_k (pc' := 53) (lv' := [(0, .ref 11)]) (st' := [.int 1, .int 1, .ref (1000 + 28), .ref 11]) (σ' := (M, L)) rfl ⟨trivial, trivial⟩ ?_
        refine x_goto C (show decode cX3_shifting 53 = .ok (.goto 4, 3) from by decide +kernel) (tgt := 57) (by decide) ?_
        refine x_lv C [] rfl ?_
        exact b_X3_shifting_57 r C 1 1 28 M (x_rgw (x_rgc (x := 1) (k := 1) (by decide)) (lo' := 0) (hi' := 1) (by decide) (by decide)) (x_rgc (x := 1) (k := 1) (by decide)) (show 28 < 66 by decide) hI h
  · rw [if_neg c4] at h
    have g21 : xrg 0 2 (f_X3_z  M) := (x_c_nle (x_rgc (x := 3) (k := 3) (by decide)) g2 c4).2
    refine x_run C e_X3_shifting_8 e_X3_shifting_8_k (pc' := 9) (lv' := [(0, .ref 11)]) (st' := [.ref 11]) (σ' := (M, L)) rfl ⟨trivial, trivial⟩ ?_
    refine x_getE C 27 (by decide) (x_in 897 (by decide +kernel) rfl) (show decode cX3_shifting 9 = .ok (.getstatic 225, 3) from by decide +kernel) ?_
    refine x_run C e_X3_shifting_9 e_X3_shifting_9_k (pc' := 13) (lv' := [(0, .ref 11)]) (st' := [.ref 11, .ref (1000 + 27), .ref 11]) (σ' := (M, L)) rfl ⟨trivial, trivial⟩ ?_
    refine x_callV C (k := 11) (ci := 2) (rest := [.ref (1000 + 27), .ref 11]) (avs := []) (k_X3_upperRegister l  M L hI) yoX3_upperRegister ml_X3_141 rfl rfl rfl rfl ⟨Nat.zero_le _, Nat.zero_le _⟩ (show decode cX3_shifting 13 = .ok (.invokevirtual 141, 3) from by decide +kernel) rfl (fun v σ' hPo => ?_)
    obtain ⟨⟨rfl, rfl⟩, g23, hI24⟩ := hPo
    show V 0 0 16 [(0, .ref 11)] [.int (f_X3_upperRegister  M), .ref (1000 + 27), .ref 11] LAY (M, L)
    refine x_run C e_X3_shifting_10 e_X3_shifting_10_k (pc' := 17) (lv' := [(0, .ref 11)]) (st' := [.ref 11, .int (f_X3_upperRegister  M), .ref (1000 + 27), .ref 11]) (σ' := (M, L)) rfl ⟨trivial, trivial⟩ ?_
    refine x_callV C (k := 11) (ci := 2) (rest := [.int (f_X3_upperRegister  M), .ref (1000 + 27), .ref 11]) (avs := []) (k_X3_lowerRegister l  M L hI) yoX3_lowerRegister ml_X3_154 rfl rfl rfl rfl ⟨Nat.zero_le _, Nat.zero_le _⟩ (show decode cX3_shifting 17 = .ok (.invokevirtual 154, 3) from by decide +kernel) rfl (fun v σ' hPo => ?_)
    obtain ⟨⟨rfl, rfl⟩, g26, hI27⟩ := hPo
    show V 0 0 20 [(0, .ref 11)] [.int (f_X3_lowerRegister  M), .int (f_X3_upperRegister  M), .ref (1000 + 27), .ref 11] LAY (M, L)
    refine x_run C e_X3_shifting_11 e_X3_shifting_11_k (pc' := 21) (lv' := [(0, .ref 11)]) (st' := [.ref 11, .int (f_X3_lowerRegister  M), .int (f_X3_upperRegister  M), .ref (1000 + 27), .ref 11]) (σ' := (M, L)) rfl ⟨trivial, trivial⟩ ?_
    refine x_callV C (k := 11) (ci := 2) (rest := [.int (f_X3_lowerRegister  M), .int (f_X3_upperRegister  M), .ref (1000 + 27), .ref 11]) (avs := []) (k_X3_z l  M L hI) yoX3_z ml_X3_144 rfl rfl rfl rfl ⟨Nat.zero_le _, Nat.zero_le _⟩ (show decode cX3_shifting 21 = .ok (.invokevirtual 144, 3) from by decide +kernel) rfl (fun v σ' hPo => ?_)
    obtain ⟨⟨rfl, rfl⟩, g29, hI30⟩ := hPo
    show V 0 0 24 [(0, .ref 11)] [.int (f_X3_z  M), .int (f_X3_lowerRegister  M), .int (f_X3_upperRegister  M), .ref (1000 + 27), .ref 11] LAY (M, L)
    refine x_run C e_X3_shifting_12 e_X3_shifting_12_k (pc' := 25) (lv' := [(0, .ref 11)]) (st' := [.int 1, .int (f_X3_z  M), .int (f_X3_lowerRegister  M), .int (f_X3_upperRegister  M), .ref (1000 + 27), .ref 11]) (σ' := (M, L)) rfl ⟨trivial, trivial⟩ ?_
    refine x_callV C (k := 11) (ci := 2) (rest := []) (avs := [.ref (1000 + 27), .int (f_X3_upperRegister  M), .int (f_X3_lowerRegister  M), .int (f_X3_z  M), .int 1]) (k_X3_pair l 27 (f_X3_upperRegister  M) (f_X3_lowerRegister  M) (f_X3_z  M) 1 M L (show 27 < 66 by decide) hI) yoX3_pair ml_X3_114 rfl rfl rfl rfl ⟨Nat.zero_le _, Nat.zero_le _⟩ (show decode cX3_shifting 25 = .ok (.invokevirtual 114, 3) from by decide +kernel) rfl (fun v σ' hPo => ?_)
    obtain ⟨⟨rfl, rfl⟩, g32, hI33⟩ := hPo
    generalize hq31 : f_X3_pair 27 (f_X3_upperRegister  M) (f_X3_lowerRegister  M) (f_X3_z  M) 1 M = q31 at h g32 hI33 ⊢
    obtain ⟨r31, M31⟩ := q31
    have h := xb_eq h
    try dsimp only at h g32 hI33
    show V 0 0 28 [(0, .ref 11)] [.ref (1000 + r31)] LAY (M31, L)
    subst h
    exact x_aret C (show decode cX3_shifting 28 = .ok (.areturn, 1) from by decide +kernel) (x_finE ⟨⟨rfl, rfl⟩, g32, hI33⟩) (Nat.le_refl 0) (Nat.le_refl 0)
