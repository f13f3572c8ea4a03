-- X9_isOpen
def e_X9_isOpen_1 : List xI := [(0, .iload_n 0, 1, .null)]
theorem e_X9_isOpen_1_k : e_X9_isOpen_1.all (fun q => xokB cX9_isOpen q && xokL q) = true := by decide +kernel
def e_X9_isOpen_2 : List xI := [(4, .bipush 8, 2, .int 8)]
theorem e_X9_isOpen_2_k : e_X9_isOpen_2.all (fun q => xokB cX9_isOpen q && xokL q) = true := by decide +kernel
def e_X9_isOpen_3 : List xI := [(13, .iconst 0, 1, .int 0)]
theorem e_X9_isOpen_3_k : e_X9_isOpen_3.all (fun q => xokB cX9_isOpen q && xokL q) = true := by decide +kernel
def e_X9_isOpen_4 : List xI := [(9, .iconst 1, 1, .int 1)]
theorem e_X9_isOpen_4_k : e_X9_isOpen_4.all (fun q => xokB cX9_isOpen q && xokL q) = true := by decide +kernel
abbrev P_X9_isOpen (r : Int32) (M0 : St) (L : Nat → Nat → Int64) : Option Value → xG → Prop := fun v σ' => PoI r M0 L v σ' ∧ xrg 0 1 r ∧ True
abbrev R_X9_isOpen : Room := { frames := 1, cells := 0, slots := 0, locals := 21 }
abbrev C_X9_isOpen (l : Launch) (r : Int32) (M0 : St) (L : Nat → Nat → Int64) (V : XJ) : Prop := XC l yX9_isOpen.cls yX9_isOpen.name cX9_isOpen 1 R_X9_isOpen 0 0 fl_X9 kc_X9 LAY.length (xfin (some .boolean) LAY (P_X9_isOpen r M0 L)) V
def f_X9_isOpen (a1 : Int32) : Int32 := (if 8 < (f_X9_of a1) then 0 else 1)
set_option maxRecDepth 20000 in
set_option maxHeartbeats 4000000 in
theorem k_X9_isOpen (l : Launch) (a1 : Int32) (M : St) (L : Nat → Nat → Int64) : XM l yX9_isOpen cX9_isOpen 1 (some .boolean) R_X9_isOpen LAY [.int a1] (M, L) (P_X9_isOpen (f_X9_isOpen a1) M L) := by
  refine XM.of (by decide) (Nat.le_of_ble_eq_true rfl) LAY_in cl_ok fl_X9_ok kc_X9_ok (fun V C => ?_)
  obtain ⟨r, h⟩ : ∃ r, f_X9_isOpen a1 = r := ⟨_, rfl⟩
  rw [h] at C
  change C_X9_isOpen l r M L V at C
  unfold f_X9_isOpen at h
  show V 0 0 0 [(0, .int a1)] [] LAY (M, L)
  refine x_run C e_X9_isOpen_1 e_X9_isOpen_1_k (pc' := 1) (lv' := [(0, .int a1)]) (st' := [.int a1]) (σ' := (M, L)) rfl ⟨trivial, trivial⟩ ?_
  refine x_callS C (rest := []) (avs := [.int a1]) (k_X9_of l a1 M L) yoX9_of ml_X9_11 rfl ⟨Nat.zero_le _, Nat.zero_le _⟩ (show decode cX9_isOpen 1 = .ok (.invokestatic 11, 3) from by decide +kernel) rfl (fun v σ' hPo => ?_)
  obtain ⟨⟨rfl, rfl⟩, g2, -⟩ := hPo
  show V 0 0 4 [(0, .int a1)] [.int (f_X9_of a1)] LAY (M, L)
  refine x_run C e_X9_isOpen_2 e_X9_isOpen_2_k (pc' := 6) (lv' := [(0, .int a1)]) (st' := [.int 8, .int (f_X9_of a1)]) (σ' := (M, L)) rfl ⟨trivial, trivial⟩ ?_
  refine x_icmp_gt C (show decode cX9_isOpen 6 = .ok (.if_icmp .gt 7, 3) from by decide +kernel) (tgt := 13) (by decide) (fun c4 => ?_) (fun c4 => ?_)
  · rw [if_pos c4] at h
    have g5 : xrg 9 14 (f_X9_of a1) := (x_c_lt (x_rgc (x := 8) (k := 8) (by decide)) g2 c4).2
    refine x_run C e_X9_isOpen_3 e_X9_isOpen_3_k (pc' := 14) (lv' := [(0, .int a1)]) (st' := [.int 0]) (σ' := (M, L)) rfl ⟨trivial, trivial⟩ ?_
    subst h
    exact x_iret C (show decode cX9_isOpen 14 = .ok (.ireturn, 1) from by decide +kernel) (x_finI (x_nb (x_rgw (x_rgc (x := 0) (k := 0) (by decide)) (lo' := 0) (hi' := 1) (by decide) (by decide))) ⟨⟨rfl, rfl⟩, (x_rgw (x_rgc (x := 0) (k := 0) (by decide)) (lo' := 0) (hi' := 1) (by decide) (by decide)), trivial⟩) (Nat.le_refl 0) (Nat.le_refl 0)
  · rw [if_neg c4] at h
    have g6 : xrg 0 8 (f_X9_of a1) := (x_c_nlt (x_rgc (x := 8) (k := 8) (by decide)) g2 c4).2
    refine x_run C e_X9_isOpen_4 e_X9_isOpen_4_k (pc' := 10) (lv' := [(0, .int a1)]) (st' := [.int 1]) (σ' := (M, L)) rfl ⟨trivial, trivial⟩ ?_
    refine x_goto C (show decode cX9_isOpen 10 = .ok (.goto 4, 3) from by decide +kernel) (tgt := 14) (by decide) ?_
    subst h
    exact x_iret C (show decode cX9_isOpen 14 = .ok (.ireturn, 1) from by decide +kernel) (x_finI (x_nb (x_rgw (x_rgc (x := 1) (k := 1) (by decide)) (lo' := 0) (hi' := 1) (by decide) (by decide))) ⟨⟨rfl, rfl⟩, (x_rgw (x_rgc (x := 1) (k := 1) (by decide)) (lo' := 0) (hi' := 1) (by decide) (by decide)), trivial⟩) (Nat.le_refl 0) (Nat.le_refl 0)
-- X3_isAddressRegister
def e_X3_isAddressRegister_1 : List xI := [(0, .iload_n 0, 1, .null)]
theorem e_X3_isAddressRegister_1_k : e_X3_isAddressRegister_1.all (fun q => xokB cX3_isAddressRegister q && xokL q) = true := by decide +kernel
def e_X3_isAddressRegister_2 : List xI := [(4, .iconst 1, 1, .int 1)]
theorem e_X3_isAddressRegister_2_k : e_X3_isAddressRegister_2.all (fun q => xokB cX3_isAddressRegister q && xokL q) = true := by decide +kernel
def e_X3_isAddressRegister_3 : List xI := [(12, .iconst 0, 1, .int 0)]
theorem e_X3_isAddressRegister_3_k : e_X3_isAddressRegister_3.all (fun q => xokB cX3_isAddressRegister q && xokL q) = true := by decide +kernel
def e_X3_isAddressRegister_4 : List xI := [(8, .iconst 1, 1, .int 1)]
theorem e_X3_isAddressRegister_4_k : e_X3_isAddressRegister_4.all (fun q => xokB cX3_isAddressRegister q && xokL q) = true := by decide +kernel
abbrev P_X3_isAddressRegister (r : Int32) (M0 : St) (L : Nat → Nat → Int64) : Option Value → xG → Prop := fun v σ' => PoI r M0 L v σ' ∧ xrg 0 1 r ∧ True
abbrev R_X3_isAddressRegister : Room := { frames := 1, cells := 0, slots := 0, locals := 21 }
abbrev C_X3_isAddressRegister (l : Launch) (r : Int32) (M0 : St) (L : Nat → Nat → Int64) (V : XJ) : Prop := XC l yX3_isAddressRegister.cls yX3_isAddressRegister.name cX3_isAddressRegister 1 R_X3_isAddressRegister 0 0 fl_X3 kc_X3 LAY.length (xfin (some .boolean) LAY (P_X3_isAddressRegister r M0 L)) V
def f_X3_isAddressRegister (a1 : Int32) : Int32 := (if (f_X9_of a1) = 1 then 1 else 0)
set_option maxRecDepth 20000 in
set_option maxHeartbeats 4000000 in
theorem k_X3_isAddressRegister (l : Launch) (a1 : Int32) (M : St) (L : Nat → Nat → Int64) : XM l yX3_isAddressRegister cX3_isAddressRegister 1 (some .boolean) R_X3_isAddressRegister LAY [.int a1] (M, L) (P_X3_isAddressRegister (f_X3_isAddressRegister a1) M L) := by
  refine XM.of (by decide) (Nat.le_of_ble_eq_true rfl) LAY_in cl_ok fl_X3_ok kc_X3_ok (fun V C => ?_)
  obtain ⟨r, h⟩ : ∃ r, f_X3_isAddressRegister a1 = r := ⟨_, rfl⟩
  rw [h] at C
  change C_X3_isAddressRegister l r M L V at C
  unfold f_X3_isAddressRegister at h
  show V 0 0 0 [(0, .int a1)] [] LAY (M, L)
  refine x_run C e_X3_isAddressRegister_1 e_X3_isAddressRegister_1_k (pc' := 1) (lv' := [(0, .int a1)]) (st' := [.int a1]) (σ' := (M, L)) rfl ⟨trivial, trivial⟩ ?_
  refine x_callS C (rest := []) (avs := [.int a1]) (k_X9_of l a1 M L) yoX9_of ml_X3_137 rfl ⟨Nat.zero_le _, Nat.zero_le _⟩ (show decode cX3_isAddressRegister 1 = .ok (.invokestatic 137, 3) from by decide +kernel) rfl (fun v σ' hPo => ?_)
  obtain ⟨⟨rfl, rfl⟩, g2, -⟩ := hPo
  show V 0 0 4 [(0, .int a1)] [.int (f_X9_of a1)] LAY (M, L)
  refine x_run C e_X3_isAddressRegister_2 e_X3_isAddressRegister_2_k (pc' := 5) (lv' := [(0, .int a1)]) (st' := [.int 1, .int (f_X9_of a1)]) (σ' := (M, L)) rfl ⟨trivial, trivial⟩ ?_
  refine x_icmp_ne C (show decode cX3_isAddressRegister 5 = .ok (.if_icmp .ne 7, 3) from by decide +kernel) (tgt := 12) (by decide) (fun c4 => ?_) (fun c4 => ?_)
  · rw [if_neg c4] at h
    refine x_run C e_X3_isAddressRegister_3 e_X3_isAddressRegister_3_k (pc' := 13) (lv' := [(0, .int a1)]) (st' := [.int 0]) (σ' := (M, L)) rfl ⟨trivial, trivial⟩ ?_
    subst h
    exact x_iret C (show decode cX3_isAddressRegister 13 = .ok (.ireturn, 1) from by decide +kernel) (x_finI (x_nb (x_rgw (x_rgc (x := 0) (k := 0) (by decide)) (lo' := 0) (hi' := 1) (by decide) (by decide))) ⟨⟨rfl, rfl⟩, (x_rgw (x_rgc (x := 0) (k := 0) (by decide)) (lo' := 0) (hi' := 1) (by decide) (by decide)), trivial⟩) (Nat.le_refl 0) (Nat.le_refl 0)
  · rw [if_pos c4] at h
    have g5 : xrg 1 1 (f_X9_of a1) := (x_c_eq g2 (x_rgc (x := 1) (k := 1) (by decide)) c4).1
    refine x_run C e_X3_isAddressRegister_4 e_X3_isAddressRegister_4_k (pc' := 9) (lv' := [(0, .int a1)]) (st' := [.int 1]) (σ' := (M, L)) rfl ⟨trivial, trivial⟩ ?_
    refine x_goto C (show decode cX3_isAddressRegister 9 = .ok (.goto 4, 3) from by decide +kernel) (tgt := 13) (by decide) ?_
    subst h
    exact x_iret C (show decode cX3_isAddressRegister 13 = .ok (.ireturn, 1) from by decide +kernel) (x_finI (x_nb (x_rgw (x_rgc (x := 1) (k := 1) (by decide)) (lo' := 0) (hi' := 1) (by decide) (by decide))) ⟨⟨rfl, rfl⟩, (x_rgw (x_rgc (x := 1) (k := 1) (by decide)) (lo' := 0) (hi' := 1) (by decide) (by decide)), trivial⟩) (Nat.le_refl 0) (Nat.le_refl 0)
-- X3_pair
def e_X3_pair_1 : List xI := [(0, .aload_n 0, 1, .null), (1, .iload_n 2, 1, .null), (2, .putfield 99, 3, .null), (5, .aload_n 0, 1, .null), (6, .iload_n 3, 1, .null), (7, .putfield 102, 3, .null), (10, .aload_n 0, 1, .null), (11, .iload 4, 2, .null), (13, .putfield 105, 3, .null), (16, .iload 5, 2, .null)]
theorem e_X3_pair_1_k : e_X3_pair_1.all (fun q => xokB cX3_pair q && xokL q) = true := by decide +kernel
def e_X3_pair_2 : List xI := [(21, .aload_n 1, 1, .null)]
theorem e_X3_pair_2_k : e_X3_pair_2.all (fun q => xokB cX3_pair q && xokL q) = true := by decide +kernel
abbrev P_X3_pair (r : Nat × St) (L : Nat → Nat → Int64) : Option Value → xG → Prop := fun v σ' => PoE r.1 r.2 L v σ' ∧ r.1 < 66 ∧ InvK INVC r.2
abbrev R_X3_pair : Room := { frames := 0, cells := 0, slots := 0, locals := 0 }
abbrev C_X3_pair (l : Launch) (r : Nat × St) (L : Nat → Nat → Int64) (V : XJ) : Prop := XC l yX3_pair.cls yX3_pair.name cX3_pair 6 R_X3_pair 0 0 fl_X3 kc_X3 LAY.length (xfin (some (.object "SupervisorMachine$Op")) LAY (P_X3_pair r L)) V
def f_X3_pair (a1 : Nat) (a2 : Int32) (a3 : Int32) (a4 : Int32) (a5 : Int32) (M : St) : Nat × St := (if a5 = 0 then (65, (xup (xup (xup M 11 2 a2) 11 3 a3) 11 1 a4)) else (a1, (xup (xup (xup M 11 2 a2) 11 3 a3) 11 1 a4)))
set_option maxRecDepth 20000 in
set_option maxHeartbeats 4000000 in
theorem k_X3_pair (l : Launch) (a1 : Nat) (a2 : Int32) (a3 : Int32) (a4 : Int32) (a5 : Int32) (M : St) (L : Nat → Nat → Int64) (hb1 : a1 < 66) (hI : InvK INVC M) : XM l yX3_pair cX3_pair 6 (some (.object "SupervisorMachine$Op")) R_X3_pair LAY [.ref 11, .ref (1000 + a1), .int a2, .int a3, .int a4, .int a5] (M, L) (P_X3_pair (f_X3_pair a1 a2 a3 a4 a5 M) L) := by
  refine XM.of (by decide) (Nat.le_of_ble_eq_true rfl) LAY_in cl_ok fl_X3_ok kc_X3_ok (fun V C => ?_)
  obtain ⟨r, h⟩ : ∃ r, f_X3_pair a1 a2 a3 a4 a5 M = r := ⟨_, rfl⟩
  rw [h] at C
  change C_X3_pair l r L V at C
  unfold f_X3_pair at h
  show V 0 0 0 [(0, .ref 11), (1, .ref (1000 + a1)), (2, .int a2), (3, .int a3), (4, .int a4), (5, .int a5)] [] LAY (M, L)
  refine x_run C e_X3_pair_1 e_X3_pair_1_k (pc' := 18) (lv' := [(0, .ref 11), (1, .ref (1000 + a1)), (2, .int a2), (3, .int a3), (4, .int a4), (5, .int a5)]) (st' := [.int a5]) (σ' := ((xup (xup (xup M 11 2 a2) 11 3 a3) 11 1 a4), L)) rfl ⟨trivial, trivial, trivial, trivial, trivial, trivial, trivial, trivial, trivial, trivial, trivial⟩ ?_
  have hI1 : InvK INVC (xup (xup (xup M 11 2 a2) 11 3 a3) 11 1 a4) := (((hI.fld 11 2 a2 (by decide)).fld 11 3 a3 (by decide)).fld 11 1 a4 (by decide))
  refine x_if_eq C (show decode cX3_pair 18 = .ok (.ifCond .eq 7, 3) from by decide +kernel) (tgt := 25) (by decide) (fun c2 => ?_) (fun c2 => ?_)
  · rw [if_pos c2] at h
    have g3 : xrg 0 0 a5 := (x_c_eq (x_rgt a5) (x_rgc (x := 0) (k := 0) (by decide)) c2).1
    refine x_getE C 65 (by decide) (x_in 678 (by decide +kernel) rfl) (show decode cX3_pair 25 = .ok (.getstatic 108, 3) from by decide +kernel) ?_
    subst h
    exact x_aret C (show decode cX3_pair 28 = .ok (.areturn, 1) from by decide +kernel) (x_finE ⟨⟨rfl, rfl⟩, (show 65 < 66 by decide), hI1⟩) (Nat.le_refl 0) (Nat.le_refl 0)
  · rw [if_neg c2] at h
    refine x_run C e_X3_pair_2 e_X3_pair_2_k (pc' := 22) (lv' := [(0, .ref 11), (1, .ref (1000 + a1)), (2, .int a2), (3, .int a3), (4, .int a4), (5, .int a5)]) (st' := [.ref (1000 + a1)]) (σ' := ((xup (xup (xup M 11 2 a2) 11 3 a3) 11 1 a4), L)) rfl ⟨trivial, trivial⟩ ?_
    refine x_goto C (show decode cX3_pair 22 = .ok (.goto 6, 3) from by decide +kernel) (tgt := 28) (by decide) ?_
    subst h
    exact x_aret C (show decode cX3_pair 28 = .ok (.areturn, 1) from by decide +kernel) (x_finE ⟨⟨rfl, rfl⟩, hb1, hI1⟩) (Nat.le_refl 0) (Nat.le_refl 0)
-- X3_moving
def e_X3_moving_1 : List xI := [(0, .aload_n 0, 1, .null), (1, .getfield 9, 3, .null), (4, .bipush 6, 2, .int 6), (6, .iushr, 1, .null), (7, .bipush 63, 2, .int 63), (9, .iand, 1, .null), (10, .istore_n 1, 1, .null), (11, .aload_n 0, 1, .null), (12, .getfield 9, 3, .null), (15, .bipush 12, 2, .int 12), (17, .iushr, 1, .null), (18, .istore_n 2, 1, .null), (19, .aload_n 0, 1, .null)]
theorem e_X3_moving_1_k : e_X3_moving_1.all (fun q => xokB cX3_moving q && xokL q) = true := by decide +kernel
def e_X3_moving_2 : List xI := [(23, .iload_n 2, 1, .null)]
theorem e_X3_moving_2_k : e_X3_moving_2.all (fun q => xokB cX3_moving q && xokL q) = true := by decide +kernel
def e_X3_moving_3 : List xI := [(30, .iload_n 1, 1, .null), (31, .iload_n 2, 1, .null)]
theorem e_X3_moving_3_k : e_X3_moving_3.all (fun q => xokB cX3_moving q && xokL q) = true := by decide +kernel
def e_X3_moving_4 : List xI := [(38, .iload_n 1, 1, .null)]
theorem e_X3_moving_4_k : e_X3_moving_4.all (fun q => xokB cX3_moving q && xokL q) = true := by decide +kernel
def e_X3_moving_5 : List xI := [(45, .iconst 1, 1, .int 1)]
theorem e_X3_moving_5_k : e_X3_moving_5.all (fun q => xokB cX3_moving q && xokL q) = true := by decide +kernel
def e_X3_moving_6 : List xI := [(49, .iconst 0, 1, .int 0)]
theorem e_X3_moving_6_k : e_X3_moving_6.all (fun q => xokB cX3_moving q && xokL q) = true := by decide +kernel
def e_X3_moving_7 : List xI := [(50, .istore_n 3, 1, .null), (51, .aload_n 0, 1, .null), (52, .iload_n 1, 1, .null)]
theorem e_X3_moving_7_k : e_X3_moving_7.all (fun q => xokB cX3_moving q && xokL q) = true := by decide +kernel
def e_X3_moving_8 : List xI := [(68, .aload_n 0, 1, .null)]
theorem e_X3_moving_8_k : e_X3_moving_8.all (fun q => xokB cX3_moving q && xokL q) = true := by decide +kernel
def e_X3_moving_9 : List xI := [(72, .iload_n 1, 1, .null), (73, .iload_n 2, 1, .null), (74, .iload_n 3, 1, .null)]
theorem e_X3_moving_9_k : e_X3_moving_9.all (fun q => xokB cX3_moving q && xokL q) = true := by decide +kernel
abbrev P_X3_moving (r : Nat × St) (L : Nat → Nat → Int64) : Option Value → xG → Prop := fun v σ' => PoE r.1 r.2 L v σ' ∧ r.1 < 66 ∧ InvK INVC r.2
abbrev R_X3_moving : Room := { frames := 2, cells := 0, slots := 0, locals := 43 }
abbrev C_X3_moving (l : Launch) (r : Nat × St) (L : Nat → Nat → Int64) (V : XJ) : Prop := XC l yX3_moving.cls yX3_moving.name cX3_moving 4 R_X3_moving 0 0 fl_X3 kc_X3 LAY.length (xfin (some (.object "SupervisorMachine$Op")) LAY (P_X3_moving r L)) V
def f_X3_moving_68 (x1 : Int32) (x2 : Int32) (x3 : Int32) (s0 : Nat) (M : St) : Nat × St := (xb (f_X3_pair s0 (f_X3_operand  M) x1 x2 x3 M) fun q31 => (q31.1, q31.2))
def f_X3_moving_50 (x1 : Int32) (x2 : Int32) (s0 : Int32) (M : St) : Nat × St := (if (f_X3_isAddressRegister x1) = 0 then f_X3_moving_68 x1 x2 s0 0 M else f_X3_moving_68 x1 x2 s0 11 M)
def f_X3_moving_49 (x1 : Int32) (x2 : Int32) (M : St) : Nat × St := f_X3_moving_50 x1 x2 0 M
def f_X3_moving (M : St) : Nat × St := (if (f_X9_isAny (f_X3_operand  M) (ius (M 11 0) 12)) = 0 then f_X3_moving_49 ((ius (M 11 0) 6) &&& 63) (ius (M 11 0) 12) M else (if (f_X9_isAny ((ius (M 11 0) 6) &&& 63) (ius (M 11 0) 12)) = 0 then f_X3_moving_49 ((ius (M 11 0) 6) &&& 63) (ius (M 11 0) 12) M else (if (f_X9_isOpen ((ius (M 11 0) 6) &&& 63)) = 0 then f_X3_moving_49 ((ius (M 11 0) 6) &&& 63) (ius (M 11 0) 12) M else f_X3_moving_50 ((ius (M 11 0) 6) &&& 63) (ius (M 11 0) 12) 1 M)))
set_option maxRecDepth 20000 in
set_option maxHeartbeats 4000000 in
theorem b_X3_moving_68 {l : Launch} {L : Nat → Nat → Int64} {V : XJ} (r : Nat × St) (C : C_X3_moving l r L V) (x1 : Int32) (x2 : Int32) (x3 : Int32) (s0 : Nat) (M : St) (wx1 : xrg 0 63 x1) (wx3 : xrg 0 1 x3) (bds0 : s0 < 66) (hI : InvK INVC M) (h : f_X3_moving_68 x1 x2 x3 s0 M = r) : V 0 0 68 [(0, .ref 11), (1, .int x1), (2, .int x2), (3, .int x3)] [.ref (1000 + s0), .ref 11] LAY (M, L) := by
  unfold f_X3_moving_68 at h
  refine x_run C e_X3_moving_8 e_X3_moving_8_k (pc' := 69) (lv' := [(0, .ref 11), (1, .int x1), (2, .int x2), (3, .int x3)]) (st' := [.ref 11, .ref (1000 + s0), .ref 11]) (σ' := (M, L)) rfl ⟨trivial, trivial⟩ ?_
  refine x_callV C (k := 11) (ci := 2) (rest := [.ref (1000 + s0), .ref 11]) (avs := []) (k_X3_operand l  M L hI) yoX3_operand ml_X3_111 rfl rfl rfl rfl ⟨Nat.zero_le _, Nat.zero_le _⟩ (show decode cX3_moving 69 = .ok (.invokevirtual 111, 3) from by decide +kernel) rfl (fun v σ' hPo => ?_)
  obtain ⟨⟨rfl, rfl⟩, g29, hI30⟩ := hPo
  show V 0 0 72 [(0, .ref 11), (1, .int x1), (2, .int x2), (3, .int x3)] [.int (f_X3_operand  M), .ref (1000 + s0), .ref 11] LAY (M, L)
  refine x_run C e_X3_moving_9 e_X3_moving_9_k (pc' := 75) (lv' := [(0, .ref 11), (1, .int x1), (2, .int x2), (3, .int x3)]) (st' := [.int x3, .int x2, .int x1, .int (f_X3_operand  M), .ref (1000 + s0), .ref 11]) (σ' := (M, L)) rfl ⟨trivial, trivial, trivial, trivial⟩ ?_
  refine x_callV C (k := 11) (ci := 2) (rest := []) (avs := [.ref (1000 + s0), .int (f_X3_operand  M), .int x1, .int x2, .int x3]) (k_X3_pair l s0 (f_X3_operand  M) x1 x2 x3 M L bds0 hI) yoX3_pair ml_X3_114 rfl rfl rfl rfl ⟨Nat.zero_le _, Nat.zero_le _⟩ (show decode cX3_moving 75 = .ok (.invokevirtual 114, 3) from by decide +kernel) rfl (fun v σ' hPo => ?_)
  obtain ⟨⟨rfl, rfl⟩, g32, hI33⟩ := hPo
  generalize hq31 : f_X3_pair s0 (f_X3_operand  M) x1 x2 x3 M = q31 at h g32 hI33 ⊢
  obtain ⟨r31, M31⟩ := q31
  have h := xb_eq h
  try dsimp only at h g32 hI33
  show V 0 0 78 [(0, .ref 11), (1, .int x1), (2, .int x2), (3, .int x3)] [.ref (1000 + r31)] LAY (M31, L)
  subst h
  exact x_aret C (show decode cX3_moving 78 = .ok (.areturn, 1) from by decide +kernel) (x_finE ⟨⟨rfl, rfl⟩, g32, hI33⟩) (Nat.le_refl 0) (Nat.le_refl 0)
set_option maxRecDepth 20000 in
set_option maxHeartbeats 4000000 in
theorem b_X3_moving_50 {l : Launch} {L : Nat → Nat → Int64} {V : XJ} (r : Nat × St) (C : C_X3_moving l r L V) (x1 : Int32) (x2 : Int32) (s0 : Int32) (M : St) (wx1 : xrg 0 63 x1) (ws0 : xrg 0 1 s0) (hI : InvK INVC M) (h : f_X3_moving_50 x1 x2 s0 M = r) : V 0 0 50 [(0, .ref 11), (1, .int x1), (2, .int x2)] [.int s0] LAY (M, L) := by
  unfold f_X3_moving_50 at h
  refine x_run C e_X3_moving_7 e_X3_moving_7_k (pc' := 53) (lv' := [(3, .int s0), (0, .ref 11), (1, .int x1), (2, .int x2)]) (st' := [.int x1, .ref 11]) (σ' := (M, L)) rfl ⟨trivial, trivial, trivial, trivial⟩ ?_
  refine x_callS C (rest := [.ref 11]) (avs := [.int x1]) (k_X3_isAddressRegister l x1 M L) yoX3_isAddressRegister ml_X3_128 rfl ⟨Nat.zero_le _, Nat.zero_le _⟩ (show decode cX3_moving 53 = .ok (.invokestatic 128, 3) from by decide +kernel) rfl (fun v σ' hPo => ?_)
  obtain ⟨⟨rfl, rfl⟩, g23, -⟩ := hPo
  show V 0 0 56 [(3, .int s0), (0, .ref 11), (1, .int x1), (2, .int x2)] [.int (f_X3_isAddressRegister x1), .ref 11] LAY (M, L)
  refine x_if_eq C (show decode cX3_moving 56 = .ok (.ifCond .eq 9, 3) from by decide +kernel) (tgt := 65) (by decide) (fun c25 => ?_) (fun c25 => ?_)
  · rw [if_pos c25] at h
    have g26 : xrg 0 0 (f_X3_isAddressRegister x1) := (x_c_eq g23 (x_rgc (x := 0) (k := 0) (by decide)) c25).1
    refine x_getE C 0 (by decide) (x_in 672 (by decide +kernel) rfl) (show decode cX3_moving 65 = .ok (.getstatic 134, 3) from by decide +kernel) ?_
    refine x_lv C [1, 2, 3, 0] rfl ?_
    exact b_X3_moving_68 r C x1 x2 s0 0 M wx1 ws0 (show 0 < 66 by decide) hI h
  · rw [if_neg c25] at h
    have g27 : xrg 1 1 (f_X3_isAddressRegister x1) := (x_c_ne g23 (by decide) c25)
    refine x_getE C 11 (by decide) (x_in 670 (by decide +kernel) rfl) (show decode cX3_moving 59 = .ok (.getstatic 131, 3) from by decide +kernel) ?_
    refine x_goto C (show decode cX3_moving 62 = .ok (.goto 6, 3) from by decide +kernel) (tgt := 68) (by decide) ?_
    refine x_lv C [1, 2, 3, 0] rfl ?_
    exact b_X3_moving_68 r C x1 x2 s0 11 M wx1 ws0 (show 11 < 66 by decide) hI h
set_option maxRecDepth 20000 in
set_option maxHeartbeats 4000000 in
theorem b_X3_moving_49 {l : Launch} {L : Nat → Nat → Int64} {V : XJ} (r : Nat × St) (C : C_X3_moving l r L V) (x1 : Int32) (x2 : Int32) (M : St) (wx1 : xrg 0 63 x1) (hI : InvK INVC M) (h : f_X3_moving_49 x1 x2 M = r) : V 0 0 49 [(0, .ref 11), (1, .int x1), (2, .int x2)] [] LAY (M, L) := by
  unfold f_X3_moving_49 at h
  refine x_run C e_X3_moving_6 e_X3_moving_6_k (pc' := 50) (lv' := [(0, .ref 11), (1, .int x1), (2, .int x2)]) (st' := [.int 0]) (σ' := (M, L)) rfl ⟨trivial, trivial⟩ ?_
  exact b_X3_moving_50 r C x1 x2 0 M wx1 (x_rgw (x_rgc (x := 0) (k := 0) (by decide)) (lo' := 0) (hi' := 1) (by decide) (by decide)) hI h
set_option maxRecDepth 20000 in
set_option maxHeartbeats 4000000 in
theorem k_X3_moving (l : Launch) (M : St) (L : Nat → Nat → Int64) (hI : InvK INVC M) : XM l yX3_moving cX3_moving 4 (some (.object "SupervisorMachine$Op")) R_X3_moving LAY [.ref 11] (M, L) (P_X3_moving (f_X3_moving M) L) := by
  refine XM.of (by decide) (Nat.le_of_ble_eq_true rfl) LAY_in cl_ok fl_X3_ok kc_X3_ok (fun V C => ?_)
  obtain ⟨r, h⟩ : ∃ r, f_X3_moving M = r := ⟨_, rfl⟩
  rw [h] at C
  change C_X3_moving l r L V at C
  unfold f_X3_moving at h
  show V 0 0 0 [(0, .ref 11)] [] LAY (M, L)
  refine x_run C e_X3_moving_1 e_X3_moving_1_k (pc' := 20) (lv' := [(2, .int (ius (M 11 0) 12)), (1, .int ((ius (M 11 0) 6) &&& 63)), (0, .ref 11)]) (st' := [.ref 11]) (σ' := (M, L)) rfl ⟨trivial, trivial, trivial, trivial, trivial, trivial, trivial, trivial, trivial, trivial, trivial, trivial, trivial, trivial⟩ ?_
  refine x_callV C (k := 11) (ci := 2) (rest := []) (avs := []) (k_X3_operand l  M L hI) yoX3_operand ml_X3_111 rfl rfl rfl rfl ⟨Nat.zero_le _, Nat.zero_le _⟩ (show decode cX3_moving 20 = .ok (.invokevirtual 111, 3) from by decide +kernel) rfl (fun v σ' hPo => ?_)
  obtain ⟨⟨rfl, rfl⟩, g2, hI3⟩ := hPo
  show V 0 0 23 [(2, .int (ius (M 11 0) 12)), (1, .int ((ius (M 11 0) 6) &&& 63)), (0, .ref 11)] [.int (f_X3_operand  M)] LAY (M, L)
  refine x_run C e_X3_moving_2 e_X3_moving_2_k (pc' := 24) (lv' := [(2, .int (ius (M 11 0) 12)), (1, .int ((ius (M 11 0) 6) &&& 63)), (0, .ref 11)]) (st' := [.int (ius (M 11 0) 12), .int (f_X3_operand  M)]) (σ' := (M, L)) rfl ⟨trivial, trivial⟩ ?_
  refine x_callS C (rest := []) (avs := [.int (f_X3_operand  M), .int (ius (M 11 0) 12)]) (k_X9_isAny l (f_X3_operand  M) (ius (M 11 0) 12) M L) yoX9_isAny ml_X3_118 rfl ⟨Nat.zero_le _, Nat.zero_le _⟩ (show decode cX3_moving 24 = .ok (.invokestatic 118, 3) from by decide +kernel) rfl (fun v σ' hPo => ?_)
  obtain ⟨⟨rfl, rfl⟩, g5, -⟩ := hPo
  show V 0 0 27 [(2, .int (ius (M 11 0) 12)), (1, .int ((ius (M 11 0) 6) &&& 63)), (0, .ref 11)] [.int (f_X9_isAny (f_X3_operand  M) (ius (M 11 0) 12))] LAY (M, L)
  refine x_if_eq C (show decode cX3_moving 27 = .ok (.ifCond .eq 22, 3) from by decide +kernel) (tgt := 49) (by decide) (fun c7 => ?_) (fun c7 => ?_)
  · rw [if_pos c7] at h
    have g8 : xrg 0 0 (f_X9_isAny (f_X3_operand  M) (ius (M 11 0) 12)) := (x_c_eq g5 (x_rgc (x := 0) (k := 0) (by decide)) c7).1
    refine x_lv C [2, 1, 0] rfl ?_
    exact b_X3_moving_49 r C ((ius (M 11 0) 6) &&& 63) (ius (M 11 0) 12) M (x_rg_and (x := (ius (M 11 0) 6)) (m := 63) (k := 63) (by decide) (by decide)) hI h
  · rw [if_neg c7] at h
    have g9 : xrg 1 1 (f_X9_isAny (f_X3_operand  M) (ius (M 11 0) 12)) := (x_c_ne g5 (by decide) c7)
    refine x_run C e_X3_moving_3 e_X3_moving_3_k (pc' := 32) (lv' := [(2, .int (ius (M 11 0) 12)), (1, .int ((ius (M 11 0) 6) &&& 63)), (0, .ref 11)]) (st' := [.int (ius (M 11 0) 12), .int ((ius (M 11 0) 6) &&& 63)]) (σ' := (M, L)) rfl ⟨trivial, trivial, trivial⟩ ?_
    refine x_callS C (rest := []) (avs := [.int ((ius (M 11 0) 6) &&& 63), .int (ius (M 11 0) 12)]) (k_X9_isAny l ((ius (M 11 0) 6) &&& 63) (ius (M 11 0) 12) M L) yoX9_isAny ml_X3_118 rfl ⟨Nat.zero_le _, Nat.zero_le _⟩ (show decode cX3_moving 32 = .ok (.invokestatic 118, 3) from by decide +kernel) rfl (fun v σ' hPo => ?_)
    obtain ⟨⟨rfl, rfl⟩, g11, -⟩ := hPo
    show V 0 0 35 [(2, .int (ius (M 11 0) 12)), (1, .int ((ius (M 11 0) 6) &&& 63)), (0, .ref 11)] [.int (f_X9_isAny ((ius (M 11 0) 6) &&& 63) (ius (M 11 0) 12))] LAY (M, L)
    refine x_if_eq C (show decode cX3_moving 35 = .ok (.ifCond .eq 14, 3) from by decide +kernel) (tgt := 49) (by decide) (fun c13 => ?_) (fun c13 => ?_)
    · rw [if_pos c13] at h
      have g14 : xrg 0 0 (f_X9_isAny ((ius (M 11 0) 6) &&& 63) (ius (M 11 0) 12)) := (x_c_eq g11 (x_rgc (x := 0) (k := 0) (by decide)) c13).1
      refine x_lv C [2, 1, 0] rfl ?_
      exact b_X3_moving_49 r C ((ius (M 11 0) 6) &&& 63) (ius (M 11 0) 12) M (x_rg_and (x := (ius (M 11 0) 6)) (m := 63) (k := 63) (by decide) (by decide)) hI h
    · rw [if_neg c13] at h
      have g15 : xrg 1 1 (f_X9_isAny ((ius (M 11 0) 6) &&& 63) (ius (M 11 0) 12)) := (x_c_ne g11 (by decide) c13)
      refine x_run C e_X3_moving_4 e_X3_moving_4_k (pc' := 39) (lv' := [(2, .int (ius (M 11 0) 12)), (1, .int ((ius (M 11 0) 6) &&& 63)), (0, .ref 11)]) (st' := [.int ((ius (M 11 0) 6) &&& 63)]) (σ' := (M, L)) rfl ⟨trivial, trivial⟩ ?_
      refine x_callS C (rest := []) (avs := [.int ((ius (M 11 0) 6) &&& 63)]) (k_X9_isOpen l ((ius (M 11 0) 6) &&& 63) M L) yoX9_isOpen ml_X3_124 rfl ⟨Nat.zero_le _, Nat.zero_le _⟩ (show decode cX3_moving 39 = .ok (.invokestatic 124, 3) from by decide +kernel) rfl (fun v σ' hPo => ?_)
      obtain ⟨⟨rfl, rfl⟩, g17, -⟩ := hPo
      show V 0 0 42 [(2, .int (ius (M 11 0) 12)), (1, .int ((ius (M 11 0) 6) &&& 63)), (0, .ref 11)] [.int (f_X9_isOpen ((ius (M 11 0) 6) &&& 63))] LAY (M, L)
      refine x_if_eq C (show decode cX3_moving 42 = .ok (.ifCond .eq 7, 3) from by decide +kernel) (tgt := 49) (by decide) (fun c19 => ?_) (fun c19 => ?_)
      · rw [if_pos c19] at h
        have g20 : xrg 0 0 (f_X9_isOpen ((ius (M 11 0) 6) &&& 63)) := (x_c_eq g17 (x_rgc (x := 0) (k := 0) (by decide)) c19).1
        refine x_lv C [2, 1, 0] rfl ?_
        exact b_X3_moving_49 r C ((ius (M 11 0) 6) &&& 63) (ius (M 11 0) 12) M (x_rg_and (x := (ius (M 11 0) 6)) (m := 63) (k := 63) (by decide) (by decide)) hI h
      · rw [if_neg c19] at h
        have g21 : xrg 1 1 (f_X9_isOpen ((ius (M 11 0) 6) &&& 63)) := (x_c_ne g17 (by decide) c19)
        refine x_run C e_X3_moving_5 e_X3_moving_5_k (pc' := 46) (lv' := [(2, .int (ius (M 11 0) 12)), (1, .int ((ius (M 11 0) 6) &&& 63)), (0, .ref 11)]) (st' := [.int 1]) (σ' := (M, L)) rfl ⟨trivial, trivial⟩ ?_
        refine x_goto C (show decode cX3_moving 46 = .ok (.goto 4, 3) from by decide +kernel) (tgt := 50) (by decide) ?_
        refine x_lv C [2, 1, 0] rfl ?_
        exact b_X3_moving_50 r C ((ius (M 11 0) 6) &&& 63) (ius (M 11 0) 12) 1 M (x_rg_and (x := (ius (M 11 0) 6)) (m := 63) (k := 63) (by decide) (by decide)) (x_rgw (x_rgc (x := 1) (k := 1) (by decide)) (lo' := 0) (hi' := 1) (by decide) (by decide)) hI h
-- X9_isOpenData
def e_X9_isOpenData_1 : List xI := [(0, .iload_n 0, 1, .null)]
theorem e_X9_isOpenData_1_k : e_X9_isOpenData_1.all (fun q => xokB cX9_isOpenData q && xokL q) = true := by decide +kernel
def e_X9_isOpenData_2 : List xI := [(4, .istore_n 1, 1, .null), (5, .iload_n 1, 1, .null), (6, .bipush 8, 2, .int 8)]
theorem e_X9_isOpenData_2_k : e_X9_isOpenData_2.all (fun q => xokB cX9_isOpenData q && xokL q) = true := by decide +kernel
def e_X9_isOpenData_3 : List xI := [(20, .iconst 0, 1, .int 0)]
theorem e_X9_isOpenData_3_k : e_X9_isOpenData_3.all (fun q => xokB cX9_isOpenData q && xokL q) = true := by decide +kernel
def e_X9_isOpenData_4 : List xI := [(11, .iload_n 1, 1, .null), (12, .iconst 1, 1, .int 1)]
theorem e_X9_isOpenData_4_k : e_X9_isOpenData_4.all (fun q => xokB cX9_isOpenData q && xokL q) = true := by decide +kernel
def e_X9_isOpenData_5 : List xI := [(16, .iconst 1, 1, .int 1)]
theorem e_X9_isOpenData_5_k : e_X9_isOpenData_5.all (fun q => xokB cX9_isOpenData q && xokL q) = true := by decide +kernel
abbrev P_X9_isOpenData (r : Int32) (M0 : St) (L : Nat → Nat → Int64) : Option Value → xG → Prop := fun v σ' => PoI r M0 L v σ' ∧ xrg 0 1 r ∧ True
abbrev R_X9_isOpenData : Room := { frames := 1, cells := 0, slots := 0, locals := 21 }
abbrev C_X9_isOpenData (l : Launch) (r : Int32) (M0 : St) (L : Nat → Nat → Int64) (V : XJ) : Prop := XC l yX9_isOpenData.cls yX9_isOpenData.name cX9_isOpenData 2 R_X9_isOpenData 0 0 fl_X9 kc_X9 LAY.length (xfin (some .boolean) LAY (P_X9_isOpenData r M0 L)) V
def f_X9_isOpenData (a1 : Int32) : Int32 := (if 8 < (f_X9_of a1) then 0 else (if (f_X9_of a1) = 1 then 0 else 1))
set_option maxRecDepth 20000 in
set_option maxHeartbeats 4000000 in
theorem k_X9_isOpenData (l : Launch) (a1 : Int32) (M : St) (L : Nat → Nat → Int64) : XM l yX9_isOpenData cX9_isOpenData 2 (some .boolean) R_X9_isOpenData LAY [.int a1] (M, L) (P_X9_isOpenData (f_X9_isOpenData a1) M L) := by
  refine XM.of (by decide) (Nat.le_of_ble_eq_true rfl) LAY_in cl_ok fl_X9_ok kc_X9_ok (fun V C => ?_)
  obtain ⟨r, h⟩ : ∃ r, f_X9_isOpenData a1 = r := ⟨_, rfl⟩
  rw [h] at C
  change C_X9_isOpenData l r M L V at C
  unfold f_X9_isOpenData at h
  show V 0 0 0 [(0, .int a1)] [] LAY (M, L)
  refine x_run C e_X9_isOpenData_1 e_X9_isOpenData_1_k (pc' := 1) (lv' := [(0, .int a1)]) (st' := [.int a1]) (σ' := (M, L)) rfl ⟨trivial, trivial⟩ ?_
  refine x_callS C (rest := []) (avs := [.int a1]) (k_X9_of l a1 M L) yoX9_of ml_X9_11 rfl ⟨Nat.zero_le _, Nat.zero_le _⟩ (show decode cX9_isOpenData 1 = .ok (.invokestatic 11, 3) from by decide +kernel) rfl (fun v σ' hPo => ?_)
  obtain ⟨⟨rfl, rfl⟩, g2, -⟩ := hPo
  show V 0 0 4 [(0, .int a1)] [.int (f_X9_of a1)] LAY (M, L)
  refine x_run C e_X9_isOpenData_2 e_X9_isOpenData_2_k (pc' := 8) (lv' := [(1, .int (f_X9_of a1)), (0, .int a1)]) (st' := [.int 8, .int (f_X9_of a1)]) (σ' := (M, L)) rfl ⟨trivial, trivial, trivial, trivial⟩ ?_
  refine x_icmp_gt C (show decode cX9_isOpenData 8 = .ok (.if_icmp .gt 12, 3) from by decide +kernel) (tgt := 20) (by decide) (fun c4 => ?_) (fun c4 => ?_)
  · rw [if_pos c4] at h
    have g5 : xrg 9 14 (f_X9_of a1) := (x_c_lt (x_rgc (x := 8) (k := 8) (by decide)) g2 c4).2
    refine x_run C e_X9_isOpenData_3 e_X9_isOpenData_3_k (pc' := 21) (lv' := [(1, .int (f_X9_of a1)), (0, .int a1)]) (st' := [.int 0]) (σ' := (M, L)) rfl ⟨trivial, trivial⟩ ?_
    subst h
    exact x_iret C (show decode cX9_isOpenData 21 = .ok (.ireturn, 1) from by decide +kernel) (x_finI (x_nb (x_rgw (x_rgc (x := 0) (k := 0) (by decide)) (lo' := 0) (hi' := 1) (by decide) (by decide))) ⟨⟨rfl, rfl⟩, (x_rgw (x_rgc (x := 0) (k := 0) (by decide)) (lo' := 0) (hi' := 1) (by decide) (by decide)), trivial⟩) (Nat.le_refl 0) (Nat.le_refl 0)
  · rw [if_neg c4] at h
    have g6 : xrg 0 8 (f_X9_of a1) := (x_c_nlt (x_rgc (x := 8) (k := 8) (by decide)) g2 c4).2
    refine x_run C e_X9_isOpenData_4 e_X9_isOpenData_4_k (pc' := 13) (lv' := [(1, .int (f_X9_of a1)), (0, .int a1)]) (st' := [.int 1, .int (f_X9_of a1)]) (σ' := (M, L)) rfl ⟨trivial, trivial, trivial⟩ ?_
    refine x_icmp_eq C (show decode cX9_isOpenData 13 = .ok (.if_icmp .eq 7, 3) from by decide +kernel) (tgt := 20) (by decide) (fun c7 => ?_) (fun c7 => ?_)
    · rw [if_pos c7] at h
      have g8 : xrg 1 1 (f_X9_of a1) := (x_c_eq g6 (x_rgc (x := 1) (k := 1) (by decide)) c7).1
      refine x_run C e_X9_isOpenData_3 e_X9_isOpenData_3_k (pc' := 21) (lv' := [(1, .int (f_X9_of a1)), (0, .int a1)]) (st' := [.int 0]) (σ' := (M, L)) rfl ⟨trivial, trivial⟩ ?_
      subst h
      exact x_iret C (show decode cX9_isOpenData 21 = .ok (.ireturn, 1) from by decide +kernel) (x_finI (x_nb (x_rgw (x_rgc (x := 0) (k := 0) (by decide)) (lo' := 0) (hi' := 1) (by decide) (by decide))) ⟨⟨rfl, rfl⟩, (x_rgw (x_rgc (x := 0) (k := 0) (by decide)) (lo' := 0) (hi' := 1) (by decide) (by decide)), trivial⟩) (Nat.le_refl 0) (Nat.le_refl 0)
    · rw [if_neg c7] at h
      refine x_run C e_X9_isOpenData_5 e_X9_isOpenData_5_k (pc' := 17) (lv' := [(1, .int (f_X9_of a1)), (0, .int a1)]) (st' := [.int 1]) (σ' := (M, L)) rfl ⟨trivial, trivial⟩ ?_
      refine x_goto C (show decode cX9_isOpenData 17 = .ok (.goto 4, 3) from by decide +kernel) (tgt := 21) (by decide) ?_
      subst h
      exact x_iret C (show decode cX9_isOpenData 21 = .ok (.ireturn, 1) from by decide +kernel) (x_finI (x_nb (x_rgw (x_rgc (x := 1) (k := 1) (by decide)) (lo' := 0) (hi' := 1) (by decide) (by decide))) ⟨⟨rfl, rfl⟩, (x_rgw (x_rgc (x := 1) (k := 1) (by decide)) (lo' := 0) (hi' := 1) (by decide) (by decide)), trivial⟩) (Nat.le_refl 0) (Nat.le_refl 0)
-- X3_single
def e_X3_single_1 : List xI := [(0, .aload_n 0, 1, .null), (1, .aload_n 1, 1, .null), (2, .aload_n 0, 1, .null)]
theorem e_X3_single_1_k : e_X3_single_1.all (fun q => xokB cX3_single q && xokL q) = true := by decide +kernel
def e_X3_single_2 : List xI := [(6, .aload_n 0, 1, .null)]
theorem e_X3_single_2_k : e_X3_single_2.all (fun q => xokB cX3_single q && xokL q) = true := by decide +kernel
def e_X3_single_3 : List xI := [(10, .iload_n 2, 1, .null), (11, .iload_n 3, 1, .null)]
theorem e_X3_single_3_k : e_X3_single_3.all (fun q => xokB cX3_single q && xokL q) = true := by decide +kernel
abbrev P_X3_single (r : Nat × St) (L : Nat → Nat → Int64) : Option Value → xG → Prop := fun v σ' => PoE r.1 r.2 L v σ' ∧ r.1 < 66 ∧ InvK INVC r.2
abbrev R_X3_single : Room := { frames := 1, cells := 0, slots := 0, locals := 25 }
abbrev C_X3_single (l : Launch) (r : Nat × St) (L : Nat → Nat → Int64) (V : XJ) : Prop := XC l yX3_single.cls yX3_single.name cX3_single 4 R_X3_single 0 0 fl_X3 kc_X3 LAY.length (xfin (some (.object "SupervisorMachine$Op")) LAY (P_X3_single r L)) V
def f_X3_single (a1 : Nat) (a2 : Int32) (a3 : Int32) (M : St) : Nat × St := (xb (f_X3_pair a1 (f_X3_operand  M) (f_X3_operand  M) a2 a3 M) fun q7 => (q7.1, q7.2))
set_option maxRecDepth 20000 in
set_option maxHeartbeats 4000000 in
theorem k_X3_single (l : Launch) (a1 : Nat) (a2 : Int32) (a3 : Int32) (M : St) (L : Nat → Nat → Int64) (hb1 : a1 < 66) (hI : InvK INVC M) : XM l yX3_single cX3_single 4 (some (.object "SupervisorMachine$Op")) R_X3_single LAY [.ref 11, .ref (1000 + a1), .int a2, .int a3] (M, L) (P_X3_single (f_X3_single a1 a2 a3 M) L) := by
  refine XM.of (by decide) (Nat.le_of_ble_eq_true rfl) LAY_in cl_ok fl_X3_ok kc_X3_ok (fun V C => ?_)
  obtain ⟨r, h⟩ : ∃ r, f_X3_single a1 a2 a3 M = r := ⟨_, rfl⟩
  rw [h] at C
  change C_X3_single l r L V at C
  unfold f_X3_single at h
  show V 0 0 0 [(0, .ref 11), (1, .ref (1000 + a1)), (2, .int a2), (3, .int a3)] [] LAY (M, L)
  refine x_run C e_X3_single_1 e_X3_single_1_k (pc' := 3) (lv' := [(0, .ref 11), (1, .ref (1000 + a1)), (2, .int a2), (3, .int a3)]) (st' := [.ref 11, .ref (1000 + a1), .ref 11]) (σ' := (M, L)) rfl ⟨trivial, trivial, trivial, trivial⟩ ?_
  refine x_callV C (k := 11) (ci := 2) (rest := [.ref (1000 + a1), .ref 11]) (avs := []) (k_X3_operand l  M L hI) yoX3_operand ml_X3_111 rfl rfl rfl rfl ⟨Nat.zero_le _, Nat.zero_le _⟩ (show decode cX3_single 3 = .ok (.invokevirtual 111, 3) from by decide +kernel) rfl (fun v σ' hPo => ?_)
  obtain ⟨⟨rfl, rfl⟩, g2, hI3⟩ := hPo
  show V 0 0 6 [(0, .ref 11), (1, .ref (1000 + a1)), (2, .int a2), (3, .int a3)] [.int (f_X3_operand  M), .ref (1000 + a1), .ref 11] LAY (M, L)
  refine x_run C e_X3_single_2 e_X3_single_2_k (pc' := 7) (lv' := [(0, .ref 11), (1, .ref (1000 + a1)), (2, .int a2), (3, .int a3)]) (st' := [.ref 11, .int (f_X3_operand  M), .ref (1000 + a1), .ref 11]) (σ' := (M, L)) rfl ⟨trivial, trivial⟩ ?_
  refine x_callV C (k := 11) (ci := 2) (rest := [.int (f_X3_operand  M), .ref (1000 + a1), .ref 11]) (avs := []) (k_X3_operand l  M L hI) yoX3_operand ml_X3_111 rfl rfl rfl rfl ⟨Nat.zero_le _, Nat.zero_le _⟩ (show decode cX3_single 7 = .ok (.invokevirtual 111, 3) from by decide +kernel) rfl (fun v σ' hPo => ?_)
  obtain ⟨⟨rfl, rfl⟩, g5, hI6⟩ := hPo
  show V 0 0 10 [(0, .ref 11), (1, .ref (1000 + a1)), (2, .int a2), (3, .int a3)] [.int (f_X3_operand  M), .int (f_X3_operand  M), .ref (1000 + a1), .ref 11] LAY (M, L)
  refine x_run C e_X3_single_3 e_X3_single_3_k (pc' := 12) (lv' := [(0, .ref 11), (1, .ref (1000 + a1)), (2, .int a2), (3, .int a3)]) (st' := [.int a3, .int a2, .int (f_X3_operand  M), .int (f_X3_operand  M), .ref (1000 + a1), .ref 11]) (σ' := (M, L)) rfl ⟨trivial, trivial, trivial⟩ ?_
  refine x_callV C (k := 11) (ci := 2) (rest := []) (avs := [.ref (1000 + a1), .int (f_X3_operand  M), .int (f_X3_operand  M), .int a2, .int a3]) (k_X3_pair l a1 (f_X3_operand  M) (f_X3_operand  M) a2 a3 M L hb1 hI) yoX3_pair ml_X3_114 rfl rfl rfl rfl ⟨Nat.zero_le _, Nat.zero_le _⟩ (show decode cX3_single 12 = .ok (.invokevirtual 114, 3) from by decide +kernel) rfl (fun v σ' hPo => ?_)
  obtain ⟨⟨rfl, rfl⟩, g8, hI9⟩ := hPo
  generalize hq7 : f_X3_pair a1 (f_X3_operand  M) (f_X3_operand  M) a2 a3 M = q7 at h g8 hI9 ⊢
  obtain ⟨r7, M7⟩ := q7
  have h := xb_eq h
  try dsimp only at h g8 hI9
  show V 0 0 15 [(0, .ref 11), (1, .ref (1000 + a1)), (2, .int a2), (3, .int a3)] [.ref (1000 + r7)] LAY (M7, L)
  subst h
  exact x_aret C (show decode cX3_single 15 = .ok (.areturn, 1) from by decide +kernel) (x_finE ⟨⟨rfl, rfl⟩, g8, hI9⟩) (Nat.le_refl 0) (Nat.le_refl 0)
-- X9_isData
def e_X9_isData_1 : List xI := [(0, .iload_n 0, 1, .null)]
theorem e_X9_isData_1_k : e_X9_isData_1.all (fun q => xokB cX9_isData q && xokL q) = true := by decide +kernel
def e_X9_isData_2 : List xI := [(4, .istore_n 1, 1, .null), (5, .iload_n 1, 1, .null), (6, .bipush 11, 2, .int 11)]
theorem e_X9_isData_2_k : e_X9_isData_2.all (fun q => xokB cX9_isData q && xokL q) = true := by decide +kernel
def e_X9_isData_3 : List xI := [(20, .iconst 0, 1, .int 0)]
theorem e_X9_isData_3_k : e_X9_isData_3.all (fun q => xokB cX9_isData q && xokL q) = true := by decide +kernel
def e_X9_isData_4 : List xI := [(11, .iload_n 1, 1, .null), (12, .iconst 1, 1, .int 1)]
theorem e_X9_isData_4_k : e_X9_isData_4.all (fun q => xokB cX9_isData q && xokL q) = true := by decide +kernel
def e_X9_isData_5 : List xI := [(16, .iconst 1, 1, .int 1)]
theorem e_X9_isData_5_k : e_X9_isData_5.all (fun q => xokB cX9_isData q && xokL q) = true := by decide +kernel
abbrev P_X9_isData (r : Int32) (M0 : St) (L : Nat → Nat → Int64) : Option Value → xG → Prop := fun v σ' => PoI r M0 L v σ' ∧ xrg 0 1 r ∧ True
abbrev R_X9_isData : Room := { frames := 1, cells := 0, slots := 0, locals := 21 }
abbrev C_X9_isData (l : Launch) (r : Int32) (M0 : St) (L : Nat → Nat → Int64) (V : XJ) : Prop := XC l yX9_isData.cls yX9_isData.name cX9_isData 2 R_X9_isData 0 0 fl_X9 kc_X9 LAY.length (xfin (some .boolean) LAY (P_X9_isData r M0 L)) V
def f_X9_isData (a1 : Int32) : Int32 := (if 11 < (f_X9_of a1) then 0 else (if (f_X9_of a1) = 1 then 0 else 1))
set_option maxRecDepth 20000 in
set_option maxHeartbeats 4000000 in
theorem k_X9_isData (l : Launch) (a1 : Int32) (M : St) (L : Nat → Nat → Int64) : XM l yX9_isData cX9_isData 2 (some .boolean) R_X9_isData LAY [.int a1] (M, L) (P_X9_isData (f_X9_isData a1) M L) := by
  refine XM.of (by decide) (Nat.le_of_ble_eq_true rfl) LAY_in cl_ok fl_X9_ok kc_X9_ok (fun V C => ?_)
  obtain ⟨r, h⟩ : ∃ r, f_X9_isData a1 = r := ⟨_, rfl⟩
  rw [h] at C
  change C_X9_isData l r M L V at C
  unfold f_X9_isData at h
  show V 0 0 0 [(0, .int a1)] [] LAY (M, L)
  refine x_run C e_X9_isData_1 e_X9_isData_1_k (pc' := 1) (lv' := [(0, .int a1)]) (st' := [.int a1]) (σ' := (M, L)) rfl ⟨trivial, trivial⟩ ?_
  refine x_callS C (rest := []) (avs := [.int a1]) (k_X9_of l a1 M L) yoX9_of ml_X9_11 rfl ⟨Nat.zero_le _, Nat.zero_le _⟩ (show decode cX9_isData 1 = .ok (.invokestatic 11, 3) from by decide +kernel) rfl (fun v σ' hPo => ?_)
  obtain ⟨⟨rfl, rfl⟩, g2, -⟩ := hPo
  show V 0 0 4 [(0, .int a1)] [.int (f_X9_of a1)] LAY (M, L)
  refine x_run C e_X9_isData_2 e_X9_isData_2_k (pc' := 8) (lv' := [(1, .int (f_X9_of a1)), (0, .int a1)]) (st' := [.int 11, .int (f_X9_of a1)]) (σ' := (M, L)) rfl ⟨trivial, trivial, trivial, trivial⟩ ?_
  refine x_icmp_gt C (show decode cX9_isData 8 = .ok (.if_icmp .gt 12, 3) from by decide +kernel) (tgt := 20) (by decide) (fun c4 => ?_) (fun c4 => ?_)
  · rw [if_pos c4] at h
    have g5 : xrg 12 14 (f_X9_of a1) := (x_c_lt (x_rgc (x := 11) (k := 11) (by decide)) g2 c4).2
    refine x_run C e_X9_isData_3 e_X9_isData_3_k (pc' := 21) (lv' := [(1, .int (f_X9_of a1)), (0, .int a1)]) (st' := [.int 0]) (σ' := (M, L)) rfl ⟨trivial, trivial⟩ ?_
    subst h
    exact x_iret C (show decode cX9_isData 21 = .ok (.ireturn, 1) from by decide +kernel) (x_finI (x_nb (x_rgw (x_rgc (x := 0) (k := 0) (by decide)) (lo' := 0) (hi' := 1) (by decide) (by decide))) ⟨⟨rfl, rfl⟩, (x_rgw (x_rgc (x := 0) (k := 0) (by decide)) (lo' := 0) (hi' := 1) (by decide) (by decide)), trivial⟩) (Nat.le_refl 0) (Nat.le_refl 0)
  · rw [if_neg c4] at h
    have g6 : xrg 0 11 (f_X9_of a1) := (x_c_nlt (x_rgc (x := 11) (k := 11) (by decide)) g2 c4).2
    refine x_run C e_X9_isData_4 e_X9_isData_4_k (pc' := 13) (lv' := [(1, .int (f_X9_of a1)), (0, .int a1)]) (st' := [.int 1, .int (f_X9_of a1)]) (σ' := (M, L)) rfl ⟨trivial, trivial, trivial⟩ ?_
    refine x_icmp_eq C (show decode cX9_isData 13 = .ok (.if_icmp .eq 7, 3) from by decide +kernel) (tgt := 20) (by decide) (fun c7 => ?_) (fun c7 => ?_)
    · rw [if_pos c7] at h
      have g8 : xrg 1 1 (f_X9_of a1) := (x_c_eq g6 (x_rgc (x := 1) (k := 1) (by decide)) c7).1
      refine x_run C e_X9_isData_3 e_X9_isData_3_k (pc' := 21) (lv' := [(1, .int (f_X9_of a1)), (0, .int a1)]) (st' := [.int 0]) (σ' := (M, L)) rfl ⟨trivial, trivial⟩ ?_
      subst h
      exact x_iret C (show decode cX9_isData 21 = .ok (.ireturn, 1) from by decide +kernel) (x_finI (x_nb (x_rgw (x_rgc (x := 0) (k := 0) (by decide)) (lo' := 0) (hi' := 1) (by decide) (by decide))) ⟨⟨rfl, rfl⟩, (x_rgw (x_rgc (x := 0) (k := 0) (by decide)) (lo' := 0) (hi' := 1) (by decide) (by decide)), trivial⟩) (Nat.le_refl 0) (Nat.le_refl 0)
    · rw [if_neg c7] at h
      refine x_run C e_X9_isData_5 e_X9_isData_5_k (pc' := 17) (lv' := [(1, .int (f_X9_of a1)), (0, .int a1)]) (st' := [.int 1]) (σ' := (M, L)) rfl ⟨trivial, trivial⟩ ?_
      refine x_goto C (show decode cX9_isData 17 = .ok (.goto 4, 3) from by decide +kernel) (tgt := 21) (by decide) ?_
      subst h
      exact x_iret C (show decode cX9_isData 21 = .ok (.ireturn, 1) from by decide +kernel) (x_finI (x_nb (x_rgw (x_rgc (x := 1) (k := 1) (by decide)) (lo' := 0) (hi' := 1) (by decide) (by decide))) ⟨⟨rfl, rfl⟩, (x_rgw (x_rgc (x := 1) (k := 1) (by decide)) (lo' := 0) (hi' := 1) (by decide) (by decide)), trivial⟩) (Nat.le_refl 0) (Nat.le_refl 0)
-- X3_mode
def e_X3_mode_1 : List xI := [(0, .aload_n 0, 1, .null), (1, .getfield 9, 3, .null), (4, .iconst 3, 1, .int 3), (5, .iushr, 1, .null), (6, .bipush 7, 2, .int 7), (8, .iand, 1, .null)]
theorem e_X3_mode_1_k : e_X3_mode_1.all (fun q => xokB cX3_mode q && xokL q) = true := by decide +kernel
abbrev P_X3_mode (r : Int32) (M0 : St) (L : Nat → Nat → Int64) : Option Value → xG → Prop := fun v σ' => PoI r M0 L v σ' ∧ xrg 0 7 r ∧ InvK INVC M0
abbrev R_X3_mode : Room := { frames := 0, cells := 0, slots := 0, locals := 0 }
abbrev C_X3_mode (l : Launch) (r : Int32) (M0 : St) (L : Nat → Nat → Int64) (V : XJ) : Prop := XC l yX3_mode.cls yX3_mode.name cX3_mode 1 R_X3_mode 0 0 fl_X3 kc_X3 LAY.length (xfin (some .int) LAY (P_X3_mode r M0 L)) V
def f_X3_mode (M : St) : Int32 := ((ius (M 11 0) 3) &&& 7)
set_option maxRecDepth 20000 in
set_option maxHeartbeats 4000000 in
theorem k_X3_mode (l : Launch) (M : St) (L : Nat → Nat → Int64) (hI : InvK INVC M) : XM l yX3_mode cX3_mode 1 (some .int) R_X3_mode LAY [.ref 11] (M, L) (P_X3_mode (f_X3_mode M) M L) := by
  refine XM.of (by decide) (Nat.le_of_ble_eq_true rfl) LAY_in cl_ok fl_X3_ok kc_X3_ok (fun V C => ?_)
  obtain ⟨r, h⟩ : ∃ r, f_X3_mode M = r := ⟨_, rfl⟩
  rw [h] at C
  change C_X3_mode l r M L V at C
  unfold f_X3_mode at h
  show V 0 0 0 [(0, .ref 11)] [] LAY (M, L)
  refine x_run C e_X3_mode_1 e_X3_mode_1_k (pc' := 9) (lv' := [(0, .ref 11)]) (st' := [.int ((ius (M 11 0) 3) &&& 7)]) (σ' := (M, L)) rfl ⟨trivial, trivial, trivial, trivial, trivial, trivial, trivial⟩ ?_
  subst h
  exact x_iret C (show decode cX3_mode 9 = .ok (.ireturn, 1) from by decide +kernel) (x_finI rfl ⟨⟨rfl, rfl⟩, (x_rg_and (x := (ius (M 11 0) 3)) (m := 7) (k := 7) (by decide) (by decide)), hI⟩) (Nat.le_refl 0) (Nat.le_refl 0)
-- X9_isControl
def e_X9_isControl_1 : List xI := [(0, .iload_n 0, 1, .null)]
theorem e_X9_isControl_1_k : e_X9_isControl_1.all (fun q => xokB cX9_isControl q && xokL q) = true := by decide +kernel
def e_X9_isControl_2 : List xI := [(4, .istore_n 1, 1, .null), (5, .iload_n 1, 1, .null), (6, .iconst 2, 1, .int 2)]
theorem e_X9_isControl_2_k : e_X9_isControl_2.all (fun q => xokB cX9_isControl q && xokL q) = true := by decide +kernel
def e_X9_isControl_3 : List xI := [(21, .iconst 1, 1, .int 1)]
theorem e_X9_isControl_3_k : e_X9_isControl_3.all (fun q => xokB cX9_isControl q && xokL q) = true := by decide +kernel
def e_X9_isControl_4 : List xI := [(10, .iload_n 1, 1, .null), (11, .iconst 4, 1, .int 4)]
theorem e_X9_isControl_4_k : e_X9_isControl_4.all (fun q => xokB cX9_isControl q && xokL q) = true := by decide +kernel
def e_X9_isControl_5 : List xI := [(25, .iconst 0, 1, .int 0)]
theorem e_X9_isControl_5_k : e_X9_isControl_5.all (fun q => xokB cX9_isControl q && xokL q) = true := by decide +kernel
def e_X9_isControl_6 : List xI := [(15, .iload_n 1, 1, .null), (16, .bipush 11, 2, .int 11)]
theorem e_X9_isControl_6_k : e_X9_isControl_6.all (fun q => xokB cX9_isControl q && xokL q) = true := by decide +kernel
abbrev P_X9_isControl (r : Int32) (M0 : St) (L : Nat → Nat → Int64) : Option Value → xG → Prop := fun v σ' => PoI r M0 L v σ' ∧ xrg 0 1 r ∧ True
abbrev R_X9_isControl : Room := { frames := 1, cells := 0, slots := 0, locals := 21 }
abbrev C_X9_isControl (l : Launch) (r : Int32) (M0 : St) (L : Nat → Nat → Int64) (V : XJ) : Prop := XC l yX9_isControl.cls yX9_isControl.name cX9_isControl 2 R_X9_isControl 0 0 fl_X9 kc_X9 LAY.length (xfin (some .boolean) LAY (P_X9_isControl r M0 L)) V
def f_X9_isControl (a1 : Int32) : Int32 := (if (f_X9_of a1) = 2 then 1 else (if (f_X9_of a1) ≤ 4 then 0 else (if 11 ≤ (f_X9_of a1) then 0 else 1)))
set_option maxRecDepth 20000 in
set_option maxHeartbeats 4000000 in
theorem k_X9_isControl (l : Launch) (a1 : Int32) (M : St) (L : Nat → Nat → Int64) : XM l yX9_isControl cX9_isControl 2 (some .boolean) R_X9_isControl LAY [.int a1] (M, L) (P_X9_isControl (f_X9_isControl a1) M L) := by
  refine XM.of (by decide) (Nat.le_of_ble_eq_true rfl) LAY_in cl_ok fl_X9_ok kc_X9_ok (fun V C => ?_)
  obtain ⟨r, h⟩ : ∃ r, f_X9_isControl a1 = r := ⟨_, rfl⟩
  rw [h] at C
  change C_X9_isControl l r M L V at C
  unfold f_X9_isControl at h
  show V 0 0 0 [(0, .int a1)] [] LAY (M, L)
  refine x_run C e_X9_isControl_1 e_X9_isControl_1_k (pc' := 1) (lv' := [(0, .int a1)]) (st' := [.int a1]) (σ' := (M, L)) rfl ⟨trivial, trivial⟩ ?_
  refine x_callS C (rest := []) (avs := [.int a1]) (k_X9_of l a1 M L) yoX9_of ml_X9_11 rfl ⟨Nat.zero_le _, Nat.zero_le _⟩ (show decode cX9_isControl 1 = .ok (.invokestatic 11, 3) from by decide +kernel) rfl (fun v σ' hPo => ?_)
  obtain ⟨⟨rfl, rfl⟩, g2, -⟩ := hPo
  show V 0 0 4 [(0, .int a1)] [.int (f_X9_of a1)] LAY (M, L)
  refine x_run C e_X9_isControl_2 e_X9_isControl_2_k (pc' := 7) (lv' := [(1, .int (f_X9_of a1)), (0, .int a1)]) (st' := [.int 2, .int (f_X9_of a1)]) (σ' := (M, L)) rfl ⟨trivial, trivial, trivial, trivial⟩ ?_
  refine x_icmp_eq C (show decode cX9_isControl 7 = .ok (.if_icmp .eq 14, 3) from by decide +kernel) (tgt := 21) (by decide) (fun c4 => ?_) (fun c4 => ?_)
  · rw [if_pos c4] at h
    have g5 : xrg 2 2 (f_X9_of a1) := (x_c_eq g2 (x_rgc (x := 2) (k := 2) (by decide)) c4).1
    refine x_run C e_X9_isControl_3 e_X9_isControl_3_k (pc' := 22) (lv' := [(1, .int (f_X9_of a1)), (0, .int a1)]) (st' := [.int 1]) (σ' := (M, L)) rfl ⟨trivial, trivial⟩ ?_
    refine x_goto C (show decode cX9_isControl 22 = .ok (.goto 4, 3) from by decide +kernel) (tgt := 26) (by decide) ?_
    subst h
    exact x_iret C (show decode cX9_isControl 26 = .ok (.ireturn, 1) from by decide +kernel) (x_finI (x_nb (x_rgw (x_rgc (x := 1) (k := 1) (by decide)) (lo' := 0) (hi' := 1) (by decide) (by decide))) ⟨⟨rfl, rfl⟩, (x_rgw (x_rgc (x := 1) (k := 1) (by decide)) (lo' := 0) (hi' := 1) (by decide) (by decide)), trivial⟩) (Nat.le_refl 0) (Nat.le_refl 0)
  · rw [if_neg c4] at h
    refine x_run C e_X9_isControl_4 e_X9_isControl_4_k (pc' := 12) (lv' := [(1, .int (f_X9_of a1)), (0, .int a1)]) (st' := [.int 4, .int (f_X9_of a1)]) (σ' := (M, L)) rfl ⟨trivial, trivial, trivial⟩ ?_
    refine x_icmp_le C (show decode cX9_isControl 12 = .ok (.if_icmp .le 13, 3) from by decide +kernel) (tgt := 25) (by decide) (fun c6 => ?_) (fun c6 => ?_)
    · rw [if_pos c6] at h
      have g7 : xrg 0 4 (f_X9_of a1) := (x_c_le g2 (x_rgc (x := 4) (k := 4) (by decide)) c6).1
      refine x_run C e_X9_isControl_5 e_X9_isControl_5_k (pc' := 26) (lv' := [(1, .int (f_X9_of a1)), (0, .int a1)]) (st' := [.int 0]) (σ' := (M, L)) rfl ⟨trivial, trivial⟩ ?_
      subst h
      exact x_iret C (show decode cX9_isControl 26 = .ok (.ireturn, 1) from by decide +kernel) (x_finI (x_nb (x_rgw (x_rgc (x := 0) (k := 0) (by decide)) (lo' := 0) (hi' := 1) (by decide) (by decide))) ⟨⟨rfl, rfl⟩, (x_rgw (x_rgc (x := 0) (k := 0) (by decide)) (lo' := 0) (hi' := 1) (by decide) (by decide)), trivial⟩) (Nat.le_refl 0) (Nat.le_refl 0)
    · rw [if_neg c6] at h
      have g8 : xrg 5 14 (f_X9_of a1) := (x_c_nle g2 (x_rgc (x := 4) (k := 4) (by decide)) c6).1
      refine x_run C e_X9_isControl_6 e_X9_isControl_6_k (pc' := 18) (lv' := [(1, .int (f_X9_of a1)), (0, .int a1)]) (st' := [.int 11, .int (f_X9_of a1)]) (σ' := (M, L)) rfl ⟨trivial, trivial, trivial⟩ ?_
      refine x_icmp_ge C (show decode cX9_isControl 18 = .ok (.if_icmp .ge 7, 3) from by decide +kernel) (tgt := 25) (by decide) (fun c9 => ?_) (fun c9 => ?_)
      · rw [if_pos c9] at h
        have g10 : xrg 11 14 (f_X9_of a1) := (x_c_le (x_rgc (x := 11) (k := 11) (by decide)) g8 c9).2
        refine x_run C e_X9_isControl_5 e_X9_isControl_5_k (pc' := 26) (lv' := [(1, .int (f_X9_of a1)), (0, .int a1)]) (st' := [.int 0]) (σ' := (M, L)) rfl ⟨trivial, trivial⟩ ?_
        subst h
        exact x_iret C (show decode cX9_isControl 26 = .ok (.ireturn, 1) from by decide +kernel) (x_finI (x_nb (x_rgw (x_rgc (x := 0) (k := 0) (by decide)) (lo' := 0) (hi' := 1) (by decide) (by decide))) ⟨⟨rfl, rfl⟩, (x_rgw (x_rgc (x := 0) (k := 0) (by decide)) (lo' := 0) (hi' := 1) (by decide) (by decide)), trivial⟩) (Nat.le_refl 0) (Nat.le_refl 0)
      · rw [if_neg c9] at h
        have g11 : xrg 5 10 (f_X9_of a1) := (x_c_nle (x_rgc (x := 11) (k := 11) (by decide)) g8 c9).2
        refine x_run C e_X9_isControl_3 e_X9_isControl_3_k (pc' := 22) (lv' := [(1, .int (f_X9_of a1)), (0, .int a1)]) (st' := [.int 1]) (σ' := (M, L)) rfl ⟨trivial, trivial⟩ ?_
        refine x_goto C (show decode cX9_isControl 22 = .ok (.goto 4, 3) from by decide +kernel) (tgt := 26) (by decide) ?_
        subst h
        exact x_iret C (show decode cX9_isControl 26 = .ok (.ireturn, 1) from by decide +kernel) (x_finI (x_nb (x_rgw (x_rgc (x := 1) (k := 1) (by decide)) (lo' := 0) (hi' := 1) (by decide) (by decide))) ⟨⟨rfl, rfl⟩, (x_rgw (x_rgc (x := 1) (k := 1) (by decide)) (lo' := 0) (hi' := 1) (by decide) (by decide)), trivial⟩) (Nat.le_refl 0) (Nat.le_refl 0)
-- X3_isRowToStore
def e_X3_isRowToStore_1 : List xI := [(0, .aload_n 0, 1, .null)]
theorem e_X3_isRowToStore_1_k : e_X3_isRowToStore_1.all (fun q => xokB cX3_isRowToStore q && xokL q) = true := by decide +kernel
def e_X3_isRowToStore_2 : List xI := [(4, .iconst 4, 1, .int 4)]
theorem e_X3_isRowToStore_2_k : e_X3_isRowToStore_2.all (fun q => xokB cX3_isRowToStore q && xokL q) = true := by decide +kernel
def e_X3_isRowToStore_3 : List xI := [(28, .iconst 1, 1, .int 1)]
theorem e_X3_isRowToStore_3_k : e_X3_isRowToStore_3.all (fun q => xokB cX3_isRowToStore q && xokL q) = true := by decide +kernel
def e_X3_isRowToStore_4 : List xI := [(8, .aload_n 0, 1, .null)]
theorem e_X3_isRowToStore_4_k : e_X3_isRowToStore_4.all (fun q => xokB cX3_isRowToStore q && xokL q) = true := by decide +kernel
def e_X3_isRowToStore_5 : List xI := [(32, .iconst 0, 1, .int 0)]
theorem e_X3_isRowToStore_5_k : e_X3_isRowToStore_5.all (fun q => xokB cX3_isRowToStore q && xokL q) = true := by decide +kernel
def e_X3_isRowToStore_6 : List xI := [(18, .aload_n 0, 1, .null)]
theorem e_X3_isRowToStore_6_k : e_X3_isRowToStore_6.all (fun q => xokB cX3_isRowToStore q && xokL q) = true := by decide +kernel
abbrev P_X3_isRowToStore (r : Int32) (M0 : St) (L : Nat → Nat → Int64) : Option Value → xG → Prop := fun v σ' => PoI r M0 L v σ' ∧ xrg 0 1 r ∧ InvK INVC M0
abbrev R_X3_isRowToStore : Room := { frames := 2, cells := 0, slots := 0, locals := 42 }
abbrev C_X3_isRowToStore (l : Launch) (r : Int32) (M0 : St) (L : Nat → Nat → Int64) (V : XJ) : Prop := XC l yX3_isRowToStore.cls yX3_isRowToStore.name cX3_isRowToStore 1 R_X3_isRowToStore 0 0 fl_X3 kc_X3 LAY.length (xfin (some .boolean) LAY (P_X3_isRowToStore r M0 L)) V
def f_X3_isRowToStore (M : St) : Int32 := (if (f_X3_mode  M) = 4 then 1 else (if (f_X9_isOpen (f_X3_operand  M)) = 0 then 0 else (if (f_X9_isControl (f_X3_operand  M)) = 0 then 0 else 1)))
set_option maxRecDepth 20000 in
set_option maxHeartbeats 4000000 in
theorem k_X3_isRowToStore (l : Launch) (M : St) (L : Nat → Nat → Int64) (hI : InvK INVC M) : XM l yX3_isRowToStore cX3_isRowToStore 1 (some .boolean) R_X3_isRowToStore LAY [.ref 11] (M, L) (P_X3_isRowToStore (f_X3_isRowToStore M) M L) := by
  refine XM.of (by decide) (Nat.le_of_ble_eq_true rfl) LAY_in cl_ok fl_X3_ok kc_X3_ok (fun V C => ?_)
  obtain ⟨r, h⟩ : ∃ r, f_X3_isRowToStore M = r := ⟨_, rfl⟩
  rw [h] at C
  change C_X3_isRowToStore l r M L V at C
  unfold f_X3_isRowToStore at h
  show V 0 0 0 [(0, .ref 11)] [] LAY (M, L)
  refine x_run C e_X3_isRowToStore_1 e_X3_isRowToStore_1_k (pc' := 1) (lv' := [(0, .ref 11)]) (st' := [.ref 11]) (σ' := (M, L)) rfl ⟨trivial, trivial⟩ ?_
  refine x_callV C (k := 11) (ci := 2) (rest := []) (avs := []) (k_X3_mode l  M L hI) yoX3_mode ml_X3_151 rfl rfl rfl rfl ⟨Nat.zero_le _, Nat.zero_le _⟩ (show decode cX3_isRowToStore 1 = .ok (.invokevirtual 151, 3) from by decide +kernel) rfl (fun v σ' hPo => ?_)
  obtain ⟨⟨rfl, rfl⟩, g2, hI3⟩ := hPo
  show V 0 0 4 [(0, .ref 11)] [.int (f_X3_mode  M)] LAY (M, L)
  refine x_run C e_X3_isRowToStore_2 e_X3_isRowToStore_2_k (pc' := 5) (lv' := [(0, .ref 11)]) (st' := [.int 4, .int (f_X3_mode  M)]) (σ' := (M, L)) rfl ⟨trivial, trivial⟩ ?_
  refine x_icmp_eq C (show decode cX3_isRowToStore 5 = .ok (.if_icmp .eq 23, 3) from by decide +kernel) (tgt := 28) (by decide) (fun c4 => ?_) (fun c4 => ?_)
  · rw [if_pos c4] at h
    have g5 : xrg 4 4 (f_X3_mode  M) := (x_c_eq g2 (x_rgc (x := 4) (k := 4) (by decide)) c4).1
    refine x_run C e_X3_isRowToStore_3 e_X3_isRowToStore_3_k (pc' := 29) (lv' := [(0, .ref 11)]) (st' := [.int 1]) (σ' := (M, L)) rfl ⟨trivial, trivial⟩ ?_
    refine x_goto C (show decode cX3_isRowToStore 29 = .ok (.goto 4, 3) from by decide +kernel) (tgt := 33) (by decide) ?_
    subst h
    exact x_iret C (show decode cX3_isRowToStore 33 = .ok (.ireturn, 1) from by decide +kernel) (x_finI (x_nb (x_rgw (x_rgc (x := 1) (k := 1) (by decide)) (lo' := 0) (hi' := 1) (by decide) (by decide))) ⟨⟨rfl, rfl⟩, (x_rgw (x_rgc (x := 1) (k := 1) (by decide)) (lo' := 0) (hi' := 1) (by decide) (by decide)), hI⟩) (Nat.le_refl 0) (Nat.le_refl 0)
  · rw [if_neg c4] at h
    refine x_run C e_X3_isRowToStore_4 e_X3_isRowToStore_4_k (pc' := 9) (lv' := [(0, .ref 11)]) (st' := [.ref 11]) (σ' := (M, L)) rfl ⟨trivial, trivial⟩ ?_
    refine x_callV C (k := 11) (ci := 2) (rest := []) (avs := []) (k_X3_operand l  M L hI) yoX3_operand ml_X3_111 rfl rfl rfl rfl ⟨Nat.zero_le _, Nat.zero_le _⟩ (show decode cX3_isRowToStore 9 = .ok (.invokevirtual 111, 3) from by decide +kernel) rfl (fun v σ' hPo => ?_)
    obtain ⟨⟨rfl, rfl⟩, g7, hI8⟩ := hPo
    show V 0 0 12 [(0, .ref 11)] [.int (f_X3_operand  M)] LAY (M, L)
    refine x_callS C (rest := []) (avs := [.int (f_X3_operand  M)]) (k_X9_isOpen l (f_X3_operand  M) M L) yoX9_isOpen ml_X3_124 rfl ⟨Nat.zero_le _, Nat.zero_le _⟩ (show decode cX3_isRowToStore 12 = .ok (.invokestatic 124, 3) from by decide +kernel) rfl (fun v σ' hPo => ?_)
    obtain ⟨⟨rfl, rfl⟩, g10, -⟩ := hPo
    show V 0 0 15 [(0, .ref 11)] [.int (f_X9_isOpen (f_X3_operand  M))] LAY (M, L)
    refine x_if_eq C (show decode cX3_isRowToStore 15 = .ok (.ifCond .eq 17, 3) from by decide +kernel) (tgt := 32) (by decide) (fun c12 => ?_) (fun c12 => ?_)
    · rw [if_pos c12] at h
      have g13 : xrg 0 0 (f_X9_isOpen (f_X3_operand  M)) := (x_c_eq g10 (x_rgc (x := 0) (k := 0) (by decide)) c12).1
      refine x_run C e_X3_isRowToStore_5 e_X3_isRowToStore_5_k (pc' := 33) (lv' := [(0, .ref 11)]) (st' := [.int 0]) (σ' := (M, L)) rfl ⟨trivial, trivial⟩ ?_
      subst h
      exact x_iret C (show decode cX3_isRowToStore 33 = .ok (.ireturn, 1) from by decide +kernel) (x_finI (x_nb (x_rgw (x_rgc (x := 0) (k := 0) (by decide)) (lo' := 0) (hi' := 1) (by decide) (by decide))) ⟨⟨rfl, rfl⟩, (x_rgw (x_rgc (x := 0) (k := 0) (by decide)) (lo' := 0) (hi' := 1) (by decide) (by decide)), hI⟩) (Nat.le_refl 0) (Nat.le_refl 0)
    · rw [if_neg c12] at h
      have g14 : xrg 1 1 (f_X9_isOpen (f_X3_operand  M)) := (x_c_ne g10 (by decide) c12)
      refine x_run C e_X3_isRowToStore_6 e_X3_isRowToStore_6_k (pc' := 19) (lv' := [(0, .ref 11)]) (st' := [.ref 11]) (σ' := (M, L)) rfl ⟨trivial, trivial⟩ ?_
      refine x_callV C (k := 11) (ci := 2) (rest := []) (avs := []) (k_X3_operand l  M L hI) yoX3_operand ml_X3_111 rfl rfl rfl rfl ⟨Nat.zero_le _, Nat.zero_le _⟩ (show decode cX3_isRowToStore 19 = .ok (.invokevirtual 111, 3) from by decide +kernel) rfl (fun v σ' hPo => ?_)
      obtain ⟨⟨rfl, rfl⟩, g16, hI17⟩ := hPo
      show V 0 0 22 [(0, .ref 11)] [.int (f_X3_operand  M)] LAY (M, L)
      refine x_callS C (rest := []) (avs := [.int (f_X3_operand  M)]) (k_X9_isControl l (f_X3_operand  M) M L) yoX9_isControl ml_X3_237 rfl ⟨Nat.zero_le _, Nat.zero_le _⟩ (show decode cX3_isRowToStore 22 = .ok (.invokestatic 237, 3) from by decide +kernel) rfl (fun v σ' hPo => ?_)
      obtain ⟨⟨rfl, rfl⟩, g19, -⟩ := hPo
      show V 0 0 25 [(0, .ref 11)] [.int (f_X9_isControl (f_X3_operand  M))] LAY (M, L)
      refine x_if_eq C (show decode cX3_isRowToStore 25 = .ok (.ifCond .eq 7, 3) from by decide +kernel) (tgt := 32) (by decide) (fun c21 => ?_) (fun c21 => ?_)
      · rw [if_pos c21] at h
        have g22 : xrg 0 0 (f_X9_isControl (f_X3_operand  M)) := (x_c_eq g19 (x_rgc (x := 0) (k := 0) (by decide)) c21).1
        refine x_run C e_X3_isRowToStore_5 e_X3_isRowToStore_5_k (pc' := 33) (lv' := [(0, .ref 11)]) (st' := [.int 0]) (σ' := (M, L)) rfl ⟨trivial, trivial⟩ ?_
        subst h
        exact x_iret C (show decode cX3_isRowToStore 33 = .ok (.ireturn, 1) from by decide +kernel) (x_finI (x_nb (x_rgw (x_rgc (x := 0) (k := 0) (by decide)) (lo' := 0) (hi' := 1) (by decide) (by decide))) ⟨⟨rfl, rfl⟩, (x_rgw (x_rgc (x := 0) (k := 0) (by decide)) (lo' := 0) (hi' := 1) (by decide) (by decide)), hI⟩) (Nat.le_refl 0) (Nat.le_refl 0)
      · rw [if_neg c21] at h
        have g23 : xrg 1 1 (f_X9_isControl (f_X3_operand  M)) := (x_c_ne g19 (by decide) c21)
        refine x_run C e_X3_isRowToStore_3 e_X3_isRowToStore_3_k (pc' := 29) (lv' := [(0, .ref 11)]) (st' := [.int 1]) (σ' := (M, L)) rfl ⟨trivial, trivial⟩ ?_
        refine x_goto C (show decode cX3_isRowToStore 29 = .ok (.goto 4, 3) from by decide +kernel) (tgt := 33) (by decide) ?_
        subst h
        exact x_iret C (show decode cX3_isRowToStore 33 = .ok (.ireturn, 1) from by decide +kernel) (x_finI (x_nb (x_rgw (x_rgc (x := 1) (k := 1) (by decide)) (lo' := 0) (hi' := 1) (by decide) (by decide))) ⟨⟨rfl, rfl⟩, (x_rgw (x_rgc (x := 1) (k := 1) (by decide)) (lo' := 0) (hi' := 1) (by decide) (by decide)), hI⟩) (Nat.le_refl 0) (Nat.le_refl 0)
-- X3_isRowToLoad
def e_X3_isRowToLoad_1 : List xI := [(0, .aload_n 0, 1, .null)]
theorem e_X3_isRowToLoad_1_k : e_X3_isRowToLoad_1.all (fun q => xokB cX3_isRowToLoad q && xokL q) = true := by decide +kernel
def e_X3_isRowToLoad_2 : List xI := [(4, .iconst 3, 1, .int 3)]
theorem e_X3_isRowToLoad_2_k : e_X3_isRowToLoad_2.all (fun q => xokB cX3_isRowToLoad q && xokL q) = true := by decide +kernel
def e_X3_isRowToLoad_3 : List xI := [(18, .iconst 1, 1, .int 1)]
theorem e_X3_isRowToLoad_3_k : e_X3_isRowToLoad_3.all (fun q => xokB cX3_isRowToLoad q && xokL q) = true := by decide +kernel
def e_X3_isRowToLoad_4 : List xI := [(8, .aload_n 0, 1, .null)]
theorem e_X3_isRowToLoad_4_k : e_X3_isRowToLoad_4.all (fun q => xokB cX3_isRowToLoad q && xokL q) = true := by decide +kernel
def e_X3_isRowToLoad_5 : List xI := [(22, .iconst 0, 1, .int 0)]
theorem e_X3_isRowToLoad_5_k : e_X3_isRowToLoad_5.all (fun q => xokB cX3_isRowToLoad q && xokL q) = true := by decide +kernel
abbrev P_X3_isRowToLoad (r : Int32) (M0 : St) (L : Nat → Nat → Int64) : Option Value → xG → Prop := fun v σ' => PoI r M0 L v σ' ∧ xrg 0 1 r ∧ InvK INVC M0
abbrev R_X3_isRowToLoad : Room := { frames := 2, cells := 0, slots := 0, locals := 42 }
abbrev C_X3_isRowToLoad (l : Launch) (r : Int32) (M0 : St) (L : Nat → Nat → Int64) (V : XJ) : Prop := XC l yX3_isRowToLoad.cls yX3_isRowToLoad.name cX3_isRowToLoad 1 R_X3_isRowToLoad 0 0 fl_X3 kc_X3 LAY.length (xfin (some .boolean) LAY (P_X3_isRowToLoad r M0 L)) V
def f_X3_isRowToLoad (M : St) : Int32 := (if (f_X3_mode  M) = 3 then 1 else (if (f_X9_isControl (f_X3_operand  M)) = 0 then 0 else 1))
set_option maxRecDepth 20000 in
set_option maxHeartbeats 4000000 in
theorem k_X3_isRowToLoad (l : Launch) (M : St) (L : Nat → Nat → Int64) (hI : InvK INVC M) : XM l yX3_isRowToLoad cX3_isRowToLoad 1 (some .boolean) R_X3_isRowToLoad LAY [.ref 11] (M, L) (P_X3_isRowToLoad (f_X3_isRowToLoad M) M L) := by
  refine XM.of (by decide) (Nat.le_of_ble_eq_true rfl) LAY_in cl_ok fl_X3_ok kc_X3_ok (fun V C => ?_)
  obtain ⟨r, h⟩ : ∃ r, f_X3_isRowToLoad M = r := ⟨_, rfl⟩
  rw [h] at C
  change C_X3_isRowToLoad l r M L V at C
  unfold f_X3_isRowToLoad at h
  show V 0 0 0 [(0, .ref 11)] [] LAY (M, L)
  refine x_run C e_X3_isRowToLoad_1 e_X3_isRowToLoad_1_k (pc' := 1) (lv' := [(0, .ref 11)]) (st' := [.ref 11]) (σ' := (M, L)) rfl ⟨trivial, trivial⟩ ?_
  refine x_callV C (k := 11) (ci := 2) (rest := []) (avs := []) (k_X3_mode l  M L hI) yoX3_mode ml_X3_151 rfl rfl rfl rfl ⟨Nat.zero_le _, Nat.zero_le _⟩ (show decode cX3_isRowToLoad 1 = .ok (.invokevirtual 151, 3) from by decide +kernel) rfl (fun v σ' hPo => ?_)
  obtain ⟨⟨rfl, rfl⟩, g2, hI3⟩ := hPo
  show V 0 0 4 [(0, .ref 11)] [.int (f_X3_mode  M)] LAY (M, L)
  refine x_run C e_X3_isRowToLoad_2 e_X3_isRowToLoad_2_k (pc' := 5) (lv' := [(0, .ref 11)]) (st' := [.int 3, .int (f_X3_mode  M)]) (σ' := (M, L)) rfl ⟨trivial, trivial⟩ ?_
  refine x_icmp_eq C (show decode cX3_isRowToLoad 5 = .ok (.if_icmp .eq 13, 3) from by decide +kernel) (tgt := 18) (by decide) (fun c4 => ?_) (fun c4 => ?_)
  · rw [if_pos c4] at h
    have g5 : xrg 3 3 (f_X3_mode  M) := (x_c_eq g2 (x_rgc (x := 3) (k := 3) (by decide)) c4).1
    refine x_run C e_X3_isRowToLoad_3 e_X3_isRowToLoad_3_k (pc' := 19) (lv' := [(0, .ref 11)]) (st' := [.int 1]) (σ' := (M, L)) rfl ⟨trivial, trivial⟩ ?_
    refine x_goto C (show decode cX3_isRowToLoad 19 = .ok (.goto 4, 3) from by decide +kernel) (tgt := 23) (by decide) ?_
    subst h
    exact x_iret C (show decode cX3_isRowToLoad 23 = .ok (.ireturn, 1) from by decide +kernel) (x_finI (x_nb (x_rgw (x_rgc (x := 1) (k := 1) (by decide)) (lo' := 0) (hi' := 1) (by decide) (by decide))) ⟨⟨rfl, rfl⟩, (x_rgw (x_rgc (x := 1) (k := 1) (by decide)) (lo' := 0) (hi' := 1) (by decide) (by decide)), hI⟩) (Nat.le_refl 0) (Nat.le_refl 0)
  · rw [if_neg c4] at h
    refine x_run C e_X3_isRowToLoad_4 e_X3_isRowToLoad_4_k (pc' := 9) (lv' := [(0, .ref 11)]) (st' := [.ref 11]) (σ' := (M, L)) rfl ⟨trivial, trivial⟩ ?_
    refine x_callV C (k := 11) (ci := 2) (rest := []) (avs := []) (k_X3_operand l  M L hI) yoX3_operand ml_X3_111 rfl rfl rfl rfl ⟨Nat.zero_le _, Nat.zero_le _⟩ (show decode cX3_isRowToLoad 9 = .ok (.invokevirtual 111, 3) from by decide +kernel) rfl (fun v σ' hPo => ?_)
    obtain ⟨⟨rfl, rfl⟩, g7, hI8⟩ := hPo
    show V 0 0 12 [(0, .ref 11)] [.int (f_X3_operand  M)] LAY (M, L)
    refine x_callS C (rest := []) (avs := [.int (f_X3_operand  M)]) (k_X9_isControl l (f_X3_operand  M) M L) yoX9_isControl ml_X3_237 rfl ⟨Nat.zero_le _, Nat.zero_le _⟩ (show decode cX3_isRowToLoad 12 = .ok (.invokestatic 237, 3) from by decide +kernel) rfl (fun v σ' hPo => ?_)
    obtain ⟨⟨rfl, rfl⟩, g10, -⟩ := hPo
    show V 0 0 15 [(0, .ref 11)] [.int (f_X9_isControl (f_X3_operand  M))] LAY (M, L)
    refine x_if_eq C (show decode cX3_isRowToLoad 15 = .ok (.ifCond .eq 7, 3) from by decide +kernel) (tgt := 22) (by decide) (fun c12 => ?_) (fun c12 => ?_)
    · rw [if_pos c12] at h
      have g13 : xrg 0 0 (f_X9_isControl (f_X3_operand  M)) := (x_c_eq g10 (x_rgc (x := 0) (k := 0) (by decide)) c12).1
      refine x_run C e_X3_isRowToLoad_5 e_X3_isRowToLoad_5_k (pc' := 23) (lv' := [(0, .ref 11)]) (st' := [.int 0]) (σ' := (M, L)) rfl ⟨trivial, trivial⟩ ?_
      subst h
      exact x_iret C (show decode cX3_isRowToLoad 23 = .ok (.ireturn, 1) from by decide +kernel) (x_finI (x_nb (x_rgw (x_rgc (x := 0) (k := 0) (by decide)) (lo' := 0) (hi' := 1) (by decide) (by decide))) ⟨⟨rfl, rfl⟩, (x_rgw (x_rgc (x := 0) (k := 0) (by decide)) (lo' := 0) (hi' := 1) (by decide) (by decide)), hI⟩) (Nat.le_refl 0) (Nat.le_refl 0)
    · rw [if_neg c12] at h
      have g14 : xrg 1 1 (f_X9_isControl (f_X3_operand  M)) := (x_c_ne g10 (by decide) c12)
      refine x_run C e_X3_isRowToLoad_3 e_X3_isRowToLoad_3_k (pc' := 19) (lv' := [(0, .ref 11)]) (st' := [.int 1]) (σ' := (M, L)) rfl ⟨trivial, trivial⟩ ?_
      refine x_goto C (show decode cX3_isRowToLoad 19 = .ok (.goto 4, 3) from by decide +kernel) (tgt := 23) (by decide) ?_
      subst h
      exact x_iret C (show decode cX3_isRowToLoad 23 = .ok (.ireturn, 1) from by decide +kernel) (x_finI (x_nb (x_rgw (x_rgc (x := 1) (k := 1) (by decide)) (lo' := 0) (hi' := 1) (by decide) (by decide))) ⟨⟨rfl, rfl⟩, (x_rgw (x_rgc (x := 1) (k := 1) (by decide)) (lo' := 0) (hi' := 1) (by decide) (by decide)), hI⟩) (Nat.le_refl 0) (Nat.le_refl 0)
-- X3_lowerRegister
def e_X3_lowerRegister_1 : List xI := [(0, .aload_n 0, 1, .null), (1, .getfield 9, 3, .null), (4, .bipush 7, 2, .int 7), (6, .iand, 1, .null)]
theorem e_X3_lowerRegister_1_k : e_X3_lowerRegister_1.all (fun q => xokB cX3_lowerRegister q && xokL q) = true := by decide +kernel
abbrev P_X3_lowerRegister (r : Int32) (M0 : St) (L : Nat → Nat → Int64) : Option Value → xG → Prop := fun v σ' => PoI r M0 L v σ' ∧ xrg 0 7 r ∧ InvK INVC M0
abbrev R_X3_lowerRegister : Room := { frames := 0, cells := 0, slots := 0, locals := 0 }
abbrev C_X3_lowerRegister (l : Launch) (r : Int32) (M0 : St) (L : Nat → Nat → Int64) (V : XJ) : Prop := XC l yX3_lowerRegister.cls yX3_lowerRegister.name cX3_lowerRegister 1 R_X3_lowerRegister 0 0 fl_X3 kc_X3 LAY.length (xfin (some .int) LAY (P_X3_lowerRegister r M0 L)) V
def f_X3_lowerRegister (M : St) : Int32 := ((M 11 0) &&& 7)
set_option maxRecDepth 20000 in
set_option maxHeartbeats 4000000 in
theorem k_X3_lowerRegister (l : Launch) (M : St) (L : Nat → Nat → Int64) (hI : InvK INVC M) : XM l yX3_lowerRegister cX3_lowerRegister 1 (some .int) R_X3_lowerRegister LAY [.ref 11] (M, L) (P_X3_lowerRegister (f_X3_lowerRegister M) M L) := by
  refine XM.of (by decide) (Nat.le_of_ble_eq_true rfl) LAY_in cl_ok fl_X3_ok kc_X3_ok (fun V C => ?_)
  obtain ⟨r, h⟩ : ∃ r, f_X3_lowerRegister M = r := ⟨_, rfl⟩
  rw [h] at C
  change C_X3_lowerRegister l r M L V at C
  unfold f_X3_lowerRegister at h
  show V 0 0 0 [(0, .ref 11)] [] LAY (M, L)
  refine x_run C e_X3_lowerRegister_1 e_X3_lowerRegister_1_k (pc' := 7) (lv' := [(0, .ref 11)]) (st' := [.int ((M 11 0) &&& 7)]) (σ' := (M, L)) rfl ⟨trivial, trivial, trivial, trivial, trivial⟩ ?_
  subst h
  exact x_iret C (show decode cX3_lowerRegister 7 = .ok (.ireturn, 1) from by decide +kernel) (x_finI rfl ⟨⟨rfl, rfl⟩, (x_rg_and (x := (M 11 0)) (m := 7) (k := 7) (by decide) (by decide)), hI⟩) (Nat.le_refl 0) (Nat.le_refl 0)
-- X3_ofLastEight
def e_X3_ofLastEight_1 : List xI := [(0, .aload_n 0, 1, .null)]
theorem e_X3_ofLastEight_1_k : e_X3_ofLastEight_1.all (fun q => xokB cX3_ofLastEight q && xokL q) = true := by decide +kernel
abbrev P_X3_ofLastEight (r : Nat) (M0 : St) (L : Nat → Nat → Int64) : Option Value → xG → Prop := fun v σ' => PoE r M0 L v σ' ∧ r < 66 ∧ InvK INVC M0
abbrev R_X3_ofLastEight : Room := { frames := 1, cells := 0, slots := 0, locals := 20 }
abbrev C_X3_ofLastEight (l : Launch) (r : Nat) (M0 : St) (L : Nat → Nat → Int64) (V : XJ) : Prop := XC l yX3_ofLastEight.cls yX3_ofLastEight.name cX3_ofLastEight 1 R_X3_ofLastEight 0 0 fl_X3 kc_X3 LAY.length (xfin (some (.object "SupervisorMachine$Op")) LAY (P_X3_ofLastEight r M0 L)) V
def f_X3_ofLastEight (M : St) : Nat := (if (f_X3_lowerRegister  M) = 0 then 59 else (if (f_X3_lowerRegister  M) = 1 then 60 else (if (f_X3_lowerRegister  M) = 2 then 61 else (if (f_X3_lowerRegister  M) = 3 then 52 else (if (f_X3_lowerRegister  M) = 4 then 65 else (if (f_X3_lowerRegister  M) = 5 then 50 else (if (f_X3_lowerRegister  M) = 6 then 54 else (if (f_X3_lowerRegister  M) = 7 then 51 else 65))))))))
set_option maxRecDepth 20000 in
set_option maxHeartbeats 4000000 in
theorem k_X3_ofLastEight (l : Launch) (M : St) (L : Nat → Nat → Int64) (hI : InvK INVC M) : XM l yX3_ofLastEight cX3_ofLastEight 1 (some (.object "SupervisorMachine$Op")) R_X3_ofLastEight LAY [.ref 11] (M, L) (P_X3_ofLastEight (f_X3_ofLastEight M) M L) := by
  refine XM.of (by decide) (Nat.le_of_ble_eq_true rfl) LAY_in cl_ok fl_X3_ok kc_X3_ok (fun V C => ?_)
  obtain ⟨r, h⟩ : ∃ r, f_X3_ofLastEight M = r := ⟨_, rfl⟩
  rw [h] at C
  change C_X3_ofLastEight l r M L V at C
  unfold f_X3_ofLastEight at h
  show V 0 0 0 [(0, .ref 11)] [] LAY (M, L)
  refine x_run C e_X3_ofLastEight_1 e_X3_ofLastEight_1_k (pc' := 1) (lv' := [(0, .ref 11)]) (st' := [.ref 11]) (σ' := (M, L)) rfl ⟨trivial, trivial⟩ ?_
  refine x_callV C (k := 11) (ci := 2) (rest := []) (avs := []) (k_X3_lowerRegister l  M L hI) yoX3_lowerRegister ml_X3_154 rfl rfl rfl rfl ⟨Nat.zero_le _, Nat.zero_le _⟩ (show decode cX3_ofLastEight 1 = .ok (.invokevirtual 154, 3) from by decide +kernel) rfl (fun v σ' hPo => ?_)
  obtain ⟨⟨rfl, rfl⟩, g2, hI3⟩ := hPo
  show V 0 0 4 [(0, .ref 11)] [.int (f_X3_lowerRegister  M)] LAY (M, L)
  by_cases c4 : (f_X3_lowerRegister  M) = 0
  · rw [if_pos c4] at h
    refine x_tin C (show decode cX3_ofLastEight 4 = .ok (.tableswitch 76 0 7 #[48, 52, 56, 60, 76, 64, 68, 72], 48) from by decide +kernel) 0 c4 (off := 48) (tgt := 52) (by decide) ?_
    refine x_getE C 59 (by decide) (x_in 765 (by decide +kernel) rfl) (show decode cX3_ofLastEight 52 = .ok (.getstatic 322, 3) from by decide +kernel) ?_
    subst h
    exact x_aret C (show decode cX3_ofLastEight 55 = .ok (.areturn, 1) from by decide +kernel) (x_finE ⟨⟨rfl, rfl⟩, (show 59 < 66 by decide), hI⟩) (Nat.le_refl 0) (Nat.le_refl 0)
  rw [if_neg c4] at h
  by_cases c5 : (f_X3_lowerRegister  M) = 1
  · rw [if_pos c5] at h
    refine x_tin C (show decode cX3_ofLastEight 4 = .ok (.tableswitch 76 0 7 #[48, 52, 56, 60, 76, 64, 68, 72], 48) from by decide +kernel) 1 c5 (off := 52) (tgt := 56) (by decide) ?_
    refine x_getE C 60 (by decide) (x_in 767 (by decide +kernel) rfl) (show decode cX3_ofLastEight 56 = .ok (.getstatic 325, 3) from by decide +kernel) ?_
    subst h
    exact x_aret C (show decode cX3_ofLastEight 59 = .ok (.areturn, 1) from by decide +kernel) (x_finE ⟨⟨rfl, rfl⟩, (show 60 < 66 by decide), hI⟩) (Nat.le_refl 0) (Nat.le_refl 0)
  rw [if_neg c5] at h
  by_cases c6 : (f_X3_lowerRegister  M) = 2
  · rw [if_pos c6] at h
    refine x_tin C (show decode cX3_ofLastEight 4 = .ok (.tableswitch 76 0 7 #[48, 52, 56, 60, 76, 64, 68, 72], 48) from by decide +kernel) 2 c6 (off := 56) (tgt := 60) (by decide) ?_
    refine x_getE C 61 (by decide) (x_in 768 (by decide +kernel) rfl) (show decode cX3_ofLastEight 60 = .ok (.getstatic 328, 3) from by decide +kernel) ?_
    subst h
    exact x_aret C (show decode cX3_ofLastEight 63 = .ok (.areturn, 1) from by decide +kernel) (x_finE ⟨⟨rfl, rfl⟩, (show 61 < 66 by decide), hI⟩) (Nat.le_refl 0) (Nat.le_refl 0)
  rw [if_neg c6] at h
  by_cases c7 : (f_X3_lowerRegister  M) = 3
  · rw [if_pos c7] at h
    refine x_tin C (show decode cX3_ofLastEight 4 = .ok (.tableswitch 76 0 7 #[48, 52, 56, 60, 76, 64, 68, 72], 48) from by decide +kernel) 3 c7 (off := 60) (tgt := 64) (by decide) ?_
    refine x_getE C 52 (by decide) (x_in 770 (by decide +kernel) rfl) (show decode cX3_ofLastEight 64 = .ok (.getstatic 331, 3) from by decide +kernel) ?_
    subst h
    exact x_aret C (show decode cX3_ofLastEight 67 = .ok (.areturn, 1) from by decide +kernel) (x_finE ⟨⟨rfl, rfl⟩, (show 52 < 66 by decide), hI⟩) (Nat.le_refl 0) (Nat.le_refl 0)
  rw [if_neg c7] at h
  by_cases c8 : (f_X3_lowerRegister  M) = 4
  · rw [if_pos c8] at h
    refine x_tin C (show decode cX3_ofLastEight 4 = .ok (.tableswitch 76 0 7 #[48, 52, 56, 60, 76, 64, 68, 72], 48) from by decide +kernel) 4 c8 (off := 76) (tgt := 80) (by decide) ?_
    refine x_getE C 65 (by decide) (x_in 678 (by decide +kernel) rfl) (show decode cX3_ofLastEight 80 = .ok (.getstatic 108, 3) from by decide +kernel) ?_
    subst h
    exact x_aret C (show decode cX3_ofLastEight 83 = .ok (.areturn, 1) from by decide +kernel) (x_finE ⟨⟨rfl, rfl⟩, (show 65 < 66 by decide), hI⟩) (Nat.le_refl 0) (Nat.le_refl 0)
  rw [if_neg c8] at h
  by_cases c9 : (f_X3_lowerRegister  M) = 5
  · rw [if_pos c9] at h
    refine x_tin C (show decode cX3_ofLastEight 4 = .ok (.tableswitch 76 0 7 #[48, 52, 56, 60, 76, 64, 68, 72], 48) from by decide +kernel) 5 c9 (off := 64) (tgt := 68) (by decide) ?_
    refine x_getE C 50 (by decide) (x_in 772 (by decide +kernel) rfl) (show decode cX3_ofLastEight 68 = .ok (.getstatic 334, 3) from by decide +kernel) ?_
    subst h
    exact x_aret C (show decode cX3_ofLastEight 71 = .ok (.areturn, 1) from by decide +kernel) (x_finE ⟨⟨rfl, rfl⟩, (show 50 < 66 by decide), hI⟩) (Nat.le_refl 0) (Nat.le_refl 0)
  rw [if_neg c9] at h
  by_cases c10 : (f_X3_lowerRegister  M) = 6
  · rw [if_pos c10] at h
    refine x_tin C (show decode cX3_ofLastEight 4 = .ok (.tableswitch 76 0 7 #[48, 52, 56, 60, 76, 64, 68, 72], 48) from by decide +kernel) 6 c10 (off := 68) (tgt := 72) (by decide) ?_
    refine x_getE C 54 (by decide) (x_in 774 (by decide +kernel) rfl) (show decode cX3_ofLastEight 72 = .ok (.getstatic 337, 3) from by decide +kernel) ?_
    subst h
    exact x_aret C (show decode cX3_ofLastEight 75 = .ok (.areturn, 1) from by decide +kernel) (x_finE ⟨⟨rfl, rfl⟩, (show 54 < 66 by decide), hI⟩) (Nat.le_refl 0) (Nat.le_refl 0)
  rw [if_neg c10] at h
  by_cases c11 : (f_X3_lowerRegister  M) = 7
  · rw [if_pos c11] at h
    refine x_tin C (show decode cX3_ofLastEight 4 = .ok (.tableswitch 76 0 7 #[48, 52, 56, 60, 76, 64, 68, 72], 48) from by decide +kernel) 7 c11 (off := 72) (tgt := 76) (by decide) ?_
    refine x_getE C 51 (by decide) (x_in 776 (by decide +kernel) rfl) (show decode cX3_ofLastEight 76 = .ok (.getstatic 340, 3) from by decide +kernel) ?_
    subst h
    exact x_aret C (show decode cX3_ofLastEight 79 = .ok (.areturn, 1) from by decide +kernel) (x_finE ⟨⟨rfl, rfl⟩, (show 51 < 66 by decide), hI⟩) (Nat.le_refl 0) (Nat.le_refl 0)
  rw [if_neg c11] at h
  have hz : (f_X3_lowerRegister  M).toInt < 0 ∨ 7 < (f_X3_lowerRegister  M).toInt := by
    have zc4 := lv_neT (a := 0) c4 (by decide)
    have zc5 := lv_neT (a := 1) c5 (by decide)
    have zc6 := lv_neT (a := 2) c6 (by decide)
    have zc7 := lv_neT (a := 3) c7 (by decide)
    have zc8 := lv_neT (a := 4) c8 (by decide)
    have zc9 := lv_neT (a := 5) c9 (by decide)
    have zc10 := lv_neT (a := 6) c10 (by decide)
    have zc11 := lv_neT (a := 7) c11 (by decide)
    omega
  refine x_tout C (show decode cX3_ofLastEight 4 = .ok (.tableswitch 76 0 7 #[48, 52, 56, 60, 76, 64, 68, 72], 48) from by decide +kernel) hz (tgt := 80) (by decide) ?_
  refine x_getE C 65 (by decide) (x_in 678 (by decide +kernel) rfl) (show decode cX3_ofLastEight 80 = .ok (.getstatic 108, 3) from by decide +kernel) ?_
  subst h
  exact x_aret C (show decode cX3_ofLastEight 83 = .ok (.areturn, 1) from by decide +kernel) (x_finE ⟨⟨rfl, rfl⟩, (show 65 < 66 by decide), hI⟩) (Nat.le_refl 0) (Nat.le_refl 0)
-- X3_withoutOperands
def e_X3_withoutOperands_1 : List xI := [(0, .aload_n 0, 1, .null)]
theorem e_X3_withoutOperands_1_k : e_X3_withoutOperands_1.all (fun q => xokB cX3_withoutOperands q && xokL q) = true := by decide +kernel
def e_X3_withoutOperands_2 : List xI := [(68, .aload_n 0, 1, .null)]
theorem e_X3_withoutOperands_2_k : e_X3_withoutOperands_2.all (fun q => xokB cX3_withoutOperands q && xokL q) = true := by decide +kernel
abbrev P_X3_withoutOperands (r : Nat) (M0 : St) (L : Nat → Nat → Int64) : Option Value → xG → Prop := fun v σ' => PoE r M0 L v σ' ∧ r < 66 ∧ InvK INVC M0
abbrev R_X3_withoutOperands : Room := { frames := 2, cells := 0, slots := 0, locals := 40 }
abbrev C_X3_withoutOperands (l : Launch) (r : Nat) (M0 : St) (L : Nat → Nat → Int64) (V : XJ) : Prop := XC l yX3_withoutOperands.cls yX3_withoutOperands.name cX3_withoutOperands 1 R_X3_withoutOperands 0 0 fl_X3 kc_X3 LAY.length (xfin (some (.object "SupervisorMachine$Op")) LAY (P_X3_withoutOperands r M0 L)) V
def f_X3_withoutOperands (M : St) : Nat := (if (f_X3_mode  M) = 0 then 53 else (if (f_X3_mode  M) = 1 then 53 else (if (f_X3_mode  M) = 2 then 55 else (if (f_X3_mode  M) = 3 then 56 else (if (f_X3_mode  M) = 4 then 57 else (if (f_X3_mode  M) = 5 then 58 else (if (f_X3_mode  M) = 6 then (f_X3_ofLastEight  M) else 65)))))))
set_option maxRecDepth 20000 in
set_option maxHeartbeats 4000000 in
theorem k_X3_withoutOperands (l : Launch) (M : St) (L : Nat → Nat → Int64) (hI : InvK INVC M) : XM l yX3_withoutOperands cX3_withoutOperands 1 (some (.object "SupervisorMachine$Op")) R_X3_withoutOperands LAY [.ref 11] (M, L) (P_X3_withoutOperands (f_X3_withoutOperands M) M L) := by
  refine XM.of (by decide) (Nat.le_of_ble_eq_true rfl) LAY_in cl_ok fl_X3_ok kc_X3_ok (fun V C => ?_)
  obtain ⟨r, h⟩ : ∃ r, f_X3_withoutOperands M = r := ⟨_, rfl⟩
  rw [h] at C
  change C_X3_withoutOperands l r M L V at C
  unfold f_X3_withoutOperands at h
  show V 0 0 0 [(0, .ref 11)] [] LAY (M, L)
  refine x_run C e_X3_withoutOperands_1 e_X3_withoutOperands_1_k (pc' := 1) (lv' := [(0, .ref 11)]) (st' := [.ref 11]) (σ' := (M, L)) rfl ⟨trivial, trivial⟩ ?_
  refine x_callV C (k := 11) (ci := 2) (rest := []) (avs := []) (k_X3_mode l  M L hI) yoX3_mode ml_X3_151 rfl rfl rfl rfl ⟨Nat.zero_le _, Nat.zero_le _⟩ (show decode cX3_withoutOperands 1 = .ok (.invokevirtual 151, 3) from by decide +kernel) rfl (fun v σ' hPo => ?_)
  obtain ⟨⟨rfl, rfl⟩, g2, hI3⟩ := hPo
  show V 0 0 4 [(0, .ref 11)] [.int (f_X3_mode  M)] LAY (M, L)
  by_cases c4 : (f_X3_mode  M) = 0
  · rw [if_pos c4] at h
    refine x_tin C (show decode cX3_withoutOperands 4 = .ok (.tableswitch 69 0 6 #[44, 44, 48, 52, 56, 60, 64], 44) from by decide +kernel) 0 c4 (off := 44) (tgt := 48) (by decide) ?_
    refine x_getE C 53 (by decide) (x_in 747 (by decide +kernel) rfl) (show decode cX3_withoutOperands 48 = .ok (.getstatic 304, 3) from by decide +kernel) ?_
    subst h
    exact x_aret C (show decode cX3_withoutOperands 51 = .ok (.areturn, 1) from by decide +kernel) (x_finE ⟨⟨rfl, rfl⟩, (show 53 < 66 by decide), hI⟩) (Nat.le_refl 0) (Nat.le_refl 0)
  rw [if_neg c4] at h
  by_cases c5 : (f_X3_mode  M) = 1
  · rw [if_pos c5] at h
    refine x_tin C (show decode cX3_withoutOperands 4 = .ok (.tableswitch 69 0 6 #[44, 44, 48, 52, 56, 60, 64], 44) from by decide +kernel) 1 c5 (off := 44) (tgt := 48) (by decide) ?_
    refine x_getE C 53 (by decide) (x_in 747 (by decide +kernel) rfl) (show decode cX3_withoutOperands 48 = .ok (.getstatic 304, 3) from by decide +kernel) ?_
    subst h
    exact x_aret C (show decode cX3_withoutOperands 51 = .ok (.areturn, 1) from by decide +kernel) (x_finE ⟨⟨rfl, rfl⟩, (show 53 < 66 by decide), hI⟩) (Nat.le_refl 0) (Nat.le_refl 0)
  rw [if_neg c5] at h
  by_cases c6 : (f_X3_mode  M) = 2
  · rw [if_pos c6] at h
    refine x_tin C (show decode cX3_withoutOperands 4 = .ok (.tableswitch 69 0 6 #[44, 44, 48, 52, 56, 60, 64], 44) from by decide +kernel) 2 c6 (off := 48) (tgt := 52) (by decide) ?_
    refine x_getE C 55 (by decide) (x_in 749 (by decide +kernel) rfl) (show decode cX3_withoutOperands 52 = .ok (.getstatic 307, 3) from by decide +kernel) ?_
    subst h
    exact x_aret C (show decode cX3_withoutOperands 55 = .ok (.areturn, 1) from by decide +kernel) (x_finE ⟨⟨rfl, rfl⟩, (show 55 < 66 by decide), hI⟩) (Nat.le_refl 0) (Nat.le_refl 0)
  rw [if_neg c6] at h
  by_cases c7 : (f_X3_mode  M) = 3
  · rw [if_pos c7] at h
    refine x_tin C (show decode cX3_withoutOperands 4 = .ok (.tableswitch 69 0 6 #[44, 44, 48, 52, 56, 60, 64], 44) from by decide +kernel) 3 c7 (off := 52) (tgt := 56) (by decide) ?_
    refine x_getE C 56 (by decide) (x_in 751 (by decide +kernel) rfl) (show decode cX3_withoutOperands 56 = .ok (.getstatic 310, 3) from by decide +kernel) ?_
    subst h
    exact x_aret C (show decode cX3_withoutOperands 59 = .ok (.areturn, 1) from by decide +kernel) (x_finE ⟨⟨rfl, rfl⟩, (show 56 < 66 by decide), hI⟩) (Nat.le_refl 0) (Nat.le_refl 0)
  rw [if_neg c7] at h
  by_cases c8 : (f_X3_mode  M) = 4
  · rw [if_pos c8] at h
    refine x_tin C (show decode cX3_withoutOperands 4 = .ok (.tableswitch 69 0 6 #[44, 44, 48, 52, 56, 60, 64], 44) from by decide +kernel) 4 c8 (off := 56) (tgt := 60) (by decide) ?_
    refine x_getE C 57 (by decide) (x_in 753 (by decide +kernel) rfl) (show decode cX3_withoutOperands 60 = .ok (.getstatic 313, 3) from by decide +kernel) ?_
    subst h
    exact x_aret C (show decode cX3_withoutOperands 63 = .ok (.areturn, 1) from by decide +kernel) (x_finE ⟨⟨rfl, rfl⟩, (show 57 < 66 by decide), hI⟩) (Nat.le_refl 0) (Nat.le_refl 0)
  rw [if_neg c8] at h
  by_cases c9 : (f_X3_mode  M) = 5
  · rw [if_pos c9] at h
    refine x_tin C (show decode cX3_withoutOperands 4 = .ok (.tableswitch 69 0 6 #[44, 44, 48, 52, 56, 60, 64], 44) from by decide +kernel) 5 c9 (off := 60) (tgt := 64) (by decide) ?_
    refine x_getE C 58 (by decide) (x_in 755 (by decide +kernel) rfl) (show decode cX3_withoutOperands 64 = .ok (.getstatic 316, 3) from by decide +kernel) ?_
    subst h
    exact x_aret C (show decode cX3_withoutOperands 67 = .ok (.areturn, 1) from by decide +kernel) (x_finE ⟨⟨rfl, rfl⟩, (show 58 < 66 by decide), hI⟩) (Nat.le_refl 0) (Nat.le_refl 0)
  rw [if_neg c9] at h
  by_cases c10 : (f_X3_mode  M) = 6
  · rw [if_pos c10] at h
    refine x_tin C (show decode cX3_withoutOperands 4 = .ok (.tableswitch 69 0 6 #[44, 44, 48, 52, 56, 60, 64], 44) from by decide +kernel) 6 c10 (off := 64) (tgt := 68) (by decide) ?_
    refine x_run C e_X3_withoutOperands_2 e_X3_withoutOperands_2_k (pc' := 69) (lv' := [(0, .ref 11)]) (st' := [.ref 11]) (σ' := (M, L)) rfl ⟨trivial, trivial⟩ ?_
    refine x_callV C (k := 11) (ci := 2) (rest := []) (avs := []) (k_X3_ofLastEight l  M L hI) yoX3_ofLastEight ml_X3_319 rfl rfl rfl rfl ⟨Nat.zero_le _, Nat.zero_le _⟩ (show decode cX3_withoutOperands 69 = .ok (.invokevirtual 319, 3) from by decide +kernel) rfl (fun v σ' hPo => ?_)
    obtain ⟨⟨rfl, rfl⟩, g12, hI13⟩ := hPo
    show V 0 0 72 [(0, .ref 11)] [.ref (1000 + (f_X3_ofLastEight  M))] LAY (M, L)
    subst h
    exact x_aret C (show decode cX3_withoutOperands 72 = .ok (.areturn, 1) from by decide +kernel) (x_finE ⟨⟨rfl, rfl⟩, g12, hI⟩) (Nat.le_refl 0) (Nat.le_refl 0)
  rw [if_neg c10] at h
  have hz : (f_X3_mode  M).toInt < 0 ∨ 6 < (f_X3_mode  M).toInt := by
    have zc4 := lv_neT (a := 0) c4 (by decide)
    have zc5 := lv_neT (a := 1) c5 (by decide)
    have zc6 := lv_neT (a := 2) c6 (by decide)
    have zc7 := lv_neT (a := 3) c7 (by decide)
    have zc8 := lv_neT (a := 4) c8 (by decide)
    have zc9 := lv_neT (a := 5) c9 (by decide)
    have zc10 := lv_neT (a := 6) c10 (by decide)
    omega
  refine x_tout C (show decode cX3_withoutOperands 4 = .ok (.tableswitch 69 0 6 #[44, 44, 48, 52, 56, 60, 64], 44) from by decide +kernel) hz (tgt := 73) (by decide) ?_
  refine x_getE C 65 (by decide) (x_in 678 (by decide +kernel) rfl) (show decode cX3_withoutOperands 73 = .ok (.getstatic 108, 3) from by decide +kernel) ?_
  subst h
  exact x_aret C (show decode cX3_withoutOperands 76 = .ok (.areturn, 1) from by decide +kernel) (x_finE ⟨⟨rfl, rfl⟩, (show 65 < 66 by decide), hI⟩) (Nat.le_refl 0) (Nat.le_refl 0)
-- X3_ofGroupThree
def e_X3_ofGroupThree_1 : List xI := [(0, .aload_n 0, 1, .null), (1, .getfield 9, 3, .null), (4, .bipush 6, 2, .int 6), (6, .iushr, 1, .null), (7, .bipush 63, 2, .int 63), (9, .iand, 1, .null), (10, .istore_n 1, 1, .null), (11, .aload_n 0, 1, .null)]
theorem e_X3_ofGroupThree_1_k : e_X3_ofGroupThree_1.all (fun q => xokB cX3_ofGroupThree q && xokL q) = true := by decide +kernel
def e_X3_ofGroupThree_2 : List xI := [(18, .istore_n 2, 1, .null), (19, .iload_n 1, 1, .null)]
theorem e_X3_ofGroupThree_2_k : e_X3_ofGroupThree_2.all (fun q => xokB cX3_ofGroupThree q && xokL q) = true := by decide +kernel
def e_X3_ofGroupThree_3 : List xI := [(162, .aload_n 0, 1, .null)]
theorem e_X3_ofGroupThree_3_k : e_X3_ofGroupThree_3.all (fun q => xokB cX3_ofGroupThree q && xokL q) = true := by decide +kernel
def e_X3_ofGroupThree_4 : List xI := [(166, .iconst 1, 1, .int 1), (167, .iload_n 2, 1, .null)]
theorem e_X3_ofGroupThree_4_k : e_X3_ofGroupThree_4.all (fun q => xokB cX3_ofGroupThree q && xokL q) = true := by decide +kernel
def e_X3_ofGroupThree_5 : List xI := [(184, .aload_n 0, 1, .null)]
theorem e_X3_ofGroupThree_5_k : e_X3_ofGroupThree_5.all (fun q => xokB cX3_ofGroupThree q && xokL q) = true := by decide +kernel
def e_X3_ofGroupThree_6 : List xI := [(188, .iconst 1, 1, .int 1), (189, .aload_n 0, 1, .null)]
theorem e_X3_ofGroupThree_6_k : e_X3_ofGroupThree_6.all (fun q => xokB cX3_ofGroupThree q && xokL q) = true := by decide +kernel
def e_X3_ofGroupThree_7 : List xI := [(213, .aload_n 0, 1, .null)]
theorem e_X3_ofGroupThree_7_k : e_X3_ofGroupThree_7.all (fun q => xokB cX3_ofGroupThree q && xokL q) = true := by decide +kernel
def e_X3_ofGroupThree_8 : List xI := [(217, .iconst 1, 1, .int 1), (218, .aload_n 0, 1, .null)]
theorem e_X3_ofGroupThree_8_k : e_X3_ofGroupThree_8.all (fun q => xokB cX3_ofGroupThree q && xokL q) = true := by decide +kernel
def e_X3_ofGroupThree_9 : List xI := [(242, .aload_n 0, 1, .null)]
theorem e_X3_ofGroupThree_9_k : e_X3_ofGroupThree_9.all (fun q => xokB cX3_ofGroupThree q && xokL q) = true := by decide +kernel
def e_X3_ofGroupThree_10 : List xI := [(246, .iconst 0, 1, .int 0), (247, .iload_n 2, 1, .null)]
theorem e_X3_ofGroupThree_10_k : e_X3_ofGroupThree_10.all (fun q => xokB cX3_ofGroupThree q && xokL q) = true := by decide +kernel
def e_X3_ofGroupThree_11 : List xI := [(265, .aload_n 0, 1, .null)]
theorem e_X3_ofGroupThree_11_k : e_X3_ofGroupThree_11.all (fun q => xokB cX3_ofGroupThree q && xokL q) = true := by decide +kernel
def e_X3_ofGroupThree_12 : List xI := [(269, .iconst 0, 1, .int 0), (270, .iload_n 2, 1, .null)]
theorem e_X3_ofGroupThree_12_k : e_X3_ofGroupThree_12.all (fun q => xokB cX3_ofGroupThree q && xokL q) = true := by decide +kernel
def e_X3_ofGroupThree_13 : List xI := [(275, .aload_n 0, 1, .null)]
theorem e_X3_ofGroupThree_13_k : e_X3_ofGroupThree_13.all (fun q => xokB cX3_ofGroupThree q && xokL q) = true := by decide +kernel
def e_X3_ofGroupThree_14 : List xI := [(294, .aload_n 0, 1, .null)]
theorem e_X3_ofGroupThree_14_k : e_X3_ofGroupThree_14.all (fun q => xokB cX3_ofGroupThree q && xokL q) = true := by decide +kernel
def e_X3_ofGroupThree_15 : List xI := [(298, .iconst 2, 1, .int 2), (299, .aload_n 0, 1, .null)]
theorem e_X3_ofGroupThree_15_k : e_X3_ofGroupThree_15.all (fun q => xokB cX3_ofGroupThree q && xokL q) = true := by decide +kernel
def e_X3_ofGroupThree_16 : List xI := [(282, .aload_n 0, 1, .null)]
theorem e_X3_ofGroupThree_16_k : e_X3_ofGroupThree_16.all (fun q => xokB cX3_ofGroupThree q && xokL q) = true := by decide +kernel
def e_X3_ofGroupThree_17 : List xI := [(286, .iconst 2, 1, .int 2), (287, .iconst 1, 1, .int 1)]
theorem e_X3_ofGroupThree_17_k : e_X3_ofGroupThree_17.all (fun q => xokB cX3_ofGroupThree q && xokL q) = true := by decide +kernel
def e_X3_ofGroupThree_18 : List xI := [(364, .aload_n 0, 1, .null)]
theorem e_X3_ofGroupThree_18_k : e_X3_ofGroupThree_18.all (fun q => xokB cX3_ofGroupThree q && xokL q) = true := by decide +kernel
def e_X3_ofGroupThree_19 : List xI := [(368, .iconst 2, 1, .int 2), (369, .aload_n 0, 1, .null)]
theorem e_X3_ofGroupThree_19_k : e_X3_ofGroupThree_19.all (fun q => xokB cX3_ofGroupThree q && xokL q) = true := by decide +kernel
def e_X3_ofGroupThree_20 : List xI := [(380, .aload_n 0, 1, .null)]
theorem e_X3_ofGroupThree_20_k : e_X3_ofGroupThree_20.all (fun q => xokB cX3_ofGroupThree q && xokL q) = true := by decide +kernel
def e_X3_ofGroupThree_21 : List xI := [(384, .iconst 2, 1, .int 2), (385, .aload_n 0, 1, .null)]
theorem e_X3_ofGroupThree_21_k : e_X3_ofGroupThree_21.all (fun q => xokB cX3_ofGroupThree q && xokL q) = true := by decide +kernel
def e_X3_ofGroupThree_22 : List xI := [(396, .aload_n 0, 1, .null)]
theorem e_X3_ofGroupThree_22_k : e_X3_ofGroupThree_22.all (fun q => xokB cX3_ofGroupThree q && xokL q) = true := by decide +kernel
def e_X3_ofGroupThree_23 : List xI := [(152, .aload_n 0, 1, .null)]
theorem e_X3_ofGroupThree_23_k : e_X3_ofGroupThree_23.all (fun q => xokB cX3_ofGroupThree q && xokL q) = true := by decide +kernel
def e_X3_ofGroupThree_24 : List xI := [(156, .iload_n 1, 1, .null), (157, .iload_n 2, 1, .null)]
theorem e_X3_ofGroupThree_24_k : e_X3_ofGroupThree_24.all (fun q => xokB cX3_ofGroupThree q && xokL q) = true := by decide +kernel
def e_X3_ofGroupThree_25 : List xI := [(172, .aload_n 0, 1, .null)]
theorem e_X3_ofGroupThree_25_k : e_X3_ofGroupThree_25.all (fun q => xokB cX3_ofGroupThree q && xokL q) = true := by decide +kernel
def e_X3_ofGroupThree_26 : List xI := [(176, .iload_n 1, 1, .null), (177, .iconst 4, 1, .int 4), (178, .isub, 1, .null), (179, .iload_n 2, 1, .null)]
theorem e_X3_ofGroupThree_26_k : e_X3_ofGroupThree_26.all (fun q => xokB cX3_ofGroupThree q && xokL q) = true := by decide +kernel
def e_X3_ofGroupThree_27 : List xI := [(200, .aload_n 0, 1, .null)]
theorem e_X3_ofGroupThree_27_k : e_X3_ofGroupThree_27.all (fun q => xokB cX3_ofGroupThree q && xokL q) = true := by decide +kernel
def e_X3_ofGroupThree_28 : List xI := [(204, .iload_n 1, 1, .null), (205, .bipush 8, 2, .int 8), (207, .isub, 1, .null), (208, .iload_n 2, 1, .null)]
theorem e_X3_ofGroupThree_28_k : e_X3_ofGroupThree_28.all (fun q => xokB cX3_ofGroupThree q && xokL q) = true := by decide +kernel
def e_X3_ofGroupThree_29 : List xI := [(229, .aload_n 0, 1, .null)]
theorem e_X3_ofGroupThree_29_k : e_X3_ofGroupThree_29.all (fun q => xokB cX3_ofGroupThree q && xokL q) = true := by decide +kernel
def e_X3_ofGroupThree_30 : List xI := [(233, .iload_n 1, 1, .null), (234, .bipush 12, 2, .int 12), (236, .isub, 1, .null), (237, .iload_n 2, 1, .null)]
theorem e_X3_ofGroupThree_30_k : e_X3_ofGroupThree_30.all (fun q => xokB cX3_ofGroupThree q && xokL q) = true := by decide +kernel
def e_X3_ofGroupThree_31 : List xI := [(252, .aload_n 0, 1, .null)]
theorem e_X3_ofGroupThree_31_k : e_X3_ofGroupThree_31.all (fun q => xokB cX3_ofGroupThree q && xokL q) = true := by decide +kernel
def e_X3_ofGroupThree_32 : List xI := [(256, .iload_n 1, 1, .null), (257, .bipush 16, 2, .int 16), (259, .isub, 1, .null), (260, .iload_n 2, 1, .null)]
theorem e_X3_ofGroupThree_32_k : e_X3_ofGroupThree_32.all (fun q => xokB cX3_ofGroupThree q && xokL q) = true := by decide +kernel
def e_X3_ofGroupThree_33 : List xI := [(310, .aload_n 0, 1, .null)]
theorem e_X3_ofGroupThree_33_k : e_X3_ofGroupThree_33.all (fun q => xokB cX3_ofGroupThree q && xokL q) = true := by decide +kernel
def e_X3_ofGroupThree_34 : List xI := [(332, .aload_n 0, 1, .null)]
theorem e_X3_ofGroupThree_34_k : e_X3_ofGroupThree_34.all (fun q => xokB cX3_ofGroupThree q && xokL q) = true := by decide +kernel
def e_X3_ofGroupThree_35 : List xI := [(336, .iload_n 1, 1, .null), (337, .bipush 20, 2, .int 20), (339, .isub, 1, .null), (340, .aload_n 0, 1, .null)]
theorem e_X3_ofGroupThree_35_k : e_X3_ofGroupThree_35.all (fun q => xokB cX3_ofGroupThree q && xokL q) = true := by decide +kernel
def e_X3_ofGroupThree_36 : List xI := [(317, .aload_n 0, 1, .null)]
theorem e_X3_ofGroupThree_36_k : e_X3_ofGroupThree_36.all (fun q => xokB cX3_ofGroupThree q && xokL q) = true := by decide +kernel
def e_X3_ofGroupThree_37 : List xI := [(321, .iload_n 1, 1, .null), (322, .bipush 20, 2, .int 20), (324, .isub, 1, .null), (325, .iconst 1, 1, .int 1)]
theorem e_X3_ofGroupThree_37_k : e_X3_ofGroupThree_37.all (fun q => xokB cX3_ofGroupThree q && xokL q) = true := by decide +kernel
def e_X3_ofGroupThree_38 : List xI := [(348, .aload_n 0, 1, .null)]
theorem e_X3_ofGroupThree_38_k : e_X3_ofGroupThree_38.all (fun q => xokB cX3_ofGroupThree q && xokL q) = true := by decide +kernel
def e_X3_ofGroupThree_39 : List xI := [(352, .iload_n 1, 1, .null), (353, .bipush 23, 2, .int 23), (355, .isub, 1, .null), (356, .aload_n 0, 1, .null)]
theorem e_X3_ofGroupThree_39_k : e_X3_ofGroupThree_39.all (fun q => xokB cX3_ofGroupThree q && xokL q) = true := by decide +kernel
abbrev P_X3_ofGroupThree (r : Nat × St) (L : Nat → Nat → Int64) : Option Value → xG → Prop := fun v σ' => PoE r.1 r.2 L v σ' ∧ r.1 < 66 ∧ InvK INVC r.2
abbrev R_X3_ofGroupThree : Room := { frames := 3, cells := 0, slots := 0, locals := 62 }
abbrev C_X3_ofGroupThree (l : Launch) (r : Nat × St) (L : Nat → Nat → Int64) (V : XJ) : Prop := XC l yX3_ofGroupThree.cls yX3_ofGroupThree.name cX3_ofGroupThree 3 R_X3_ofGroupThree 0 0 fl_X3 kc_X3 LAY.length (xfin (some (.object "SupervisorMachine$Op")) LAY (P_X3_ofGroupThree r L)) V
def f_X3_ofGroupThree_152 (x1 : Int32) (x2 : Int32) (M : St) : Nat × St := (xb (f_X3_single 30 x1 x2 M) fun q102 => (q102.1, q102.2))
def f_X3_ofGroupThree_172 (x1 : Int32) (x2 : Int32) (M : St) : Nat × St := (xb (f_X3_single 32 (x1 - 4) x2 M) fun q105 => (q105.1, q105.2))
def f_X3_ofGroupThree_200 (x1 : Int32) (x2 : Int32) (M : St) : Nat × St := (xb (f_X3_single 29 (x1 - 8) x2 M) fun q108 => (q108.1, q108.2))
def f_X3_ofGroupThree_229 (x1 : Int32) (x2 : Int32) (M : St) : Nat × St := (xb (f_X3_single 33 (x1 - 12) x2 M) fun q111 => (q111.1, q111.2))
def f_X3_ofGroupThree_252 (x1 : Int32) (x2 : Int32) (M : St) : Nat × St := (xb (f_X3_single 34 (x1 - 16) x2 M) fun q114 => (q114.1, q114.2))
def f_X3_ofGroupThree_310 (x1 : Int32) (M : St) : Nat × St := (if (f_X3_mode  M) = 0 then (xb (f_X3_single 41 (x1 - 20) 1 M) fun q129 => (q129.1, q129.2)) else (xb (f_X3_single 42 (x1 - 20) (f_X3_isRowToStore  M) M) fun q125 => (q125.1, q125.2)))
def f_X3_ofGroupThree_348 (x1 : Int32) (M : St) : Nat × St := (xb (f_X3_single 43 (x1 - 23) (f_X3_isRowToLoad  M) M) fun q135 => (q135.1, q135.2))
def f_X3_ofGroupThree (M : St) : Nat × St := (if ((ius (M 11 0) 6) &&& 63) = 0 then f_X3_ofGroupThree_152 ((ius (M 11 0) 6) &&& 63) (f_X9_isOpenData (f_X3_operand  M)) M else (if ((ius (M 11 0) 6) &&& 63) = 1 then f_X3_ofGroupThree_152 ((ius (M 11 0) 6) &&& 63) (f_X9_isOpenData (f_X3_operand  M)) M else (if ((ius (M 11 0) 6) &&& 63) = 2 then f_X3_ofGroupThree_152 ((ius (M 11 0) 6) &&& 63) (f_X9_isOpenData (f_X3_operand  M)) M else (if ((ius (M 11 0) 6) &&& 63) = 3 then (xb (f_X3_single 37 1 (f_X9_isOpenData (f_X3_operand  M)) M) fun q11 => (q11.1, q11.2)) else (if ((ius (M 11 0) 6) &&& 63) = 4 then f_X3_ofGroupThree_172 ((ius (M 11 0) 6) &&& 63) (f_X9_isOpenData (f_X3_operand  M)) M else (if ((ius (M 11 0) 6) &&& 63) = 5 then f_X3_ofGroupThree_172 ((ius (M 11 0) 6) &&& 63) (f_X9_isOpenData (f_X3_operand  M)) M else (if ((ius (M 11 0) 6) &&& 63) = 6 then f_X3_ofGroupThree_172 ((ius (M 11 0) 6) &&& 63) (f_X9_isOpenData (f_X3_operand  M)) M else (if ((ius (M 11 0) 6) &&& 63) = 7 then (xb (f_X3_single 38 1 (f_X9_isData (f_X3_operand  M)) M) fun q24 => (q24.1, q24.2)) else (if ((ius (M 11 0) 6) &&& 63) = 8 then f_X3_ofGroupThree_200 ((ius (M 11 0) 6) &&& 63) (f_X9_isOpenData (f_X3_operand  M)) M else (if ((ius (M 11 0) 6) &&& 63) = 9 then f_X3_ofGroupThree_200 ((ius (M 11 0) 6) &&& 63) (f_X9_isOpenData (f_X3_operand  M)) M else (if ((ius (M 11 0) 6) &&& 63) = 10 then f_X3_ofGroupThree_200 ((ius (M 11 0) 6) &&& 63) (f_X9_isOpenData (f_X3_operand  M)) M else (if ((ius (M 11 0) 6) &&& 63) = 11 then (xb (f_X3_single 39 1 (f_X9_isData (f_X3_operand  M)) M) fun q37 => (q37.1, q37.2)) else (if ((ius (M 11 0) 6) &&& 63) = 12 then f_X3_ofGroupThree_229 ((ius (M 11 0) 6) &&& 63) (f_X9_isOpenData (f_X3_operand  M)) M else (if ((ius (M 11 0) 6) &&& 63) = 13 then f_X3_ofGroupThree_229 ((ius (M 11 0) 6) &&& 63) (f_X9_isOpenData (f_X3_operand  M)) M else (if ((ius (M 11 0) 6) &&& 63) = 14 then f_X3_ofGroupThree_229 ((ius (M 11 0) 6) &&& 63) (f_X9_isOpenData (f_X3_operand  M)) M else (if ((ius (M 11 0) 6) &&& 63) = 15 then (xb (f_X3_single 31 0 (f_X9_isOpenData (f_X3_operand  M)) M) fun q44 => (q44.1, q44.2)) else (if ((ius (M 11 0) 6) &&& 63) = 16 then f_X3_ofGroupThree_252 ((ius (M 11 0) 6) &&& 63) (f_X9_isOpenData (f_X3_operand  M)) M else (if ((ius (M 11 0) 6) &&& 63) = 17 then f_X3_ofGroupThree_252 ((ius (M 11 0) 6) &&& 63) (f_X9_isOpenData (f_X3_operand  M)) M else (if ((ius (M 11 0) 6) &&& 63) = 18 then f_X3_ofGroupThree_252 ((ius (M 11 0) 6) &&& 63) (f_X9_isOpenData (f_X3_operand  M)) M else (if ((ius (M 11 0) 6) &&& 63) = 19 then (xb (f_X3_single 35 0 (f_X9_isOpenData (f_X3_operand  M)) M) fun q51 => (q51.1, q51.2)) else (if ((ius (M 11 0) 6) &&& 63) = 20 then (if (f_X3_mode  M) = 0 then (xb (f_X3_single 40 2 1 M) fun q70 => (q70.1, q70.2)) else (xb (f_X3_single 45 2 (f_X9_isControl (f_X3_operand  M)) M) fun q66 => (q66.1, q66.2))) else (if ((ius (M 11 0) 6) &&& 63) = 21 then f_X3_ofGroupThree_310 ((ius (M 11 0) 6) &&& 63) M else (if ((ius (M 11 0) 6) &&& 63) = 22 then f_X3_ofGroupThree_310 ((ius (M 11 0) 6) &&& 63) M else (if ((ius (M 11 0) 6) &&& 63) = 23 then (65, M) else (if ((ius (M 11 0) 6) &&& 63) = 24 then f_X3_ofGroupThree_348 ((ius (M 11 0) 6) &&& 63) M else (if ((ius (M 11 0) 6) &&& 63) = 25 then f_X3_ofGroupThree_348 ((ius (M 11 0) 6) &&& 63) M else (if ((ius (M 11 0) 6) &&& 63) = 26 then (xb (f_X3_single 46 2 (f_X9_isControl (f_X3_operand  M)) M) fun q85 => (q85.1, q85.2)) else (if ((ius (M 11 0) 6) &&& 63) = 27 then (xb (f_X3_single 47 2 (f_X9_isControl (f_X3_operand  M)) M) fun q95 => (q95.1, q95.2)) else (if ((ius (M 11 0) 6) &&& 63) = 28 then ((f_X3_withoutOperands  M), M) else (65, M))))))))))))))))))))))))))))))
set_option maxRecDepth 20000 in
set_option maxHeartbeats 4000000 in
theorem b_X3_ofGroupThree_152 {l : Launch} {L : Nat → Nat → Int64} {V : XJ} (r : Nat × St) (C : C_X3_ofGroupThree l r L V) (x1 : Int32) (x2 : Int32) (M : St) (wx1 : xrg 0 63 x1) (wx2 : xrg 0 1 x2) (hI : InvK INVC M) (h : f_X3_ofGroupThree_152 x1 x2 M = r) : V 0 0 152 [(0, .ref 11), (1, .int x1), (2, .int x2)] [] LAY (M, L) := by
  unfold f_X3_ofGroupThree_152 at h
  refine x_run C e_X3_ofGroupThree_23 e_X3_ofGroupThree_23_k (pc' := 153) (lv' := [(0, .ref 11), (1, .int x1), (2, .int x2)]) (st' := [.ref 11]) (σ' := (M, L)) rfl ⟨trivial, trivial⟩ ?_
  refine x_getE C 30 (by decide) (x_in 687 (by decide +kernel) rfl) (show decode cX3_ofGroupThree 153 = .ok (.getstatic 243, 3) from by decide +kernel) ?_
  refine x_run C e_X3_ofGroupThree_24 e_X3_ofGroupThree_24_k (pc' := 158) (lv' := [(0, .ref 11), (1, .int x1), (2, .int x2)]) (st' := [.int x2, .int x1, .ref (1000 + 30), .ref 11]) (σ' := (M, L)) rfl ⟨trivial, trivial, trivial⟩ ?_
  refine x_callV C (k := 11) (ci := 2) (rest := []) (avs := [.ref (1000 + 30), .int x1, .int x2]) (k_X3_single l 30 x1 x2 M L (show 30 < 66 by decide) hI) yoX3_single ml_X3_193 rfl rfl rfl rfl ⟨Nat.zero_le _, Nat.zero_le _⟩ (show decode cX3_ofGroupThree 158 = .ok (.invokevirtual 193, 3) from by decide +kernel) rfl (fun v σ' hPo => ?_)
  obtain ⟨⟨rfl, rfl⟩, g103, hI104⟩ := hPo
  generalize hq102 : f_X3_single 30 x1 x2 M = q102 at h g103 hI104 ⊢
  obtain ⟨r102, M102⟩ := q102
  have h := xb_eq h
  try dsimp only at h g103 hI104
  show V 0 0 161 [(0, .ref 11), (1, .int x1), (2, .int x2)] [.ref (1000 + r102)] LAY (M102, L)
  subst h
  exact x_aret C (show decode cX3_ofGroupThree 161 = .ok (.areturn, 1) from by decide +kernel) (x_finE ⟨⟨rfl, rfl⟩, g103, hI104⟩) (Nat.le_refl 0) (Nat.le_refl 0)
set_option maxRecDepth 20000 in
set_option maxHeartbeats 4000000 in
theorem b_X3_ofGroupThree_172 {l : Launch} {L : Nat → Nat → Int64} {V : XJ} (r : Nat × St) (C : C_X3_ofGroupThree l r L V) (x1 : Int32) (x2 : Int32) (M : St) (wx1 : xrg 0 63 x1) (wx2 : xrg 0 1 x2) (hI : InvK INVC M) (h : f_X3_ofGroupThree_172 x1 x2 M = r) : V 0 0 172 [(0, .ref 11), (1, .int x1), (2, .int x2)] [] LAY (M, L) := by
  unfold f_X3_ofGroupThree_172 at h
  refine x_run C e_X3_ofGroupThree_25 e_X3_ofGroupThree_25_k (pc' := 173) (lv' := [(0, .ref 11), (1, .int x1), (2, .int x2)]) (st' := [.ref 11]) (σ' := (M, L)) rfl ⟨trivial, trivial⟩ ?_
  refine x_getE C 32 (by decide) (x_in 695 (by decide +kernel) rfl) (show decode cX3_ofGroupThree 173 = .ok (.getstatic 249, 3) from by decide +kernel) ?_
  refine x_run C e_X3_ofGroupThree_26 e_X3_ofGroupThree_26_k (pc' := 180) (lv' := [(0, .ref 11), (1, .int x1), (2, .int x2)]) (st' := [.int x2, .int (x1 - 4), .ref (1000 + 32), .ref 11]) (σ' := (M, L)) rfl ⟨trivial, trivial, trivial, trivial, trivial⟩ ?_
  refine x_callV C (k := 11) (ci := 2) (rest := []) (avs := [.ref (1000 + 32), .int (x1 - 4), .int x2]) (k_X3_single l 32 (x1 - 4) x2 M L (show 32 < 66 by decide) hI) yoX3_single ml_X3_193 rfl rfl rfl rfl ⟨Nat.zero_le _, Nat.zero_le _⟩ (show decode cX3_ofGroupThree 180 = .ok (.invokevirtual 193, 3) from by decide +kernel) rfl (fun v σ' hPo => ?_)
  obtain ⟨⟨rfl, rfl⟩, g106, hI107⟩ := hPo
  generalize hq105 : f_X3_single 32 (x1 - 4) x2 M = q105 at h g106 hI107 ⊢
  obtain ⟨r105, M105⟩ := q105
  have h := xb_eq h
  try dsimp only at h g106 hI107
  show V 0 0 183 [(0, .ref 11), (1, .int x1), (2, .int x2)] [.ref (1000 + r105)] LAY (M105, L)
  subst h
  exact x_aret C (show decode cX3_ofGroupThree 183 = .ok (.areturn, 1) from by decide +kernel) (x_finE ⟨⟨rfl, rfl⟩, g106, hI107⟩) (Nat.le_refl 0) (Nat.le_refl 0)
set_option maxRecDepth 20000 in
set_option maxHeartbeats 4000000 in
theorem b_X3_ofGroupThree_200 {l : Launch} {L : Nat → Nat → Int64} {V : XJ} (r : Nat × St) (C : C_X3_ofGroupThree l r L V) (x1 : Int32) (x2 : Int32) (M : St) (wx1 : xrg 0 63 x1) (wx2 : xrg 0 1 x2) (hI : InvK INVC M) (h : f_X3_ofGroupThree_200 x1 x2 M = r) : V 0 0 200 [(0, .ref 11), (1, .int x1), (2, .int x2)] [] LAY (M, L) := by
  unfold f_X3_ofGroupThree_200 at h
  refine x_run C e_X3_ofGroupThree_27 e_X3_ofGroupThree_27_k (pc' := 201) (lv' := [(0, .ref 11), (1, .int x1), (2, .int x2)]) (st' := [.ref 11]) (σ' := (M, L)) rfl ⟨trivial, trivial⟩ ?_
  refine x_getE C 29 (by decide) (x_in 702 (by decide +kernel) rfl) (show decode cX3_ofGroupThree 201 = .ok (.getstatic 255, 3) from by decide +kernel) ?_
  refine x_run C e_X3_ofGroupThree_28 e_X3_ofGroupThree_28_k (pc' := 209) (lv' := [(0, .ref 11), (1, .int x1), (2, .int x2)]) (st' := [.int x2, .int (x1 - 8), .ref (1000 + 29), .ref 11]) (σ' := (M, L)) rfl ⟨trivial, trivial, trivial, trivial, trivial⟩ ?_
  refine x_callV C (k := 11) (ci := 2) (rest := []) (avs := [.ref (1000 + 29), .int (x1 - 8), .int x2]) (k_X3_single l 29 (x1 - 8) x2 M L (show 29 < 66 by decide) hI) yoX3_single ml_X3_193 rfl rfl rfl rfl ⟨Nat.zero_le _, Nat.zero_le _⟩ (show decode cX3_ofGroupThree 209 = .ok (.invokevirtual 193, 3) from by decide +kernel) rfl (fun v σ' hPo => ?_)
  obtain ⟨⟨rfl, rfl⟩, g109, hI110⟩ := hPo
  generalize hq108 : f_X3_single 29 (x1 - 8) x2 M = q108 at h g109 hI110 ⊢
  obtain ⟨r108, M108⟩ := q108
  have h := xb_eq h
  try dsimp only at h g109 hI110
  show V 0 0 212 [(0, .ref 11), (1, .int x1), (2, .int x2)] [.ref (1000 + r108)] LAY (M108, L)
  subst h
  exact x_aret C (show decode cX3_ofGroupThree 212 = .ok (.areturn, 1) from by decide +kernel) (x_finE ⟨⟨rfl, rfl⟩, g109, hI110⟩) (Nat.le_refl 0) (Nat.le_refl 0)
set_option maxRecDepth 20000 in
set_option maxHeartbeats 4000000 in
theorem b_X3_ofGroupThree_229 {l : Launch} {L : Nat → Nat → Int64} {V : XJ} (r : Nat × St) (C : C_X3_ofGroupThree l r L V) (x1 : Int32) (x2 : Int32) (M : St) (wx1 : xrg 0 63 x1) (wx2 : xrg 0 1 x2) (hI : InvK INVC M) (h : f_X3_ofGroupThree_229 x1 x2 M = r) : V 0 0 229 [(0, .ref 11), (1, .int x1), (2, .int x2)] [] LAY (M, L) := by
  unfold f_X3_ofGroupThree_229 at h
  refine x_run C e_X3_ofGroupThree_29 e_X3_ofGroupThree_29_k (pc' := 230) (lv' := [(0, .ref 11), (1, .int x1), (2, .int x2)]) (st' := [.ref 11]) (σ' := (M, L)) rfl ⟨trivial, trivial⟩ ?_
  refine x_getE C 33 (by decide) (x_in 706 (by decide +kernel) rfl) (show decode cX3_ofGroupThree 230 = .ok (.getstatic 261, 3) from by decide +kernel) ?_
  refine x_run C e_X3_ofGroupThree_30 e_X3_ofGroupThree_30_k (pc' := 238) (lv' := [(0, .ref 11), (1, .int x1), (2, .int x2)]) (st' := [.int x2, .int (x1 - 12), .ref (1000 + 33), .ref 11]) (σ' := (M, L)) rfl ⟨trivial, trivial, trivial, trivial, trivial⟩ ?_
  refine x_callV C (k := 11) (ci := 2) (rest := []) (avs := [.ref (1000 + 33), .int (x1 - 12), .int x2]) (k_X3_single l 33 (x1 - 12) x2 M L (show 33 < 66 by decide) hI) yoX3_single ml_X3_193 rfl rfl rfl rfl ⟨Nat.zero_le _, Nat.zero_le _⟩ (show decode cX3_ofGroupThree 238 = .ok (.invokevirtual 193, 3) from by decide +kernel) rfl (fun v σ' hPo => ?_)
  obtain ⟨⟨rfl, rfl⟩, g112, hI113⟩ := hPo
  generalize hq111 : f_X3_single 33 (x1 - 12) x2 M = q111 at h g112 hI113 ⊢
  obtain ⟨r111, M111⟩ := q111
  have h := xb_eq h
  try dsimp only at h g112 hI113
  show V 0 0 241 [(0, .ref 11), (1, .int x1), (2, .int x2)] [.ref (1000 + r111)] LAY (M111, L)
  subst h
  exact x_aret C (show decode cX3_ofGroupThree 241 = .ok (.areturn, 1) from by decide +kernel) (x_finE ⟨⟨rfl, rfl⟩, g112, hI113⟩) (Nat.le_refl 0) (Nat.le_refl 0)
set_option maxRecDepth 20000 in
set_option maxHeartbeats 4000000 in
theorem b_X3_ofGroupThree_252 {l : Launch} {L : Nat → Nat → Int64} {V : XJ} (r : Nat × St) (C : C_X3_ofGroupThree l r L V) (x1 : Int32) (x2 : Int32) (M : St) (wx1 : xrg 0 63 x1) (wx2 : xrg 0 1 x2) (hI : InvK INVC M) (h : f_X3_ofGroupThree_252 x1 x2 M = r) : V 0 0 252 [(0, .ref 11), (1, .int x1), (2, .int x2)] [] LAY (M, L) := by
  unfold f_X3_ofGroupThree_252 at h
  refine x_run C e_X3_ofGroupThree_31 e_X3_ofGroupThree_31_k (pc' := 253) (lv' := [(0, .ref 11), (1, .int x1), (2, .int x2)]) (st' := [.ref 11]) (σ' := (M, L)) rfl ⟨trivial, trivial⟩ ?_
  refine x_getE C 34 (by decide) (x_in 710 (by decide +kernel) rfl) (show decode cX3_ofGroupThree 253 = .ok (.getstatic 267, 3) from by decide +kernel) ?_
  refine x_run C e_X3_ofGroupThree_32 e_X3_ofGroupThree_32_k (pc' := 261) (lv' := [(0, .ref 11), (1, .int x1), (2, .int x2)]) (st' := [.int x2, .int (x1 - 16), .ref (1000 + 34), .ref 11]) (σ' := (M, L)) rfl ⟨trivial, trivial, trivial, trivial, trivial⟩ ?_
  refine x_callV C (k := 11) (ci := 2) (rest := []) (avs := [.ref (1000 + 34), .int (x1 - 16), .int x2]) (k_X3_single l 34 (x1 - 16) x2 M L (show 34 < 66 by decide) hI) yoX3_single ml_X3_193 rfl rfl rfl rfl ⟨Nat.zero_le _, Nat.zero_le _⟩ (show decode cX3_ofGroupThree 261 = .ok (.invokevirtual 193, 3) from by decide +kernel) rfl (fun v σ' hPo => ?_)
  obtain ⟨⟨rfl, rfl⟩, g115, hI116⟩ := hPo
  generalize hq114 : f_X3_single 34 (x1 - 16) x2 M = q114 at h g115 hI116 ⊢
  obtain ⟨r114, M114⟩ := q114
  have h := xb_eq h
  try dsimp only at h g115 hI116
  show V 0 0 264 [(0, .ref 11), (1, .int x1), (2, .int x2)] [.ref (1000 + r114)] LAY (M114, L)
  subst h
  exact x_aret C (show decode cX3_ofGroupThree 264 = .ok (.areturn, 1) from by decide +kernel) (x_finE ⟨⟨rfl, rfl⟩, g115, hI116⟩) (Nat.le_refl 0) (Nat.le_refl 0)
set_option maxRecDepth 20000 in
set_option maxHeartbeats 4000000 in
theorem b_X3_ofGroupThree_310 {l : Launch} {L : Nat → Nat → Int64} {V : XJ} (r : Nat × St) (C : C_X3_ofGroupThree l r L V) (x1 : Int32) (M : St) (wx1 : xrg 0 63 x1) (hI : InvK INVC M) (h : f_X3_ofGroupThree_310 x1 M = r) : V 0 0 310 [(0, .ref 11), (1, .int x1)] [] LAY (M, L) := by
  unfold f_X3_ofGroupThree_310 at h
  refine x_run C e_X3_ofGroupThree_33 e_X3_ofGroupThree_33_k (pc' := 311) (lv' := [(0, .ref 11), (1, .int x1)]) (st' := [.ref 11]) (σ' := (M, L)) rfl ⟨trivial, trivial⟩ ?_
  refine x_callV C (k := 11) (ci := 2) (rest := []) (avs := []) (k_X3_mode l  M L hI) yoX3_mode ml_X3_151 rfl rfl rfl rfl ⟨Nat.zero_le _, Nat.zero_le _⟩ (show decode cX3_ofGroupThree 311 = .ok (.invokevirtual 151, 3) from by decide +kernel) rfl (fun v σ' hPo => ?_)
  obtain ⟨⟨rfl, rfl⟩, g118, hI119⟩ := hPo
  show V 0 0 314 [(0, .ref 11), (1, .int x1)] [.int (f_X3_mode  M)] LAY (M, L)
  refine x_if_ne C (show decode cX3_ofGroupThree 314 = .ok (.ifCond .ne 18, 3) from by decide +kernel) (tgt := 332) (by decide) (fun c120 => ?_) (fun c120 => ?_)
  · rw [if_neg c120] at h
    have g121 : xrg 1 7 (f_X3_mode  M) := (x_c_ne g118 (by decide) c120)
    refine x_run C e_X3_ofGroupThree_34 e_X3_ofGroupThree_34_k (pc' := 333) (lv' := [(0, .ref 11), (1, .int x1)]) (st' := [.ref 11]) (σ' := (M, L)) rfl ⟨trivial, trivial⟩ ?_
    refine x_getE C 42 (by decide) (x_in 727 (by decide +kernel) rfl) (show decode cX3_ofGroupThree 333 = .ok (.getstatic 282, 3) from by decide +kernel) ?_
    refine x_run C e_X3_ofGroupThree_35 e_X3_ofGroupThree_35_k (pc' := 341) (lv' := [(0, .ref 11), (1, .int x1)]) (st' := [.ref 11, .int (x1 - 20), .ref (1000 + 42), .ref 11]) (σ' := (M, L)) rfl ⟨trivial, trivial, trivial, trivial, trivial⟩ ?_
    refine x_callV C (k := 11) (ci := 2) (rest := [.int (x1 - 20), .ref (1000 + 42), .ref 11]) (avs := []) (k_X3_isRowToStore l  M L hI) yoX3_isRowToStore ml_X3_285 rfl rfl rfl rfl ⟨Nat.zero_le _, Nat.zero_le _⟩ (show decode cX3_ofGroupThree 341 = .ok (.invokevirtual 285, 3) from by decide +kernel) rfl (fun v σ' hPo => ?_)
    obtain ⟨⟨rfl, rfl⟩, g123, hI124⟩ := hPo
    show V 0 0 344 [(0, .ref 11), (1, .int x1)] [.int (f_X3_isRowToStore  M), .int (x1 - 20), .ref (1000 + 42), .ref 11] LAY (M, L)
    refine x_callV C (k := 11) (ci := 2) (rest := []) (avs := [.ref (1000 + 42), .int (x1 - 20), .int (f_X3_isRowToStore  M)]) (k_X3_single l 42 (x1 - 20) (f_X3_isRowToStore  M) M L (show 42 < 66 by decide) hI) yoX3_single ml_X3_193 rfl rfl rfl rfl ⟨Nat.zero_le _, Nat.zero_le _⟩ (show decode cX3_ofGroupThree 344 = .ok (.invokevirtual 193, 3) from by decide +kernel) rfl (fun v σ' hPo => ?_)
    obtain ⟨⟨rfl, rfl⟩, g126, hI127⟩ := hPo
    generalize hq125 : f_X3_single 42 (x1 - 20) (f_X3_isRowToStore  M) M = q125 at h g126 hI127 ⊢
    obtain ⟨r125, M125⟩ := q125
    have h := xb_eq h
    try dsimp only at h g126 hI127
    show V 0 0 347 [(0, .ref 11), (1, .int x1)] [.ref (1000 + r125)] LAY (M125, L)
    subst h
    exact x_aret C (show decode cX3_ofGroupThree 347 = .ok (.areturn, 1) from by decide +kernel) (x_finE ⟨⟨rfl, rfl⟩, g126, hI127⟩) (Nat.le_refl 0) (Nat.le_refl 0)
  · rw [if_pos c120] at h
    have g128 : xrg 0 0 (f_X3_mode  M) := (x_c_eq g118 (x_rgc (x := 0) (k := 0) (by decide)) c120).1
    refine x_run C e_X3_ofGroupThree_36 e_X3_ofGroupThree_36_k (pc' := 318) (lv' := [(0, .ref 11), (1, .int x1)]) (st' := [.ref 11]) (σ' := (M, L)) rfl ⟨trivial, trivial⟩ ?_
    refine x_getE C 41 (by decide) (x_in 725 (by decide +kernel) rfl) (show decode cX3_ofGroupThree 318 = .ok (.getstatic 279, 3) from by decide +kernel) ?_
    refine x_run C e_X3_ofGroupThree_37 e_X3_ofGroupThree_37_k (pc' := 326) (lv' := [(0, .ref 11), (1, .int x1)]) (st' := [.int 1, .int (x1 - 20), .ref (1000 + 41), .ref 11]) (σ' := (M, L)) rfl ⟨trivial, trivial, trivial, trivial, trivial⟩ ?_
    refine x_callV C (k := 11) (ci := 2) (rest := []) (avs := [.ref (1000 + 41), .int (x1 - 20), .int 1]) (k_X3_single l 41 (x1 - 20) 1 M L (show 41 < 66 by decide) hI) yoX3_single ml_X3_193 rfl rfl rfl rfl ⟨Nat.zero_le _, Nat.zero_le _⟩ (show decode cX3_ofGroupThree 326 = .ok (.invokevirtual 193, 3) from by decide +kernel) rfl (fun v σ' hPo => ?_)
    obtain ⟨⟨rfl, rfl⟩, g130, hI131⟩ := hPo
    generalize hq129 : f_X3_single 41 (x1 - 20) 1 M = q129 at h g130 hI131 ⊢
    obtain ⟨r129, M129⟩ := q129
    have h := xb_eq h
    try dsimp only at h g130 hI131
    show V 0 0 329 [(0, .ref 11), (1, .int x1)] [.ref (1000 + r129)] LAY (M129, L)
    refine x_goto C (show decode cX3_ofGroupThree 329 = .ok (.goto 18, 3) from by decide +kernel) (tgt := 347) (by decide) ?_
    subst h
    exact x_aret C (show decode cX3_ofGroupThree 347 = .ok (.areturn, 1) from by decide +kernel) (x_finE ⟨⟨rfl, rfl⟩, g130, hI131⟩) (Nat.le_refl 0) (Nat.le_refl 0)
set_option maxRecDepth 20000 in
set_option maxHeartbeats 4000000 in
theorem b_X3_ofGroupThree_348 {l : Launch} {L : Nat → Nat → Int64} {V : XJ} (r : Nat × St) (C : C_X3_ofGroupThree l r L V) (x1 : Int32) (M : St) (wx1 : xrg 0 63 x1) (hI : InvK INVC M) (h : f_X3_ofGroupThree_348 x1 M = r) : V 0 0 348 [(0, .ref 11), (1, .int x1)] [] LAY (M, L) := by
  unfold f_X3_ofGroupThree_348 at h
  refine x_run C e_X3_ofGroupThree_38 e_X3_ofGroupThree_38_k (pc' := 349) (lv' := [(0, .ref 11), (1, .int x1)]) (st' := [.ref 11]) (σ' := (M, L)) rfl ⟨trivial, trivial⟩ ?_
  refine x_getE C 43 (by decide) (x_in 733 (by decide +kernel) rfl) (show decode cX3_ofGroupThree 349 = .ok (.getstatic 289, 3) from by decide +kernel) ?_
  refine x_run C e_X3_ofGroupThree_39 e_X3_ofGroupThree_39_k (pc' := 357) (lv' := [(0, .ref 11), (1, .int x1)]) (st' := [.ref 11, .int (x1 - 23), .ref (1000 + 43), .ref 11]) (σ' := (M, L)) rfl ⟨trivial, trivial, trivial, trivial, trivial⟩ ?_
  refine x_callV C (k := 11) (ci := 2) (rest := [.int (x1 - 23), .ref (1000 + 43), .ref 11]) (avs := []) (k_X3_isRowToLoad l  M L hI) yoX3_isRowToLoad ml_X3_292 rfl rfl rfl rfl ⟨Nat.zero_le _, Nat.zero_le _⟩ (show decode cX3_ofGroupThree 357 = .ok (.invokevirtual 292, 3) from by decide +kernel) rfl (fun v σ' hPo => ?_)
  obtain ⟨⟨rfl, rfl⟩, g133, hI134⟩ := hPo
  show V 0 0 360 [(0, .ref 11), (1, .int x1)] [.int (f_X3_isRowToLoad  M), .int (x1 - 23), .ref (1000 + 43), .ref 11] LAY (M, L)
  refine x_callV C (k := 11) (ci := 2) (rest := []) (avs := [.ref (1000 + 43), .int (x1 - 23), .int (f_X3_isRowToLoad  M)]) (k_X3_single l 43 (x1 - 23) (f_X3_isRowToLoad  M) M L (show 43 < 66 by decide) hI) yoX3_single ml_X3_193 rfl rfl rfl rfl ⟨Nat.zero_le _, Nat.zero_le _⟩ (show decode cX3_ofGroupThree 360 = .ok (.invokevirtual 193, 3) from by decide +kernel) rfl (fun v σ' hPo => ?_)
  obtain ⟨⟨rfl, rfl⟩, g136, hI137⟩ := hPo
  generalize hq135 : f_X3_single 43 (x1 - 23) (f_X3_isRowToLoad  M) M = q135 at h g136 hI137 ⊢
  obtain ⟨r135, M135⟩ := q135
  have h := xb_eq h
  try dsimp only at h g136 hI137
  show V 0 0 363 [(0, .ref 11), (1, .int x1)] [.ref (1000 + r135)] LAY (M135, L)
  subst h
  exact x_aret C (show decode cX3_ofGroupThree 363 = .ok (.areturn, 1) from by decide +kernel) (x_finE ⟨⟨rfl, rfl⟩, g136, hI137⟩) (Nat.le_refl 0) (Nat.le_refl 0)
set_option maxRecDepth 20000 in
set_option maxHeartbeats 4000000 in
theorem k_X3_ofGroupThree (l : Launch) (M : St) (L : Nat → Nat → Int64) (hI : InvK INVC M) : XM l yX3_ofGroupThree cX3_ofGroupThree 3 (some (.object "SupervisorMachine$Op")) R_X3_ofGroupThree LAY [.ref 11] (M, L) (P_X3_ofGroupThree (f_X3_ofGroupThree M) L) := by
  refine XM.of (by decide) (Nat.le_of_ble_eq_true rfl) LAY_in cl_ok fl_X3_ok kc_X3_ok (fun V C => ?_)
  obtain ⟨r, h⟩ : ∃ r, f_X3_ofGroupThree M = r := ⟨_, rfl⟩
  rw [h] at C
  change C_X3_ofGroupThree l r L V at C
  unfold f_X3_ofGroupThree at h
  show V 0 0 0 [(0, .ref 11)] [] LAY (M, L)
  refine x_run C e_X3_ofGroupThree_1 e_X3_ofGroupThree_1_k (pc' := 12) (lv' := [(1, .int ((ius (M 11 0) 6) &&& 63)), (0, .ref 11)]) (st' := [.ref 11]) (σ' := (M, L)) rfl ⟨trivial, trivial, trivial, trivial, trivial, trivial, trivial, trivial, trivial⟩ ?_
  refine x_callV C (k := 11) (ci := 2) (rest := []) (avs := []) (k_X3_operand l  M L hI) yoX3_operand ml_X3_111 rfl rfl rfl rfl ⟨Nat.zero_le _, Nat.zero_le _⟩ (show decode cX3_ofGroupThree 12 = .ok (.invokevirtual 111, 3) from by decide +kernel) rfl (fun v σ' hPo => ?_)
  obtain ⟨⟨rfl, rfl⟩, g2, hI3⟩ := hPo
  show V 0 0 15 [(1, .int ((ius (M 11 0) 6) &&& 63)), (0, .ref 11)] [.int (f_X3_operand  M)] LAY (M, L)
  refine x_callS C (rest := []) (avs := [.int (f_X3_operand  M)]) (k_X9_isOpenData l (f_X3_operand  M) M L) yoX9_isOpenData ml_X3_175 rfl ⟨Nat.zero_le _, Nat.zero_le _⟩ (show decode cX3_ofGroupThree 15 = .ok (.invokestatic 175, 3) from by decide +kernel) rfl (fun v σ' hPo => ?_)
  obtain ⟨⟨rfl, rfl⟩, g5, -⟩ := hPo
  show V 0 0 18 [(1, .int ((ius (M 11 0) 6) &&& 63)), (0, .ref 11)] [.int (f_X9_isOpenData (f_X3_operand  M))] LAY (M, L)
  refine x_run C e_X3_ofGroupThree_2 e_X3_ofGroupThree_2_k (pc' := 20) (lv' := [(2, .int (f_X9_isOpenData (f_X3_operand  M))), (1, .int ((ius (M 11 0) 6) &&& 63)), (0, .ref 11)]) (st' := [.int ((ius (M 11 0) 6) &&& 63)]) (σ' := (M, L)) rfl ⟨trivial, trivial, trivial⟩ ?_
  by_cases c7 : ((ius (M 11 0) 6) &&& 63) = 0
  · rw [if_pos c7] at h
    refine x_tin C (show decode cX3_ofGroupThree 20 = .ok (.tableswitch 381 0 28 #[132, 132, 132, 142, 152, 152, 152, 164, 180, 180, 180, 193, 209, 209, 209, 222, 232, 232, 232, 245, 255, 290, 290, 381, 328, 328, 344, 360, 376], 132) from by decide +kernel) 0 c7 (off := 132) (tgt := 152) (by decide) ?_
    refine x_lv C [2, 1, 0] rfl ?_
    exact b_X3_ofGroupThree_152 r C ((ius (M 11 0) 6) &&& 63) (f_X9_isOpenData (f_X3_operand  M)) M (x_rg_and (x := (ius (M 11 0) 6)) (m := 63) (k := 63) (by decide) (by decide)) g5 hI h
  rw [if_neg c7] at h
  by_cases c8 : ((ius (M 11 0) 6) &&& 63) = 1
  · rw [if_pos c8] at h
    refine x_tin C (show decode cX3_ofGroupThree 20 = .ok (.tableswitch 381 0 28 #[132, 132, 132, 142, 152, 152, 152, 164, 180, 180, 180, 193, 209, 209, 209, 222, 232, 232, 232, 245, 255, 290, 290, 381, 328, 328, 344, 360, 376], 132) from by decide +kernel) 1 c8 (off := 132) (tgt := 152) (by decide) ?_
    refine x_lv C [2, 1, 0] rfl ?_
    exact b_X3_ofGroupThree_152 r C ((ius (M 11 0) 6) &&& 63) (f_X9_isOpenData (f_X3_operand  M)) M (x_rg_and (x := (ius (M 11 0) 6)) (m := 63) (k := 63) (by decide) (by decide)) g5 hI h
  rw [if_neg c8] at h
  by_cases c9 : ((ius (M 11 0) 6) &&& 63) = 2
  · rw [if_pos c9] at h
    refine x_tin C (show decode cX3_ofGroupThree 20 = .ok (.tableswitch 381 0 28 #[132, 132, 132, 142, 152, 152, 152, 164, 180, 180, 180, 193, 209, 209, 209, 222, 232, 232, 232, 245, 255, 290, 290, 381, 328, 328, 344, 360, 376], 132) from by decide +kernel) 2 c9 (off := 132) (tgt := 152) (by decide) ?_
    refine x_lv C [2, 1, 0] rfl ?_
    exact b_X3_ofGroupThree_152 r C ((ius (M 11 0) 6) &&& 63) (f_X9_isOpenData (f_X3_operand  M)) M (x_rg_and (x := (ius (M 11 0) 6)) (m := 63) (k := 63) (by decide) (by decide)) g5 hI h
  rw [if_neg c9] at h
  by_cases c10 : ((ius (M 11 0) 6) &&& 63) = 3
  · rw [if_pos c10] at h
    refine x_tin C (show decode cX3_ofGroupThree 20 = .ok (.tableswitch 381 0 28 #[132, 132, 132, 142, 152, 152, 152, 164, 180, 180, 180, 193, 209, 209, 209, 222, 232, 232, 232, 245, 255, 290, 290, 381, 328, 328, 344, 360, 376], 132) from by decide +kernel) 3 c10 (off := 142) (tgt := 162) (by decide) ?_
    refine x_run C e_X3_ofGroupThree_3 e_X3_ofGroupThree_3_k (pc' := 163) (lv' := [(2, .int (f_X9_isOpenData (f_X3_operand  M))), (1, .int ((ius (M 11 0) 6) &&& 63)), (0, .ref 11)]) (st' := [.ref 11]) (σ' := (M, L)) rfl ⟨trivial, trivial⟩ ?_
    refine x_getE C 37 (by decide) (x_in 693 (by decide +kernel) rfl) (show decode cX3_ofGroupThree 163 = .ok (.getstatic 246, 3) from by decide +kernel) ?_
    refine x_run C e_X3_ofGroupThree_4 e_X3_ofGroupThree_4_k (pc' := 168) (lv' := [(2, .int (f_X9_isOpenData (f_X3_operand  M))), (1, .int ((ius (M 11 0) 6) &&& 63)), (0, .ref 11)]) (st' := [.int (f_X9_isOpenData (f_X3_operand  M)), .int 1, .ref (1000 + 37), .ref 11]) (σ' := (M, L)) rfl ⟨trivial, trivial, trivial⟩ ?_
    refine x_callV C (k := 11) (ci := 2) (rest := []) (avs := [.ref (1000 + 37), .int 1, .int (f_X9_isOpenData (f_X3_operand  M))]) (k_X3_single l 37 1 (f_X9_isOpenData (f_X3_operand  M)) M L (show 37 < 66 by decide) hI) yoX3_single ml_X3_193 rfl rfl rfl rfl ⟨Nat.zero_le _, Nat.zero_le _⟩ (show decode cX3_ofGroupThree 168 = .ok (.invokevirtual 193, 3) from by decide +kernel) rfl (fun v σ' hPo => ?_)
    obtain ⟨⟨rfl, rfl⟩, g12, hI13⟩ := hPo
    generalize hq11 : f_X3_single 37 1 (f_X9_isOpenData (f_X3_operand  M)) M = q11 at h g12 hI13 ⊢
    obtain ⟨r11, M11⟩ := q11
    have h := xb_eq h
    try dsimp only at h g12 hI13
    show V 0 0 171 [(2, .int (f_X9_isOpenData (f_X3_operand  M))), (1, .int ((ius (M 11 0) 6) &&& 63)), (0, .ref 11)] [.ref (1000 + r11)] LAY (M11, L)
    subst h
    exact x_aret C (show decode cX3_ofGroupThree 171 = .ok (.areturn, 1) from by decide +kernel) (x_finE ⟨⟨rfl, rfl⟩, g12, hI13⟩) (Nat.le_refl 0) (Nat.le_refl 0)
  rw [if_neg c10] at h
  by_cases c14 : ((ius (M 11 0) 6) &&& 63) = 4
  · rw [if_pos c14] at h
    refine x_tin C (show decode cX3_ofGroupThree 20 = .ok (.tableswitch 381 0 28 #[132, 132, 132, 142, 152, 152, 152, 164, 180, 180, 180, 193, 209, 209, 209, 222, 232, 232, 232, 245, 255, 290, 290, 381, 328, 328, 344, 360, 376], 132) from by decide +kernel) 4 c14 (off := 152) (tgt := 172) (by decide) ?_
    refine x_lv C [2, 1, 0] rfl ?_
    exact b_X3_ofGroupThree_172 r C ((ius (M 11 0) 6) &&& 63) (f_X9_isOpenData (f_X3_operand  M)) M (x_rg_and (x := (ius (M 11 0) 6)) (m := 63) (k := 63) (by decide) (by decide)) g5 hI h
  rw [if_neg c14] at h
  by_cases c15 : ((ius (M 11 0) 6) &&& 63) = 5
  · rw [if_pos c15] at h
    refine x_tin C (show decode cX3_ofGroupThree 20 = .ok (.tableswitch 381 0 28 #[132, 132, 132, 142, 152, 152, 152, 164, 180, 180, 180, 193, 209, 209, 209, 222, 232, 232, 232, 245, 255, 290, 290, 381, 328, 328, 344, 360, 376], 132) from by decide +kernel) 5 c15 (off := 152) (tgt := 172) (by decide) ?_
    refine x_lv C [2, 1, 0] rfl ?_
    exact b_X3_ofGroupThree_172 r C ((ius (M 11 0) 6) &&& 63) (f_X9_isOpenData (f_X3_operand  M)) M (x_rg_and (x := (ius (M 11 0) 6)) (m := 63) (k := 63) (by decide) (by decide)) g5 hI h
  rw [if_neg c15] at h
  by_cases c16 : ((ius (M 11 0) 6) &&& 63) = 6
  · rw [if_pos c16] at h
    refine x_tin C (show decode cX3_ofGroupThree 20 = .ok (.tableswitch 381 0 28 #[132, 132, 132, 142, 152, 152, 152, 164, 180, 180, 180, 193, 209, 209, 209, 222, 232, 232, 232, 245, 255, 290, 290, 381, 328, 328, 344, 360, 376], 132) from by decide +kernel) 6 c16 (off := 152) (tgt := 172) (by decide) ?_
    refine x_lv C [2, 1, 0] rfl ?_
    exact b_X3_ofGroupThree_172 r C ((ius (M 11 0) 6) &&& 63) (f_X9_isOpenData (f_X3_operand  M)) M (x_rg_and (x := (ius (M 11 0) 6)) (m := 63) (k := 63) (by decide) (by decide)) g5 hI h
  rw [if_neg c16] at h
  by_cases c17 : ((ius (M 11 0) 6) &&& 63) = 7
  · rw [if_pos c17] at h
    refine x_tin C (show decode cX3_ofGroupThree 20 = .ok (.tableswitch 381 0 28 #[132, 132, 132, 142, 152, 152, 152, 164, 180, 180, 180, 193, 209, 209, 209, 222, 232, 232, 232, 245, 255, 290, 290, 381, 328, 328, 344, 360, 376], 132) from by decide +kernel) 7 c17 (off := 164) (tgt := 184) (by decide) ?_
    refine x_run C e_X3_ofGroupThree_5 e_X3_ofGroupThree_5_k (pc' := 185) (lv' := [(2, .int (f_X9_isOpenData (f_X3_operand  M))), (1, .int ((ius (M 11 0) 6) &&& 63)), (0, .ref 11)]) (st' := [.ref 11]) (σ' := (M, L)) rfl ⟨trivial, trivial⟩ ?_
    refine x_getE C 38 (by decide) (x_in 697 (by decide +kernel) rfl) (show decode cX3_ofGroupThree 185 = .ok (.getstatic 252, 3) from by decide +kernel) ?_
    refine x_run C e_X3_ofGroupThree_6 e_X3_ofGroupThree_6_k (pc' := 190) (lv' := [(2, .int (f_X9_isOpenData (f_X3_operand  M))), (1, .int ((ius (M 11 0) 6) &&& 63)), (0, .ref 11)]) (st' := [.ref 11, .int 1, .ref (1000 + 38), .ref 11]) (σ' := (M, L)) rfl ⟨trivial, trivial, trivial⟩ ?_
    refine x_callV C (k := 11) (ci := 2) (rest := [.int 1, .ref (1000 + 38), .ref 11]) (avs := []) (k_X3_operand l  M L hI) yoX3_operand ml_X3_111 rfl rfl rfl rfl ⟨Nat.zero_le _, Nat.zero_le _⟩ (show decode cX3_ofGroupThree 190 = .ok (.invokevirtual 111, 3) from by decide +kernel) rfl (fun v σ' hPo => ?_)
    obtain ⟨⟨rfl, rfl⟩, g19, hI20⟩ := hPo
    show V 0 0 193 [(2, .int (f_X9_isOpenData (f_X3_operand  M))), (1, .int ((ius (M 11 0) 6) &&& 63)), (0, .ref 11)] [.int (f_X3_operand  M), .int 1, .ref (1000 + 38), .ref 11] LAY (M, L)
    refine x_callS C (rest := [.int 1, .ref (1000 + 38), .ref 11]) (avs := [.int (f_X3_operand  M)]) (k_X9_isData l (f_X3_operand  M) M L) yoX9_isData ml_X3_178 rfl ⟨Nat.zero_le _, Nat.zero_le _⟩ (show decode cX3_ofGroupThree 193 = .ok (.invokestatic 178, 3) from by decide +kernel) rfl (fun v σ' hPo => ?_)
    obtain ⟨⟨rfl, rfl⟩, g22, -⟩ := hPo
    show V 0 0 196 [(2, .int (f_X9_isOpenData (f_X3_operand  M))), (1, .int ((ius (M 11 0) 6) &&& 63)), (0, .ref 11)] [.int (f_X9_isData (f_X3_operand  M)), .int 1, .ref (1000 + 38), .ref 11] LAY (M, L)
    refine x_callV C (k := 11) (ci := 2) (rest := []) (avs := [.ref (1000 + 38), .int 1, .int (f_X9_isData (f_X3_operand  M))]) (k_X3_single l 38 1 (f_X9_isData (f_X3_operand  M)) M L (show 38 < 66 by decide) hI) yoX3_single ml_X3_193 rfl rfl rfl rfl ⟨Nat.zero_le _, Nat.zero_le _⟩ (show decode cX3_ofGroupThree 196 = .ok (.invokevirtual 193, 3) from by decide +kernel) rfl (fun v σ' hPo => ?_)
    obtain ⟨⟨rfl, rfl⟩, g25, hI26⟩ := hPo
    generalize hq24 : f_X3_single 38 1 (f_X9_isData (f_X3_operand  M)) M = q24 at h g25 hI26 ⊢
    obtain ⟨r24, M24⟩ := q24
    have h := xb_eq h
    try dsimp only at h g25 hI26
    show V 0 0 199 [(2, .int (f_X9_isOpenData (f_X3_operand  M))), (1, .int ((ius (M 11 0) 6) &&& 63)), (0, .ref 11)] [.ref (1000 + r24)] LAY (M24, L)
    subst h
    exact x_aret C (show decode cX3_ofGroupThree 199 = .ok (.areturn, 1) from by decide +kernel) (x_finE ⟨⟨rfl, rfl⟩, g25, hI26⟩) (Nat.le_refl 0) (Nat.le_refl 0)
  rw [if_neg c17] at h
  by_cases c27 : ((ius (M 11 0) 6) &&& 63) = 8
  · rw [if_pos c27] at h
    refine x_tin C (show decode cX3_ofGroupThree 20 = .ok (.tableswitch 381 0 28 #[132, 132, 132, 142, 152, 152, 152, 164, 180, 180, 180, 193, 209, 209, 209, 222, 232, 232, 232, 245, 255, 290, 290, 381, 328, 328, 344, 360, 376], 132) from by decide +kernel) 8 c27 (off := 180) (tgt := 200) (by decide) ?_
    refine x_lv C [2, 1, 0] rfl ?_
    exact b_X3_ofGroupThree_200 r C ((ius (M 11 0) 6) &&& 63) (f_X9_isOpenData (f_X3_operand  M)) M (x_rg_and (x := (ius (M 11 0) 6)) (m := 63) (k := 63) (by decide) (by decide)) g5 hI h
  rw [if_neg c27] at h
  by_cases c28 : ((ius (M 11 0) 6) &&& 63) = 9
  · rw [if_pos c28] at h
    refine x_tin C (show decode cX3_ofGroupThree 20 = .ok (.tableswitch 381 0 28 #[132, 132, 132, 142, 152, 152, 152, 164, 180, 180, 180, 193, 209, 209, 209, 222, 232, 232, 232, 245, 255, 290, 290, 381, 328, 328, 344, 360, 376], 132) from by decide +kernel) 9 c28 (off := 180) (tgt := 200) (by decide) ?_
    refine x_lv C [2, 1, 0] rfl ?_
    exact b_X3_ofGroupThree_200 r C ((ius (M 11 0) 6) &&& 63) (f_X9_isOpenData (f_X3_operand  M)) M (x_rg_and (x := (ius (M 11 0) 6)) (m := 63) (k := 63) (by decide) (by decide)) g5 hI h
  rw [if_neg c28] at h
  by_cases c29 : ((ius (M 11 0) 6) &&& 63) = 10
  · rw [if_pos c29] at h
    refine x_tin C (show decode cX3_ofGroupThree 20 = .ok (.tableswitch 381 0 28 #[132, 132, 132, 142, 152, 152, 152, 164, 180, 180, 180, 193, 209, 209, 209, 222, 232, 232, 232, 245, 255, 290, 290, 381, 328, 328, 344, 360, 376], 132) from by decide +kernel) 10 c29 (off := 180) (tgt := 200) (by decide) ?_
    refine x_lv C [2, 1, 0] rfl ?_
    exact b_X3_ofGroupThree_200 r C ((ius (M 11 0) 6) &&& 63) (f_X9_isOpenData (f_X3_operand  M)) M (x_rg_and (x := (ius (M 11 0) 6)) (m := 63) (k := 63) (by decide) (by decide)) g5 hI h
  rw [if_neg c29] at h
  by_cases c30 : ((ius (M 11 0) 6) &&& 63) = 11
  · rw [if_pos c30] at h
    refine x_tin C (show decode cX3_ofGroupThree 20 = .ok (.tableswitch 381 0 28 #[132, 132, 132, 142, 152, 152, 152, 164, 180, 180, 180, 193, 209, 209, 209, 222, 232, 232, 232, 245, 255, 290, 290, 381, 328, 328, 344, 360, 376], 132) from by decide +kernel) 11 c30 (off := 193) (tgt := 213) (by decide) ?_
    refine x_run C e_X3_ofGroupThree_7 e_X3_ofGroupThree_7_k (pc' := 214) (lv' := [(2, .int (f_X9_isOpenData (f_X3_operand  M))), (1, .int ((ius (M 11 0) 6) &&& 63)), (0, .ref 11)]) (st' := [.ref 11]) (σ' := (M, L)) rfl ⟨trivial, trivial⟩ ?_
    refine x_getE C 39 (by decide) (x_in 704 (by decide +kernel) rfl) (show decode cX3_ofGroupThree 214 = .ok (.getstatic 258, 3) from by decide +kernel) ?_
    refine x_run C e_X3_ofGroupThree_8 e_X3_ofGroupThree_8_k (pc' := 219) (lv' := [(2, .int (f_X9_isOpenData (f_X3_operand  M))), (1, .int ((ius (M 11 0) 6) &&& 63)), (0, .ref 11)]) (st' := [.ref 11, .int 1, .ref (1000 + 39), .ref 11]) (σ' := (M, L)) rfl ⟨trivial, trivial, trivial⟩ ?_
    refine x_callV C (k := 11) (ci := 2) (rest := [.int 1, .ref (1000 + 39), .ref 11]) (avs := []) (k_X3_operand l  M L hI) yoX3_operand ml_X3_111 rfl rfl rfl rfl ⟨Nat.zero_le _, Nat.zero_le _⟩ (show decode cX3_ofGroupThree 219 = .ok (.invokevirtual 111, 3) from by decide +kernel) rfl (fun v σ' hPo => ?_)
    obtain ⟨⟨rfl, rfl⟩, g32, hI33⟩ := hPo
    show V 0 0 222 [(2, .int (f_X9_isOpenData (f_X3_operand  M))), (1, .int ((ius (M 11 0) 6) &&& 63)), (0, .ref 11)] [.int (f_X3_operand  M), .int 1, .ref (1000 + 39), .ref 11] LAY (M, L)
    refine x_callS C (rest := [.int 1, .ref (1000 + 39), .ref 11]) (avs := [.int (f_X3_operand  M)]) (k_X9_isData l (f_X3_operand  M) M L) yoX9_isData ml_X3_178 rfl ⟨Nat.zero_le _, Nat.zero_le _⟩ (show decode cX3_ofGroupThree 222 = .ok (.invokestatic 178, 3) from by decide +kernel) rfl (fun v σ' hPo => ?_)
    obtain ⟨⟨rfl, rfl⟩, g35, -⟩ := hPo
    show V 0 0 225 [(2, .int (f_X9_isOpenData (f_X3_operand  M))), (1, .int ((ius (M 11 0) 6) &&& 63)), (0, .ref 11)] [.int (f_X9_isData (f_X3_operand  M)), .int 1, .ref (1000 + 39), .ref 11] LAY (M, L)
    refine x_callV C (k := 11) (ci := 2) (rest := []) (avs := [.ref (1000 + 39), .int 1, .int (f_X9_isData (f_X3_operand  M))]) (k_X3_single l 39 1 (f_X9_isData (f_X3_operand  M)) M L (show 39 < 66 by decide) hI) yoX3_single ml_X3_193 rfl rfl rfl rfl ⟨Nat.zero_le _, Nat.zero_le _⟩ (show decode cX3_ofGroupThree 225 = .ok (.invokevirtual 193, 3) from by decide +kernel) rfl (fun v σ' hPo => ?_)
    obtain ⟨⟨rfl, rfl⟩, g38, hI39⟩ := hPo
    generalize hq37 : f_X3_single 39 1 (f_X9_isData (f_X3_operand  M)) M = q37 at h g38 hI39 ⊢
    obtain ⟨r37, M37⟩ := q37
    have h := xb_eq h
    try dsimp only at h g38 hI39
    show V 0 0 228 [(2, .int (f_X9_isOpenData (f_X3_operand  M))), (1, .int ((ius (M 11 0) 6) &&& 63)), (0, .ref 11)] [.ref (1000 + r37)] LAY (M37, L)
    subst h
    exact x_aret C (show decode cX3_ofGroupThree 228 = .ok (.areturn, 1) from by decide +kernel) (x_finE ⟨⟨rfl, rfl⟩, g38, hI39⟩) (Nat.le_refl 0) (Nat.le_refl 0)
  rw [if_neg c30] at h
  by_cases c40 : ((ius (M 11 0) 6) &&& 63) = 12
  · rw [if_pos c40] at h
    refine x_tin C (show decode cX3_ofGroupThree 20 = .ok (.tableswitch 381 0 28 #[132, 132, 132, 142, 152, 152, 152, 164, 180, 180, 180, 193, 209, 209, 209, 222, 232, 232, 232, 245, 255, 290, 290, 381, 328, 328, 344, 360, 376], 132) from by decide +kernel) 12 c40 (off := 209) (tgt := 229) (by decide) ?_
    refine x_lv C [2, 1, 0] rfl ?_
    exact b_X3_ofGroupThree_229 r C ((ius (M 11 0) 6) &&& 63) (f_X9_isOpenData (f_X3_operand  M)) M (x_rg_and (x := (ius (M 11 0) 6)) (m := 63) (k := 63) (by decide) (by decide)) g5 hI h
  rw [if_neg c40] at h
  by_cases c41 : ((ius (M 11 0) 6) &&& 63) = 13
  · rw [if_pos c41] at h
    refine x_tin C (show decode cX3_ofGroupThree 20 = .ok (.tableswitch 381 0 28 #[132, 132, 132, 142, 152, 152, 152, 164, 180, 180, 180, 193, 209, 209, 209, 222, 232, 232, 232, 245, 255, 290, 290, 381, 328, 328, 344, 360, 376], 132) from by decide +kernel) 13 c41 (off := 209) (tgt := 229) (by decide) ?_
    refine x_lv C [2, 1, 0] rfl ?_
    exact b_X3_ofGroupThree_229 r C ((ius (M 11 0) 6) &&& 63) (f_X9_isOpenData (f_X3_operand  M)) M (x_rg_and (x := (ius (M 11 0) 6)) (m := 63) (k := 63) (by decide) (by decide)) g5 hI h
  rw [if_neg c41] at h
  by_cases c42 : ((ius (M 11 0) 6) &&& 63) = 14
  · rw [if_pos c42] at h
    refine x_tin C (show decode cX3_ofGroupThree 20 = .ok (.tableswitch 381 0 28 #[132, 132, 132, 142, 152, 152, 152, 164, 180, 180, 180, 193, 209, 209, 209, 222, 232, 232, 232, 245, 255, 290, 290, 381, 328, 328, 344, 360, 376], 132) from by decide +kernel) 14 c42 (off := 209) (tgt := 229) (by decide) ?_
    refine x_lv C [2, 1, 0] rfl ?_
    exact b_X3_ofGroupThree_229 r C ((ius (M 11 0) 6) &&& 63) (f_X9_isOpenData (f_X3_operand  M)) M (x_rg_and (x := (ius (M 11 0) 6)) (m := 63) (k := 63) (by decide) (by decide)) g5 hI h
  rw [if_neg c42] at h
  by_cases c43 : ((ius (M 11 0) 6) &&& 63) = 15
  · rw [if_pos c43] at h
    refine x_tin C (show decode cX3_ofGroupThree 20 = .ok (.tableswitch 381 0 28 #[132, 132, 132, 142, 152, 152, 152, 164, 180, 180, 180, 193, 209, 209, 209, 222, 232, 232, 232, 245, 255, 290, 290, 381, 328, 328, 344, 360, 376], 132) from by decide +kernel) 15 c43 (off := 222) (tgt := 242) (by decide) ?_
    refine x_run C e_X3_ofGroupThree_9 e_X3_ofGroupThree_9_k (pc' := 243) (lv' := [(2, .int (f_X9_isOpenData (f_X3_operand  M))), (1, .int ((ius (M 11 0) 6) &&& 63)), (0, .ref 11)]) (st' := [.ref 11]) (σ' := (M, L)) rfl ⟨trivial, trivial⟩ ?_
    refine x_getE C 31 (by decide) (x_in 708 (by decide +kernel) rfl) (show decode cX3_ofGroupThree 243 = .ok (.getstatic 264, 3) from by decide +kernel) ?_
    refine x_run C e_X3_ofGroupThree_10 e_X3_ofGroupThree_10_k (pc' := 248) (lv' := [(2, .int (f_X9_isOpenData (f_X3_operand  M))), (1, .int ((ius (M 11 0) 6) &&& 63)), (0, .ref 11)]) (st' := [.int (f_X9_isOpenData (f_X3_operand  M)), .int 0, .ref (1000 + 31), .ref 11]) (σ' := (M, L)) rfl ⟨trivial, trivial, trivial⟩ ?_
    refine x_callV C (k := 11) (ci := 2) (rest := []) (avs := [.ref (1000 + 31), .int 0, .int (f_X9_isOpenData (f_X3_operand  M))]) (k_X3_single l 31 0 (f_X9_isOpenData (f_X3_operand  M)) M L (show 31 < 66 by decide) hI) yoX3_single ml_X3_193 rfl rfl rfl rfl ⟨Nat.zero_le _, Nat.zero_le _⟩ (show decode cX3_ofGroupThree 248 = .ok (.invokevirtual 193, 3) from by decide +kernel) rfl (fun v σ' hPo => ?_)
    obtain ⟨⟨rfl, rfl⟩, g45, hI46⟩ := hPo
    generalize hq44 : f_X3_single 31 0 (f_X9_isOpenData (f_X3_operand  M)) M = q44 at h g45 hI46 ⊢
    obtain ⟨r44, M44⟩ := q44
    have h := xb_eq h
    try dsimp only at h g45 hI46
    show V 0 0 251 [(2, .int (f_X9_isOpenData (f_X3_operand  M))), (1, .int ((ius (M 11 0) 6) &&& 63)), (0, .ref 11)] [.ref (1000 + r44)] LAY (M44, L)
    subst h
    exact x_aret C (show decode cX3_ofGroupThree 251 = .ok (.areturn, 1) from by decide +kernel) (x_finE ⟨⟨rfl, rfl⟩, g45, hI46⟩) (Nat.le_refl 0) (Nat.le_refl 0)
  rw [if_neg c43] at h
  by_cases c47 : ((ius (M 11 0) 6) &&& 63) = 16
  · rw [if_pos c47] at h
    refine x_tin C (show decode cX3_ofGroupThree 20 = .ok (.tableswitch 381 0 28 #[132, 132, 132, 142, 152, 152, 152, 164, 180, 180, 180, 193, 209, 209, 209, 222, 232, 232, 232, 245, 255, 290, 290, 381, 328, 328, 344, 360, 376], 132) from by decide +kernel) 16 c47 (off := 232) (tgt := 252) (by decide) ?_
    refine x_lv C [2, 1, 0] rfl ?_
    exact b_X3_ofGroupThree_252 r C ((ius (M 11 0) 6) &&& 63) (f_X9_isOpenData (f_X3_operand  M)) M (x_rg_and (x := (ius (M 11 0) 6)) (m := 63) (k := 63) (by decide) (by decide)) g5 hI h
  rw [if_neg c47] at h
  by_cases c48 : ((ius (M 11 0) 6) &&& 63) = 17
  · rw [if_pos c48] at h
    refine x_tin C (show decode cX3_ofGroupThree 20 = .ok (.tableswitch 381 0 28 #[132, 132, 132, 142, 152, 152, 152, 164, 180, 180, 180, 193, 209, 209, 209, 222, 232, 232, 232, 245, 255, 290, 290, 381, 328, 328, 344, 360, 376], 132) from by decide +kernel) 17 c48 (off := 232) (tgt := 252) (by decide) ?_
    refine x_lv C [2, 1, 0] rfl ?_
    exact b_X3_ofGroupThree_252 r C ((ius (M 11 0) 6) &&& 63) (f_X9_isOpenData (f_X3_operand  M)) M (x_rg_and (x := (ius (M 11 0) 6)) (m := 63) (k := 63) (by decide) (by decide)) g5 hI h
  rw [if_neg c48] at h
  by_cases c49 : ((ius (M 11 0) 6) &&& 63) = 18
  · rw [if_pos c49] at h
    refine x_tin C (show decode cX3_ofGroupThree 20 = .ok (.tableswitch 381 0 28 #[132, 132, 132, 142, 152, 152, 152, 164, 180, 180, 180, 193, 209, 209, 209, 222, 232, 232, 232, 245, 255, 290, 290, 381, 328, 328, 344, 360, 376], 132) from by decide +kernel) 18 c49 (off := 232) (tgt := 252) (by decide) ?_
    refine x_lv C [2, 1, 0] rfl ?_
    exact b_X3_ofGroupThree_252 r C ((ius (M 11 0) 6) &&& 63) (f_X9_isOpenData (f_X3_operand  M)) M (x_rg_and (x := (ius (M 11 0) 6)) (m := 63) (k := 63) (by decide) (by decide)) g5 hI h
  rw [if_neg c49] at h
  by_cases c50 : ((ius (M 11 0) 6) &&& 63) = 19
  · rw [if_pos c50] at h
    refine x_tin C (show decode cX3_ofGroupThree 20 = .ok (.tableswitch 381 0 28 #[132, 132, 132, 142, 152, 152, 152, 164, 180, 180, 180, 193, 209, 209, 209, 222, 232, 232, 232, 245, 255, 290, 290, 381, 328, 328, 344, 360, 376], 132) from by decide +kernel) 19 c50 (off := 245) (tgt := 265) (by decide) ?_
    refine x_run C e_X3_ofGroupThree_11 e_X3_ofGroupThree_11_k (pc' := 266) (lv' := [(2, .int (f_X9_isOpenData (f_X3_operand  M))), (1, .int ((ius (M 11 0) 6) &&& 63)), (0, .ref 11)]) (st' := [.ref 11]) (σ' := (M, L)) rfl ⟨trivial, trivial⟩ ?_
    refine x_getE C 35 (by decide) (x_in 712 (by decide +kernel) rfl) (show decode cX3_ofGroupThree 266 = .ok (.getstatic 270, 3) from by decide +kernel) ?_
    refine x_run C e_X3_ofGroupThree_12 e_X3_ofGroupThree_12_k (pc' := 271) (lv' := [(2, .int (f_X9_isOpenData (f_X3_operand  M))), (1, .int ((ius (M 11 0) 6) &&& 63)), (0, .ref 11)]) (st' := [.int (f_X9_isOpenData (f_X3_operand  M)), .int 0, .ref (1000 + 35), .ref 11]) (σ' := (M, L)) rfl ⟨trivial, trivial, trivial⟩ ?_
    refine x_callV C (k := 11) (ci := 2) (rest := []) (avs := [.ref (1000 + 35), .int 0, .int (f_X9_isOpenData (f_X3_operand  M))]) (k_X3_single l 35 0 (f_X9_isOpenData (f_X3_operand  M)) M L (show 35 < 66 by decide) hI) yoX3_single ml_X3_193 rfl rfl rfl rfl ⟨Nat.zero_le _, Nat.zero_le _⟩ (show decode cX3_ofGroupThree 271 = .ok (.invokevirtual 193, 3) from by decide +kernel) rfl (fun v σ' hPo => ?_)
    obtain ⟨⟨rfl, rfl⟩, g52, hI53⟩ := hPo
    generalize hq51 : f_X3_single 35 0 (f_X9_isOpenData (f_X3_operand  M)) M = q51 at h g52 hI53 ⊢
    obtain ⟨r51, M51⟩ := q51
    have h := xb_eq h
    try dsimp only at h g52 hI53
    show V 0 0 274 [(2, .int (f_X9_isOpenData (f_X3_operand  M))), (1, .int ((ius (M 11 0) 6) &&& 63)), (0, .ref 11)] [.ref (1000 + r51)] LAY (M51, L)
    subst h
    exact x_aret C (show decode cX3_ofGroupThree 274 = .ok (.areturn, 1) from by decide +kernel) (x_finE ⟨⟨rfl, rfl⟩, g52, hI53⟩) (Nat.le_refl 0) (Nat.le_refl 0)
  rw [if_neg c50] at h
  by_cases c54 : ((ius (M 11 0) 6) &&& 63) = 20
  · rw [if_pos c54] at h
    refine x_tin C (show decode cX3_ofGroupThree 20 = .ok (.tableswitch 381 0 28 #[132, 132, 132, 142, 152, 152, 152, 164, 180, 180, 180, 193, 209, 209, 209, 222, 232, 232, 232, 245, 255, 290, 290, 381, 328, 328, 344, 360, 376], 132) from by decide +kernel) 20 c54 (off := 255) (tgt := 275) (by decide) ?_
    refine x_run C e_X3_ofGroupThree_13 e_X3_ofGroupThree_13_k (pc' := 276) (lv' := [(2, .int (f_X9_isOpenData (f_X3_operand  M))), (1, .int ((ius (M 11 0) 6) &&& 63)), (0, .ref 11)]) (st' := [.ref 11]) (σ' := (M, L)) rfl ⟨trivial, trivial⟩ ?_
    refine x_callV C (k := 11) (ci := 2) (rest := []) (avs := []) (k_X3_mode l  M L hI) yoX3_mode ml_X3_151 rfl rfl rfl rfl ⟨Nat.zero_le _, Nat.zero_le _⟩ (show decode cX3_ofGroupThree 276 = .ok (.invokevirtual 151, 3) from by decide +kernel) rfl (fun v σ' hPo => ?_)
    obtain ⟨⟨rfl, rfl⟩, g56, hI57⟩ := hPo
    show V 0 0 279 [(2, .int (f_X9_isOpenData (f_X3_operand  M))), (1, .int ((ius (M 11 0) 6) &&& 63)), (0, .ref 11)] [.int (f_X3_mode  M)] LAY (M, L)
    refine x_if_ne C (show decode cX3_ofGroupThree 279 = .ok (.ifCond .ne 15, 3) from by decide +kernel) (tgt := 294) (by decide) (fun c58 => ?_) (fun c58 => ?_)
    · rw [if_neg c58] at h
      have g59 : xrg 1 7 (f_X3_mode  M) := (x_c_ne g56 (by decide) c58)
      refine x_run C e_X3_ofGroupThree_14 e_X3_ofGroupThree_14_k (pc' := 295) (lv' := [(2, .int (f_X9_isOpenData (f_X3_operand  M))), (1, .int ((ius (M 11 0) 6) &&& 63)), (0, .ref 11)]) (st' := [.ref 11]) (σ' := (M, L)) rfl ⟨trivial, trivial⟩ ?_
      refine x_getE C 45 (by decide) (x_in 720 (by decide +kernel) rfl) (show decode cX3_ofGroupThree 295 = .ok (.getstatic 276, 3) from by decide +kernel) ?_
      refine x_run C e_X3_ofGroupThree_15 e_X3_ofGroupThree_15_k (pc' := 300) (lv' := [(2, .int (f_X9_isOpenData (f_X3_operand  M))), (1, .int ((ius (M 11 0) 6) &&& 63)), (0, .ref 11)]) (st' := [.ref 11, .int 2, .ref (1000 + 45), .ref 11]) (σ' := (M, L)) rfl ⟨trivial, trivial, trivial⟩ ?_
      refine x_callV C (k := 11) (ci := 2) (rest := [.int 2, .ref (1000 + 45), .ref 11]) (avs := []) (k_X3_operand l  M L hI) yoX3_operand ml_X3_111 rfl rfl rfl rfl ⟨Nat.zero_le _, Nat.zero_le _⟩ (show decode cX3_ofGroupThree 300 = .ok (.invokevirtual 111, 3) from by decide +kernel) rfl (fun v σ' hPo => ?_)
      obtain ⟨⟨rfl, rfl⟩, g61, hI62⟩ := hPo
      show V 0 0 303 [(2, .int (f_X9_isOpenData (f_X3_operand  M))), (1, .int ((ius (M 11 0) 6) &&& 63)), (0, .ref 11)] [.int (f_X3_operand  M), .int 2, .ref (1000 + 45), .ref 11] LAY (M, L)
      refine x_callS C (rest := [.int 2, .ref (1000 + 45), .ref 11]) (avs := [.int (f_X3_operand  M)]) (k_X9_isControl l (f_X3_operand  M) M L) yoX9_isControl ml_X3_237 rfl ⟨Nat.zero_le _, Nat.zero_le _⟩ (show decode cX3_ofGroupThree 303 = .ok (.invokestatic 237, 3) from by decide +kernel) rfl (fun v σ' hPo => ?_)
      obtain ⟨⟨rfl, rfl⟩, g64, -⟩ := hPo
      show V 0 0 306 [(2, .int (f_X9_isOpenData (f_X3_operand  M))), (1, .int ((ius (M 11 0) 6) &&& 63)), (0, .ref 11)] [.int (f_X9_isControl (f_X3_operand  M)), .int 2, .ref (1000 + 45), .ref 11] LAY (M, L)
      refine x_callV C (k := 11) (ci := 2) (rest := []) (avs := [.ref (1000 + 45), .int 2, .int (f_X9_isControl (f_X3_operand  M))]) (k_X3_single l 45 2 (f_X9_isControl (f_X3_operand  M)) M L (show 45 < 66 by decide) hI) yoX3_single ml_X3_193 rfl rfl rfl rfl ⟨Nat.zero_le _, Nat.zero_le _⟩ (show decode cX3_ofGroupThree 306 = .ok (.invokevirtual 193, 3) from by decide +kernel) rfl (fun v σ' hPo => ?_)
      obtain ⟨⟨rfl, rfl⟩, g67, hI68⟩ := hPo
      generalize hq66 : f_X3_single 45 2 (f_X9_isControl (f_X3_operand  M)) M = q66 at h g67 hI68 ⊢
      obtain ⟨r66, M66⟩ := q66
      have h := xb_eq h
      try dsimp only at h g67 hI68
      show V 0 0 309 [(2, .int (f_X9_isOpenData (f_X3_operand  M))), (1, .int ((ius (M 11 0) 6) &&& 63)), (0, .ref 11)] [.ref (1000 + r66)] LAY (M66, L)
      subst h
      exact x_aret C (show decode cX3_ofGroupThree 309 = .ok (.areturn, 1) from by decide +kernel) (x_finE ⟨⟨rfl, rfl⟩, g67, hI68⟩) (Nat.le_refl 0) (Nat.le_refl 0)
    · rw [if_pos c58] at h
      have g69 : xrg 0 0 (f_X3_mode  M) := (x_c_eq g56 (x_rgc (x := 0) (k := 0) (by decide)) c58).1
      refine x_run C e_X3_ofGroupThree_16 e_X3_ofGroupThree_16_k (pc' := 283) (lv' := [(2, .int (f_X9_isOpenData (f_X3_operand  M))), (1, .int ((ius (M 11 0) 6) &&& 63)), (0, .ref 11)]) (st' := [.ref 11]) (σ' := (M, L)) rfl ⟨trivial, trivial⟩ ?_
      refine x_getE C 40 (by decide) (x_in 718 (by decide +kernel) rfl) (show decode cX3_ofGroupThree 283 = .ok (.getstatic 273, 3) from by decide +kernel) ?_
      refine x_run C e_X3_ofGroupThree_17 e_X3_ofGroupThree_17_k (pc' := 288) (lv' := [(2, .int (f_X9_isOpenData (f_X3_operand  M))), (1, .int ((ius (M 11 0) 6) &&& 63)), (0, .ref 11)]) (st' := [.int 1, .int 2, .ref (1000 + 40), .ref 11]) (σ' := (M, L)) rfl ⟨trivial, trivial, trivial⟩ ?_
      refine x_callV C (k := 11) (ci := 2) (rest := []) (avs := [.ref (1000 + 40), .int 2, .int 1]) (k_X3_single l 40 2 1 M L (show 40 < 66 by decide) hI) yoX3_single ml_X3_193 rfl rfl rfl rfl ⟨Nat.zero_le _, Nat.zero_le _⟩ (show decode cX3_ofGroupThree 288 = .ok (.invokevirtual 193, 3) from by decide +kernel) rfl (fun v σ' hPo => ?_)
      obtain ⟨⟨rfl, rfl⟩, g71, hI72⟩ := hPo
      generalize hq70 : f_X3_single 40 2 1 M = q70 at h g71 hI72 ⊢
      obtain ⟨r70, M70⟩ := q70
      have h := xb_eq h
      try dsimp only at h g71 hI72
      show V 0 0 291 [(2, .int (f_X9_isOpenData (f_X3_operand  M))), (1, .int ((ius (M 11 0) 6) &&& 63)), (0, .ref 11)] [.ref (1000 + r70)] LAY (M70, L)
      refine x_goto C (show decode cX3_ofGroupThree 291 = .ok (.goto 18, 3) from by decide +kernel) (tgt := 309) (by decide) ?_
      subst h
      exact x_aret C (show decode cX3_ofGroupThree 309 = .ok (.areturn, 1) from by decide +kernel) (x_finE ⟨⟨rfl, rfl⟩, g71, hI72⟩) (Nat.le_refl 0) (Nat.le_refl 0)
  rw [if_neg c54] at h
  by_cases c73 : ((ius (M 11 0) 6) &&& 63) = 21
  · rw [if_pos c73] at h
    refine x_tin C (show decode cX3_ofGroupThree 20 = .ok (.tableswitch 381 0 28 #[132, 132, 132, 142, 152, 152, 152, 164, 180, 180, 180, 193, 209, 209, 209, 222, 232, 232, 232, 245, 255, 290, 290, 381, 328, 328, 344, 360, 376], 132) from by decide +kernel) 21 c73 (off := 290) (tgt := 310) (by decide) ?_
    refine x_lv C [2, 1] rfl ?_
    exact b_X3_ofGroupThree_310 r C ((ius (M 11 0) 6) &&& 63) M (x_rg_and (x := (ius (M 11 0) 6)) (m := 63) (k := 63) (by decide) (by decide)) hI h
  rw [if_neg c73] at h
  by_cases c74 : ((ius (M 11 0) 6) &&& 63) = 22
  · rw [if_pos c74] at h
    refine x_tin C (show decode cX3_ofGroupThree 20 = .ok (.tableswitch 381 0 28 #[132, 132, 132, 142, 152, 152, 152, 164, 180, 180, 180, 193, 209, 209, 209, 222, 232, 232, 232, 245, 255, 290, 290, 381, 328, 328, 344, 360, 376], 132) from by decide +kernel) 22 c74 (off := 290) (tgt := 310) (by decide) ?_
    refine x_lv C [2, 1] rfl ?_
    exact b_X3_ofGroupThree_310 r C ((ius (M 11 0) 6) &&& 63) M (x_rg_and (x := (ius (M 11 0) 6)) (m := 63) (k := 63) (by decide) (by decide)) hI h
  rw [if_neg c74] at h
  by_cases c75 : ((ius (M 11 0) 6) &&& 63) = 23
  · rw [if_pos c75] at h
    refine x_tin C (show decode cX3_ofGroupThree 20 = .ok (.tableswitch 381 0 28 #[132, 132, 132, 142, 152, 152, 152, 164, 180, 180, 180, 193, 209, 209, 209, 222, 232, 232, 232, 245, 255, 290, 290, 381, 328, 328, 344, 360, 376], 132) from by decide +kernel) 23 c75 (off := 381) (tgt := 401) (by decide) ?_
    refine x_getE C 65 (by decide) (x_in 678 (by decide +kernel) rfl) (show decode cX3_ofGroupThree 401 = .ok (.getstatic 108, 3) from by decide +kernel) ?_
    subst h
    exact x_aret C (show decode cX3_ofGroupThree 404 = .ok (.areturn, 1) from by decide +kernel) (x_finE ⟨⟨rfl, rfl⟩, (show 65 < 66 by decide), hI⟩) (Nat.le_refl 0) (Nat.le_refl 0)
  rw [if_neg c75] at h
  by_cases c76 : ((ius (M 11 0) 6) &&& 63) = 24
  · rw [if_pos c76] at h
    refine x_tin C (show decode cX3_ofGroupThree 20 = .ok (.tableswitch 381 0 28 #[132, 132, 132, 142, 152, 152, 152, 164, 180, 180, 180, 193, 209, 209, 209, 222, 232, 232, 232, 245, 255, 290, 290, 381, 328, 328, 344, 360, 376], 132) from by decide +kernel) 24 c76 (off := 328) (tgt := 348) (by decide) ?_
    refine x_lv C [2, 1] rfl ?_
    exact b_X3_ofGroupThree_348 r C ((ius (M 11 0) 6) &&& 63) M (x_rg_and (x := (ius (M 11 0) 6)) (m := 63) (k := 63) (by decide) (by decide)) hI h
  rw [if_neg c76] at h
  by_cases c77 : ((ius (M 11 0) 6) &&& 63) = 25
  · rw [if_pos c77] at h
    refine x_tin C (show decode cX3_ofGroupThree 20 = .ok (.tableswitch 381 0 28 #[132, 132, 132, 142, 152, 152, 152, 164, 180, 180, 180, 193, 209, 209, 209, 222, 232, 232, 232, 245, 255, 290, 290, 381, 328, 328, 344, 360, 376], 132) from by decide +kernel) 25 c77 (off := 328) (tgt := 348) (by decide) ?_
    refine x_lv C [2, 1] rfl ?_
    exact b_X3_ofGroupThree_348 r C ((ius (M 11 0) 6) &&& 63) M (x_rg_and (x := (ius (M 11 0) 6)) (m := 63) (k := 63) (by decide) (by decide)) hI h
  rw [if_neg c77] at h
  by_cases c78 : ((ius (M 11 0) 6) &&& 63) = 26
  · rw [if_pos c78] at h
    refine x_tin C (show decode cX3_ofGroupThree 20 = .ok (.tableswitch 381 0 28 #[132, 132, 132, 142, 152, 152, 152, 164, 180, 180, 180, 193, 209, 209, 209, 222, 232, 232, 232, 245, 255, 290, 290, 381, 328, 328, 344, 360, 376], 132) from by decide +kernel) 26 c78 (off := 344) (tgt := 364) (by decide) ?_
    refine x_run C e_X3_ofGroupThree_18 e_X3_ofGroupThree_18_k (pc' := 365) (lv' := [(2, .int (f_X9_isOpenData (f_X3_operand  M))), (1, .int ((ius (M 11 0) 6) &&& 63)), (0, .ref 11)]) (st' := [.ref 11]) (σ' := (M, L)) rfl ⟨trivial, trivial⟩ ?_
    refine x_getE C 46 (by decide) (x_in 739 (by decide +kernel) rfl) (show decode cX3_ofGroupThree 365 = .ok (.getstatic 295, 3) from by decide +kernel) ?_
    refine x_run C e_X3_ofGroupThree_19 e_X3_ofGroupThree_19_k (pc' := 370) (lv' := [(2, .int (f_X9_isOpenData (f_X3_operand  M))), (1, .int ((ius (M 11 0) 6) &&& 63)), (0, .ref 11)]) (st' := [.ref 11, .int 2, .ref (1000 + 46), .ref 11]) (σ' := (M, L)) rfl ⟨trivial, trivial, trivial⟩ ?_
    refine x_callV C (k := 11) (ci := 2) (rest := [.int 2, .ref (1000 + 46), .ref 11]) (avs := []) (k_X3_operand l  M L hI) yoX3_operand ml_X3_111 rfl rfl rfl rfl ⟨Nat.zero_le _, Nat.zero_le _⟩ (show decode cX3_ofGroupThree 370 = .ok (.invokevirtual 111, 3) from by decide +kernel) rfl (fun v σ' hPo => ?_)
    obtain ⟨⟨rfl, rfl⟩, g80, hI81⟩ := hPo
    show V 0 0 373 [(2, .int (f_X9_isOpenData (f_X3_operand  M))), (1, .int ((ius (M 11 0) 6) &&& 63)), (0, .ref 11)] [.int (f_X3_operand  M), .int 2, .ref (1000 + 46), .ref 11] LAY (M, L)
    refine x_callS C (rest := [.int 2, .ref (1000 + 46), .ref 11]) (avs := [.int (f_X3_operand  M)]) (k_X9_isControl l (f_X3_operand  M) M L) yoX9_isControl ml_X3_237 rfl ⟨Nat.zero_le _, Nat.zero_le _⟩ (show decode cX3_ofGroupThree 373 = .ok (.invokestatic 237, 3) from by decide +kernel) rfl (fun v σ' hPo => ?_)
    obtain ⟨⟨rfl, rfl⟩, g83, -⟩ := hPo
    show V 0 0 376 [(2, .int (f_X9_isOpenData (f_X3_operand  M))), (1, .int ((ius (M 11 0) 6) &&& 63)), (0, .ref 11)] [.int (f_X9_isControl (f_X3_operand  M)), .int 2, .ref (1000 + 46), .ref 11] LAY (M, L)
    refine x_callV C (k := 11) (ci := 2) (rest := []) (avs := [.ref (1000 + 46), .int 2, .int (f_X9_isControl (f_X3_operand  M))]) (k_X3_single l 46 2 (f_X9_isControl (f_X3_operand  M)) M L (show 46 < 66 by decide) hI) yoX3_single ml_X3_193 rfl rfl rfl rfl ⟨Nat.zero_le _, Nat.zero_le _⟩ (show decode cX3_ofGroupThree 376 = .ok (.invokevirtual 193, 3) from by decide +kernel) rfl (fun v σ' hPo => ?_)
    obtain ⟨⟨rfl, rfl⟩, g86, hI87⟩ := hPo
    generalize hq85 : f_X3_single 46 2 (f_X9_isControl (f_X3_operand  M)) M = q85 at h g86 hI87 ⊢
    obtain ⟨r85, M85⟩ := q85
    have h := xb_eq h
    try dsimp only at h g86 hI87
    show V 0 0 379 [(2, .int (f_X9_isOpenData (f_X3_operand  M))), (1, .int ((ius (M 11 0) 6) &&& 63)), (0, .ref 11)] [.ref (1000 + r85)] LAY (M85, L)
    subst h
    exact x_aret C (show decode cX3_ofGroupThree 379 = .ok (.areturn, 1) from by decide +kernel) (x_finE ⟨⟨rfl, rfl⟩, g86, hI87⟩) (Nat.le_refl 0) (Nat.le_refl 0)
  rw [if_neg c78] at h
  by_cases c88 : ((ius (M 11 0) 6) &&& 63) = 27
  · rw [if_pos c88] at h
    refine x_tin C (show decode cX3_ofGroupThree 20 = .ok (.tableswitch 381 0 28 #[132, 132, 132, 142, 152, 152, 152, 164, 180, 180, 180, 193, 209, 209, 209, 222, 232, 232, 232, 245, 255, 290, 290, 381, 328, 328, 344, 360, 376], 132) from by decide +kernel) 27 c88 (off := 360) (tgt := 380) (by decide) ?_
    refine x_run C e_X3_ofGroupThree_20 e_X3_ofGroupThree_20_k (pc' := 381) (lv' := [(2, .int (f_X9_isOpenData (f_X3_operand  M))), (1, .int ((ius (M 11 0) 6) &&& 63)), (0, .ref 11)]) (st' := [.ref 11]) (σ' := (M, L)) rfl ⟨trivial, trivial⟩ ?_
    refine x_getE C 47 (by decide) (x_in 741 (by decide +kernel) rfl) (show decode cX3_ofGroupThree 381 = .ok (.getstatic 298, 3) from by decide +kernel) ?_
    refine x_run C e_X3_ofGroupThree_21 e_X3_ofGroupThree_21_k (pc' := 386) (lv' := [(2, .int (f_X9_isOpenData (f_X3_operand  M))), (1, .int ((ius (M 11 0) 6) &&& 63)), (0, .ref 11)]) (st' := [.ref 11, .int 2, .ref (1000 + 47), .ref 11]) (σ' := (M, L)) rfl ⟨trivial, trivial, trivial⟩ ?_
    refine x_callV C (k := 11) (ci := 2) (rest := [.int 2, .ref (1000 + 47), .ref 11]) (avs := []) (k_X3_operand l  M L hI) yoX3_operand ml_X3_111 rfl rfl rfl rfl ⟨Nat.zero_le _, Nat.zero_le _⟩ (show decode cX3_ofGroupThree 386 = .ok (.invokevirtual 111, 3) from by decide +kernel) rfl (fun v σ' hPo => ?_)
    obtain ⟨⟨rfl, rfl⟩, g90, hI91⟩ := hPo
    show V 0 0 389 [(2, .int (f_X9_isOpenData (f_X3_operand  M))), (1, .int ((ius (M 11 0) 6) &&& 63)), (0, .ref 11)] [.int (f_X3_operand  M), .int 2, .ref (1000 + 47), .ref 11] LAY (M, L)
    refine x_callS C (rest := [.int 2, .ref (1000 + 47), .ref 11]) (avs := [.int (f_X3_operand  M)]) (k_X9_isControl l (f_X3_operand  M) M L) yoX9_isControl ml_X3_237 rfl ⟨Nat.zero_le _, Nat.zero_le _⟩ (show decode cX3_ofGroupThree 389 = .ok (.invokestatic 237, 3) from by decide +kernel) rfl (fun v σ' hPo => ?_)
    obtain ⟨⟨rfl, rfl⟩, g93, -⟩ := hPo
    show V 0 0 392 [(2, .int (f_X9_isOpenData (f_X3_operand  M))), (1, .int ((ius (M 11 0) 6) &&& 63)), (0, .ref 11)] [.int (f_X9_isControl (f_X3_operand  M)), .int 2, .ref (1000 + 47), .ref 11] LAY (M, L)
    refine x_callV C (k := 11) (ci := 2) (rest := []) (avs := [.ref (1000 + 47), .int 2, .int (f_X9_isControl (f_X3_operand  M))]) (k_X3_single l 47 2 (f_X9_isControl (f_X3_operand  M)) M L (show 47 < 66 by decide) hI) yoX3_single ml_X3_193 rfl rfl rfl rfl ⟨Nat.zero_le _, Nat.zero_le _⟩ (show decode cX3_ofGroupThree 392 = .ok (.invokevirtual 193, 3) from by decide +kernel) rfl (fun v σ' hPo => ?_)
    obtain ⟨⟨rfl, rfl⟩, g96, hI97⟩ := hPo
    generalize hq95 : f_X3_single 47 2 (f_X9_isControl (f_X3_operand  M)) M = q95 at h g96 hI97 ⊢
    obtain ⟨r95, M95⟩ := q95
    have h := xb_eq h
    try dsimp only at h g96 hI97
    show V 0 0 395 [(2, .int (f_X9_isOpenData (f_X3_operand  M))), (1, .int ((ius (M 11 0) 6) &&& 63)), (0, .ref 11)] [.ref (1000 + r95)] LAY (M95, L)
    subst h
    exact x_aret C (show decode cX3_ofGroupThree 395 = .ok (.areturn, 1) from by decide +kernel) (x_finE ⟨⟨rfl, rfl⟩, g96, hI97⟩) (Nat.le_refl 0) (Nat.le_refl 0)
  rw [if_neg c88] at h
  by_cases c98 : ((ius (M 11 0) 6) &&& 63) = 28
  · rw [if_pos c98] at h
    refine x_tin C (show decode cX3_ofGroupThree 20 = .ok (.tableswitch 381 0 28 #[132, 132, 132, 142, 152, 152, 152, 164, 180, 180, 180, 193, 209, 209, 209, 222, 232, 232, 232, 245, 255, 290, 290, 381, 328, 328, 344, 360, 376], 132) from by decide +kernel) 28 c98 (off := 376) (tgt := 396) (by decide) ?_
    refine x_run C e_X3_ofGroupThree_22 e_X3_ofGroupThree_22_k (pc' := 397) (lv' := [(2, .int (f_X9_isOpenData (f_X3_operand  M))), (1, .int ((ius (M 11 0) 6) &&& 63)), (0, .ref 11)]) (st' := [.ref 11]) (σ' := (M, L)) rfl ⟨trivial, trivial⟩ ?_
    refine x_callV C (k := 11) (ci := 2) (rest := []) (avs := []) (k_X3_withoutOperands l  M L hI) yoX3_withoutOperands ml_X3_301 rfl rfl rfl rfl ⟨Nat.zero_le _, Nat.zero_le _⟩ (show decode cX3_ofGroupThree 397 = .ok (.invokevirtual 301, 3) from by decide +kernel) rfl (fun v σ' hPo => ?_)
    obtain ⟨⟨rfl, rfl⟩, g100, hI101⟩ := hPo
    show V 0 0 400 [(2, .int (f_X9_isOpenData (f_X3_operand  M))), (1, .int ((ius (M 11 0) 6) &&& 63)), (0, .ref 11)] [.ref (1000 + (f_X3_withoutOperands  M))] LAY (M, L)
    subst h
    exact x_aret C (show decode cX3_ofGroupThree 400 = .ok (.areturn, 1) from by decide +kernel) (x_finE ⟨⟨rfl, rfl⟩, g100, hI⟩) (Nat.le_refl 0) (Nat.le_refl 0)
  rw [if_neg c98] at h
  have hz : ((ius (M 11 0) 6) &&& 63).toInt < 0 ∨ 28 < ((ius (M 11 0) 6) &&& 63).toInt := by
    have zc7 := lv_neT (a := 0) c7 (by decide)
    have zc8 := lv_neT (a := 1) c8 (by decide)
    have zc9 := lv_neT (a := 2) c9 (by decide)
    have zc10 := lv_neT (a := 3) c10 (by decide)
    have zc14 := lv_neT (a := 4) c14 (by decide)
    have zc15 := lv_neT (a := 5) c15 (by decide)
    have zc16 := lv_neT (a := 6) c16 (by decide)
    have zc17 := lv_neT (a := 7) c17 (by decide)
    have zc27 := lv_neT (a := 8) c27 (by decide)
    have zc28 := lv_neT (a := 9) c28 (by decide)
    have zc29 := lv_neT (a := 10) c29 (by decide)
    have zc30 := lv_neT (a := 11) c30 (by decide)
    have zc40 := lv_neT (a := 12) c40 (by decide)
    have zc41 := lv_neT (a := 13) c41 (by decide)
    have zc42 := lv_neT (a := 14) c42 (by decide)
    have zc43 := lv_neT (a := 15) c43 (by decide)
    have zc47 := lv_neT (a := 16) c47 (by decide)
    have zc48 := lv_neT (a := 17) c48 (by decide)
    have zc49 := lv_neT (a := 18) c49 (by decide)
    have zc50 := lv_neT (a := 19) c50 (by decide)
    have zc54 := lv_neT (a := 20) c54 (by decide)
    have zc73 := lv_neT (a := 21) c73 (by decide)
    have zc74 := lv_neT (a := 22) c74 (by decide)
    have zc75 := lv_neT (a := 23) c75 (by decide)
    have zc76 := lv_neT (a := 24) c76 (by decide)
    have zc77 := lv_neT (a := 25) c77 (by decide)
    have zc78 := lv_neT (a := 26) c78 (by decide)
    have zc88 := lv_neT (a := 27) c88 (by decide)
    have zc98 := lv_neT (a := 28) c98 (by decide)
    omega
  refine x_tout C (show decode cX3_ofGroupThree 20 = .ok (.tableswitch 381 0 28 #[132, 132, 132, 142, 152, 152, 152, 164, 180, 180, 180, 193, 209, 209, 209, 222, 232, 232, 232, 245, 255, 290, 290, 381, 328, 328, 344, 360, 376], 132) from by decide +kernel) hz (tgt := 401) (by decide) ?_
  refine x_getE C 65 (by decide) (x_in 678 (by decide +kernel) rfl) (show decode cX3_ofGroupThree 401 = .ok (.getstatic 108, 3) from by decide +kernel) ?_
  subst h
  exact x_aret C (show decode cX3_ofGroupThree 404 = .ok (.areturn, 1) from by decide +kernel) (x_finE ⟨⟨rfl, rfl⟩, (show 65 < 66 by decide), hI⟩) (Nat.le_refl 0) (Nat.le_refl 0)
-- X3_upperRegister
def e_X3_upperRegister_1 : List xI := [(0, .aload_n 0, 1, .null), (1, .getfield 9, 3, .null), (4, .bipush 9, 2, .int 9), (6, .iushr, 1, .null), (7, .bipush 7, 2, .int 7), (9, .iand, 1, .null)]
theorem e_X3_upperRegister_1_k : e_X3_upperRegister_1.all (fun q => xokB cX3_upperRegister q && xokL q) = true := by decide +kernel
abbrev P_X3_upperRegister (r : Int32) (M0 : St) (L : Nat → Nat → Int64) : Option Value → xG → Prop := fun v σ' => PoI r M0 L v σ' ∧ xrg 0 7 r ∧ InvK INVC M0
abbrev R_X3_upperRegister : Room := { frames := 0, cells := 0, slots := 0, locals := 0 }
abbrev C_X3_upperRegister (l : Launch) (r : Int32) (M0 : St) (L : Nat → Nat → Int64) (V : XJ) : Prop := XC l yX3_upperRegister.cls yX3_upperRegister.name cX3_upperRegister 1 R_X3_upperRegister 0 0 fl_X3 kc_X3 LAY.length (xfin (some .int) LAY (P_X3_upperRegister r M0 L)) V
def f_X3_upperRegister (M : St) : Int32 := ((ius (M 11 0) 9) &&& 7)
set_option maxRecDepth 20000 in
set_option maxHeartbeats 4000000 in
theorem k_X3_upperRegister (l : Launch) (M : St) (L : Nat → Nat → Int64) (hI : InvK INVC M) : XM l yX3_upperRegister cX3_upperRegister 1 (some .int) R_X3_upperRegister LAY [.ref 11] (M, L) (P_X3_upperRegister (f_X3_upperRegister M) M L) := by
  refine XM.of (by decide) (Nat.le_of_ble_eq_true rfl) LAY_in cl_ok fl_X3_ok kc_X3_ok (fun V C => ?_)
  obtain ⟨r, h⟩ : ∃ r, f_X3_upperRegister M = r := ⟨_, rfl⟩
  rw [h] at C
  change C_X3_upperRegister l r M L V at C
  unfold f_X3_upperRegister at h
  show V 0 0 0 [(0, .ref 11)] [] LAY (M, L)
  refine x_run C e_X3_upperRegister_1 e_X3_upperRegister_1_k (pc' := 10) (lv' := [(0, .ref 11)]) (st' := [.int ((ius (M 11 0) 9) &&& 7)]) (σ' := (M, L)) rfl ⟨trivial, trivial, trivial, trivial, trivial, trivial, trivial⟩ ?_
  subst h
  exact x_iret C (show decode cX3_upperRegister 10 = .ok (.ireturn, 1) from by decide +kernel) (x_finI rfl ⟨⟨rfl, rfl⟩, (x_rg_and (x := (ius (M 11 0) 9)) (m := 7) (k := 7) (by decide) (by decide)), hI⟩) (Nat.le_refl 0) (Nat.le_refl 0)
