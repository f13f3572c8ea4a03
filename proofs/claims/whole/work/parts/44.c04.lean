-- X3_ofGroupFourteen
def e_X3_ofGroupFourteen_1 : List xI := [(0, .aload_n 0, 1, .null)]
theorem e_X3_ofGroupFourteen_1_k : e_X3_ofGroupFourteen_1.all (fun q => xokB cX3_ofGroupFourteen q && xokL q) = true := by decide +kernel
def e_X3_ofGroupFourteen_2 : List xI := [(11, .aload_n 0, 1, .null)]
theorem e_X3_ofGroupFourteen_2_k : e_X3_ofGroupFourteen_2.all (fun q => xokB cX3_ofGroupFourteen q && xokL q) = true := by decide +kernel
def e_X3_ofGroupFourteen_3 : List xI := [(40, .aload_n 0, 1, .null)]
theorem e_X3_ofGroupFourteen_3_k : e_X3_ofGroupFourteen_3.all (fun q => xokB cX3_ofGroupFourteen q && xokL q) = true := by decide +kernel
def e_X3_ofGroupFourteen_4 : List xI := [(44, .iconst 2, 1, .int 2), (45, .aload_n 0, 1, .null)]
theorem e_X3_ofGroupFourteen_4_k : e_X3_ofGroupFourteen_4.all (fun q => xokB cX3_ofGroupFourteen q && xokL q) = true := by decide +kernel
def e_X3_ofGroupFourteen_5 : List xI := [(56, .aload_n 0, 1, .null)]
theorem e_X3_ofGroupFourteen_5_k : e_X3_ofGroupFourteen_5.all (fun q => xokB cX3_ofGroupFourteen q && xokL q) = true := by decide +kernel
def e_X3_ofGroupFourteen_6 : List xI := [(60, .iconst 1, 1, .int 1), (61, .aload_n 0, 1, .null)]
theorem e_X3_ofGroupFourteen_6_k : e_X3_ofGroupFourteen_6.all (fun q => xokB cX3_ofGroupFourteen q && xokL q) = true := by decide +kernel
abbrev P_X3_ofGroupFourteen (r : Nat × St) (L : Nat → Nat → Int64) : Option Value → xG → Prop := fun v σ' => PoE r.1 r.2 L v σ' ∧ r.1 < 66 ∧ InvK INVC r.2
abbrev R_X3_ofGroupFourteen : Room := { frames := 2, cells := 0, slots := 0, locals := 48 }
abbrev C_X3_ofGroupFourteen (l : Launch) (r : Nat × St) (L : Nat → Nat → Int64) (V : XJ) : Prop := XC l yX3_ofGroupFourteen.cls yX3_ofGroupFourteen.name cX3_ofGroupFourteen 1 R_X3_ofGroupFourteen 0 0 fl_X3 kc_X3 LAY.length (xfin (some (.object "SupervisorMachine$Op")) LAY (P_X3_ofGroupFourteen r L)) V
def f_X3_ofGroupFourteen (M : St) : Nat × St := (if (f_X3_bit8  M) = 0 then (21, M) else (if (f_X3_z  M) = 0 then (xb (f_X3_single 44 2 (f_X9_isControl (f_X3_operand  M)) M) fun q16 => (q16.1, q16.2)) else (if (f_X3_z  M) = 1 then (xb (f_X3_single 18 1 (f_X9_isData (f_X3_operand  M)) M) fun q26 => (q26.1, q26.2)) else (65, M))))
set_option maxRecDepth 20000 in
set_option maxHeartbeats 4000000 in
theorem k_X3_ofGroupFourteen (l : Launch) (M : St) (L : Nat → Nat → Int64) (hI : InvK INVC M) : XM l yX3_ofGroupFourteen cX3_ofGroupFourteen 1 (some (.object "SupervisorMachine$Op")) R_X3_ofGroupFourteen LAY [.ref 11] (M, L) (P_X3_ofGroupFourteen (f_X3_ofGroupFourteen M) L) := by
  refine XM.of (by decide) (Nat.le_of_ble_eq_true rfl) LAY_in cl_ok fl_X3_ok kc_X3_ok (fun V C => ?_)
  obtain ⟨r, h⟩ : ∃ r, f_X3_ofGroupFourteen M = r := ⟨_, rfl⟩
  rw [h] at C
  change C_X3_ofGroupFourteen l r L V at C
  unfold f_X3_ofGroupFourteen at h
  show V 0 0 0 [(0, .ref 11)] [] LAY (M, L)
  refine x_run C e_X3_ofGroupFourteen_1 e_X3_ofGroupFourteen_1_k (pc' := 1) (lv' := [(0, .ref 11)]) (st' := [.ref 11]) (σ' := (M, L)) rfl ⟨trivial, trivial⟩ ?_
  refine x_callV C (k := 11) (ci := 2) (rest := []) (avs := []) (k_X3_bit8 l  M L hI) yoX3_bit8 ml_X3_80 rfl rfl rfl rfl ⟨Nat.zero_le _, Nat.zero_le _⟩ (show decode cX3_ofGroupFourteen 1 = .ok (.invokevirtual 80, 3) from by decide +kernel) rfl (fun v σ' hPo => ?_)
  obtain ⟨⟨rfl, rfl⟩, g2, hI3⟩ := hPo
  show V 0 0 4 [(0, .ref 11)] [.int (f_X3_bit8  M)] LAY (M, L)
  refine x_if_ne C (show decode cX3_ofGroupFourteen 4 = .ok (.ifCond .ne 7, 3) from by decide +kernel) (tgt := 11) (by decide) (fun c4 => ?_) (fun c4 => ?_)
  · rw [if_neg c4] at h
    have g5 : xrg 1 1 (f_X3_bit8  M) := (x_c_ne g2 (by decide) c4)
    refine x_run C e_X3_ofGroupFourteen_2 e_X3_ofGroupFourteen_2_k (pc' := 12) (lv' := [(0, .ref 11)]) (st' := [.ref 11]) (σ' := (M, L)) rfl ⟨trivial, trivial⟩ ?_
    refine x_callV C (k := 11) (ci := 2) (rest := []) (avs := []) (k_X3_z l  M L hI) yoX3_z ml_X3_144 rfl rfl rfl rfl ⟨Nat.zero_le _, Nat.zero_le _⟩ (show decode cX3_ofGroupFourteen 12 = .ok (.invokevirtual 144, 3) from by decide +kernel) rfl (fun v σ' hPo => ?_)
    obtain ⟨⟨rfl, rfl⟩, g7, hI8⟩ := hPo
    show V 0 0 15 [(0, .ref 11)] [.int (f_X3_z  M)] LAY (M, L)
    by_cases c9 : (f_X3_z  M) = 0
    · rw [if_pos c9] at h
      refine x_lsw C (show decode cX3_ofGroupFourteen 15 = .ok (.lookupswitch 57 #[(0, 25), (1, 41)], 25) from by decide +kernel) (by decide) (off := 25) (by rw [c9]; first | done | decide) (tgt := 40) (by decide) ?_
      refine x_run C e_X3_ofGroupFourteen_3 e_X3_ofGroupFourteen_3_k (pc' := 41) (lv' := [(0, .ref 11)]) (st' := [.ref 11]) (σ' := (M, L)) rfl ⟨trivial, trivial⟩ ?_
      refine x_getE C 44 (by decide) (x_in 907 (by decide +kernel) rfl) (show decode cX3_ofGroupFourteen 41 = .ok (.getstatic 234, 3) from by decide +kernel) ?_
      refine x_run C e_X3_ofGroupFourteen_4 e_X3_ofGroupFourteen_4_k (pc' := 46) (lv' := [(0, .ref 11)]) (st' := [.ref 11, .int 2, .ref (1000 + 44), .ref 11]) (σ' := (M, L)) rfl ⟨trivial, trivial, trivial⟩ ?_
      refine x_callV C (k := 11) (ci := 2) (rest := [.int 2, .ref (1000 + 44), .ref 11]) (avs := []) (k_X3_operand l  M L hI) yoX3_operand ml_X3_111 rfl rfl rfl rfl ⟨Nat.zero_le _, Nat.zero_le _⟩ (show decode cX3_ofGroupFourteen 46 = .ok (.invokevirtual 111, 3) from by decide +kernel) rfl (fun v σ' hPo => ?_)
      obtain ⟨⟨rfl, rfl⟩, g11, hI12⟩ := hPo
      show V 0 0 49 [(0, .ref 11)] [.int (f_X3_operand  M), .int 2, .ref (1000 + 44), .ref 11] LAY (M, L)
      refine x_callS C (rest := [.int 2, .ref (1000 + 44), .ref 11]) (avs := [.int (f_X3_operand  M)]) (k_X9_isControl l (f_X3_operand  M) M L) yoX9_isControl ml_X3_237 rfl ⟨Nat.zero_le _, Nat.zero_le _⟩ (show decode cX3_ofGroupFourteen 49 = .ok (.invokestatic 237, 3) from by decide +kernel) rfl (fun v σ' hPo => ?_)
      obtain ⟨⟨rfl, rfl⟩, g14, -⟩ := hPo
      show V 0 0 52 [(0, .ref 11)] [.int (f_X9_isControl (f_X3_operand  M)), .int 2, .ref (1000 + 44), .ref 11] LAY (M, L)
      refine x_callV C (k := 11) (ci := 2) (rest := []) (avs := [.ref (1000 + 44), .int 2, .int (f_X9_isControl (f_X3_operand  M))]) (k_X3_single l 44 2 (f_X9_isControl (f_X3_operand  M)) M L (show 44 < 66 by decide) hI) yoX3_single ml_X3_193 rfl rfl rfl rfl ⟨Nat.zero_le _, Nat.zero_le _⟩ (show decode cX3_ofGroupFourteen 52 = .ok (.invokevirtual 193, 3) from by decide +kernel) rfl (fun v σ' hPo => ?_)
      obtain ⟨⟨rfl, rfl⟩, g17, hI18⟩ := hPo
      generalize hq16 : f_X3_single 44 2 (f_X9_isControl (f_X3_operand  M)) M = q16 at h g17 hI18 ⊢
      obtain ⟨r16, M16⟩ := q16
      have h := xb_eq h
      try dsimp only at h g17 hI18
      show V 0 0 55 [(0, .ref 11)] [.ref (1000 + r16)] LAY (M16, L)
      subst h
      exact x_aret C (show decode cX3_ofGroupFourteen 55 = .ok (.areturn, 1) from by decide +kernel) (x_finE ⟨⟨rfl, rfl⟩, g17, hI18⟩) (Nat.le_refl 0) (Nat.le_refl 0)
    rw [if_neg c9] at h
    by_cases c19 : (f_X3_z  M) = 1
    · rw [if_pos c19] at h
      refine x_lsw C (show decode cX3_ofGroupFourteen 15 = .ok (.lookupswitch 57 #[(0, 25), (1, 41)], 25) from by decide +kernel) (by decide) (off := 41) (by rw [c19]; first | done | decide) (tgt := 56) (by decide) ?_
      refine x_run C e_X3_ofGroupFourteen_5 e_X3_ofGroupFourteen_5_k (pc' := 57) (lv' := [(0, .ref 11)]) (st' := [.ref 11]) (σ' := (M, L)) rfl ⟨trivial, trivial⟩ ?_
      refine x_getE C 18 (by decide) (x_in 909 (by decide +kernel) rfl) (show decode cX3_ofGroupFourteen 57 = .ok (.getstatic 240, 3) from by decide +kernel) ?_
      refine x_run C e_X3_ofGroupFourteen_6 e_X3_ofGroupFourteen_6_k (pc' := 62) (lv' := [(0, .ref 11)]) (st' := [.ref 11, .int 1, .ref (1000 + 18), .ref 11]) (σ' := (M, L)) rfl ⟨trivial, trivial, trivial⟩ ?_
      refine x_callV C (k := 11) (ci := 2) (rest := [.int 1, .ref (1000 + 18), .ref 11]) (avs := []) (k_X3_operand l  M L hI) yoX3_operand ml_X3_111 rfl rfl rfl rfl ⟨Nat.zero_le _, Nat.zero_le _⟩ (show decode cX3_ofGroupFourteen 62 = .ok (.invokevirtual 111, 3) from by decide +kernel) rfl (fun v σ' hPo => ?_)
      obtain ⟨⟨rfl, rfl⟩, g21, hI22⟩ := hPo
      show V 0 0 65 [(0, .ref 11)] [.int (f_X3_operand  M), .int 1, .ref (1000 + 18), .ref 11] LAY (M, L)
      refine x_callS C (rest := [.int 1, .ref (1000 + 18), .ref 11]) (avs := [.int (f_X3_operand  M)]) (k_X9_isData l (f_X3_operand  M) M L) yoX9_isData ml_X3_178 rfl ⟨Nat.zero_le _, Nat.zero_le _⟩ (show decode cX3_ofGroupFourteen 65 = .ok (.invokestatic 178, 3) from by decide +kernel) rfl (fun v σ' hPo => ?_)
      obtain ⟨⟨rfl, rfl⟩, g24, -⟩ := hPo
      show V 0 0 68 [(0, .ref 11)] [.int (f_X9_isData (f_X3_operand  M)), .int 1, .ref (1000 + 18), .ref 11] LAY (M, L)
      refine x_callV C (k := 11) (ci := 2) (rest := []) (avs := [.ref (1000 + 18), .int 1, .int (f_X9_isData (f_X3_operand  M))]) (k_X3_single l 18 1 (f_X9_isData (f_X3_operand  M)) M L (show 18 < 66 by decide) hI) yoX3_single ml_X3_193 rfl rfl rfl rfl ⟨Nat.zero_le _, Nat.zero_le _⟩ (show decode cX3_ofGroupFourteen 68 = .ok (.invokevirtual 193, 3) from by decide +kernel) rfl (fun v σ' hPo => ?_)
      obtain ⟨⟨rfl, rfl⟩, g27, hI28⟩ := hPo
      generalize hq26 : f_X3_single 18 1 (f_X9_isData (f_X3_operand  M)) M = q26 at h g27 hI28 ⊢
      obtain ⟨r26, M26⟩ := q26
      have h := xb_eq h
      try dsimp only at h g27 hI28
      show V 0 0 71 [(0, .ref 11)] [.ref (1000 + r26)] LAY (M26, L)
      subst h
      exact x_aret C (show decode cX3_ofGroupFourteen 71 = .ok (.areturn, 1) from by decide +kernel) (x_finE ⟨⟨rfl, rfl⟩, g27, hI28⟩) (Nat.le_refl 0) (Nat.le_refl 0)
    rw [if_neg c19] at h
    refine x_lsw C (show decode cX3_ofGroupFourteen 15 = .ok (.lookupswitch 57 #[(0, 25), (1, 41)], 25) from by decide +kernel) (by decide) (off := 57) (by show Op.lookupswitch.offset [(0, 25), (1, 41)] 57 _ = _; rw [lv_osw c9 (by decide)]; rw [lv_osw c19 (by decide)]; rfl) (tgt := 72) (by decide) ?_
    refine x_getE C 65 (by decide) (x_in 678 (by decide +kernel) rfl) (show decode cX3_ofGroupFourteen 72 = .ok (.getstatic 108, 3) from by decide +kernel) ?_
    subst h
    exact x_aret C (show decode cX3_ofGroupFourteen 75 = .ok (.areturn, 1) from by decide +kernel) (x_finE ⟨⟨rfl, rfl⟩, (show 65 < 66 by decide), hI⟩) (Nat.le_refl 0) (Nat.le_refl 0)
  · rw [if_pos c4] at h
    have g29 : xrg 0 0 (f_X3_bit8  M) := (x_c_eq g2 (x_rgc (x := 0) (k := 0) (by decide)) c4).1
    refine x_getE C 21 (by decide) (x_in 905 (by decide +kernel) rfl) (show decode cX3_ofGroupFourteen 7 = .ok (.getstatic 231, 3) from by decide +kernel) ?_
    subst h
    exact x_aret C (show decode cX3_ofGroupFourteen 10 = .ok (.areturn, 1) from by decide +kernel) (x_finE ⟨⟨rfl, rfl⟩, (show 21 < 66 by decide), hI⟩) (Nat.le_refl 0) (Nat.le_refl 0)
-- X3_decode
def e_X3_decode_1 : List xI := [(0, .aload_n 0, 1, .null), (1, .iload_n 1, 1, .null), (2, .putfield 9, 3, .null), (5, .aload_n 0, 1, .null), (6, .getfield 9, 3, .null), (9, .bipush 12, 2, .int 12), (11, .iushr, 1, .null)]
theorem e_X3_decode_1_k : e_X3_decode_1.all (fun q => xokB cX3_decode q && xokL q) = true := by decide +kernel
def e_X3_decode_2 : List xI := [(93, .aload_n 0, 1, .null)]
theorem e_X3_decode_2_k : e_X3_decode_2.all (fun q => xokB cX3_decode q && xokL q) = true := by decide +kernel
def e_X3_decode_3 : List xI := [(98, .aload_n 0, 1, .null)]
theorem e_X3_decode_3_k : e_X3_decode_3.all (fun q => xokB cX3_decode q && xokL q) = true := by decide +kernel
def e_X3_decode_4 : List xI := [(112, .aload_n 0, 1, .null)]
theorem e_X3_decode_4_k : e_X3_decode_4.all (fun q => xokB cX3_decode q && xokL q) = true := by decide +kernel
def e_X3_decode_5 : List xI := [(126, .aload_n 0, 1, .null)]
theorem e_X3_decode_5_k : e_X3_decode_5.all (fun q => xokB cX3_decode q && xokL q) = true := by decide +kernel
def e_X3_decode_6 : List xI := [(131, .aload_n 0, 1, .null)]
theorem e_X3_decode_6_k : e_X3_decode_6.all (fun q => xokB cX3_decode q && xokL q) = true := by decide +kernel
def e_X3_decode_7 : List xI := [(145, .aload_n 0, 1, .null)]
theorem e_X3_decode_7_k : e_X3_decode_7.all (fun q => xokB cX3_decode q && xokL q) = true := by decide +kernel
def e_X3_decode_8 : List xI := [(159, .aload_n 0, 1, .null)]
theorem e_X3_decode_8_k : e_X3_decode_8.all (fun q => xokB cX3_decode q && xokL q) = true := by decide +kernel
def e_X3_decode_9 : List xI := [(172, .aload_n 0, 1, .null)]
theorem e_X3_decode_9_k : e_X3_decode_9.all (fun q => xokB cX3_decode q && xokL q) = true := by decide +kernel
def e_X3_decode_10 : List xI := [(176, .iconst 1, 1, .int 1)]
theorem e_X3_decode_10_k : e_X3_decode_10.all (fun q => xokB cX3_decode q && xokL q) = true := by decide +kernel
def e_X3_decode_11 : List xI := [(187, .aload_n 0, 1, .null)]
theorem e_X3_decode_11_k : e_X3_decode_11.all (fun q => xokB cX3_decode q && xokL q) = true := by decide +kernel
def e_X3_decode_12 : List xI := [(180, .aload_n 0, 1, .null)]
theorem e_X3_decode_12_k : e_X3_decode_12.all (fun q => xokB cX3_decode q && xokL q) = true := by decide +kernel
def e_X3_decode_13 : List xI := [(192, .aload_n 0, 1, .null)]
theorem e_X3_decode_13_k : e_X3_decode_13.all (fun q => xokB cX3_decode q && xokL q) = true := by decide +kernel
def e_X3_decode_14 : List xI := [(197, .aload_n 0, 1, .null)]
theorem e_X3_decode_14_k : e_X3_decode_14.all (fun q => xokB cX3_decode q && xokL q) = true := by decide +kernel
def e_X3_decode_15 : List xI := [(88, .aload_n 0, 1, .null)]
theorem e_X3_decode_15_k : e_X3_decode_15.all (fun q => xokB cX3_decode q && xokL q) = true := by decide +kernel
abbrev P_X3_decode (r : Nat × St) (L : Nat → Nat → Int64) : Option Value → xG → Prop := fun v σ' => PoE r.1 r.2 L v σ' ∧ r.1 < 66 ∧ InvK INVC r.2
abbrev R_X3_decode : Room := { frames := 4, cells := 0, slots := 0, locals := 91 }
abbrev C_X3_decode (l : Launch) (r : Nat × St) (L : Nat → Nat → Int64) (V : XJ) : Prop := XC l yX3_decode.cls yX3_decode.name cX3_decode 2 R_X3_decode 0 0 fl_X3 kc_X3 LAY.length (xfin (some (.object "SupervisorMachine$Op")) LAY (P_X3_decode r L)) V
def f_X3_decode_88  (M : St) : Nat × St := (xb (f_X3_moving  M) fun q56 => (q56.1, q56.2))
def f_X3_decode (a1 : Int32) (M : St) : Nat × St := (if (ius a1 12) = 0 then f_X3_decode_88  (xup M 11 0 a1) else (if (ius a1 12) = 1 then f_X3_decode_88  (xup M 11 0 a1) else (if (ius a1 12) = 2 then f_X3_decode_88  (xup M 11 0 a1) else (if (ius a1 12) = 3 then (xb (f_X3_ofGroupThree  (xup M 11 0 a1)) fun q6 => (q6.1, q6.2)) else (if (ius a1 12) = 4 then (xb (f_X3_summing 1 2 12 (xup M 11 0 a1)) fun q10 => (q10.1, q10.2)) else (if (ius a1 12) = 5 then (xb (f_X3_summing 4 5 13 (xup M 11 0 a1)) fun q14 => (q14.1, q14.2)) else (if (ius a1 12) = 6 then (xb (f_X3_comparing  (xup M 11 0 a1)) fun q18 => (q18.1, q18.2)) else (if (ius a1 12) = 7 then (xb (f_X3_joining 8 16 3 (xup M 11 0 a1)) fun q22 => (q22.1, q22.2)) else (if (ius a1 12) = 8 then (xb (f_X3_joining 9 17 6 (xup M 11 0 a1)) fun q26 => (q26.1, q26.2)) else (if (ius a1 12) = 9 then (xb (f_X3_quick  (xup M 11 0 a1)) fun q30 => (q30.1, q30.2)) else (if (ius a1 12) = 10 then (62, (xup M 11 0 a1)) else (if (ius a1 12) = 11 then (48, (xup M 11 0 a1)) else (if (ius a1 12) = 12 then (if (f_X3_bit8  (xup M 11 0 a1)) = 1 then (xb (f_X3_byRegister  (xup M 11 0 a1)) fun q45 => (q45.1, q45.2)) else (xb (f_X3_byNumber  (xup M 11 0 a1)) fun q41 => (q41.1, q41.2))) else (if (ius a1 12) = 13 then (xb (f_X3_shifting  (xup M 11 0 a1)) fun q49 => (q49.1, q49.2)) else (if (ius a1 12) = 14 then (xb (f_X3_ofGroupFourteen  (xup M 11 0 a1)) fun q53 => (q53.1, q53.2)) else (63, (xup M 11 0 a1)))))))))))))))))
set_option maxRecDepth 20000 in
set_option maxHeartbeats 4000000 in
theorem b_X3_decode_88 {l : Launch} {L : Nat → Nat → Int64} {V : XJ} (r : Nat × St) (C : C_X3_decode l r L V)  (M : St) (hI : InvK INVC M) (h : f_X3_decode_88  M = r) : V 0 0 88 [(0, .ref 11)] [] LAY (M, L) := by
  unfold f_X3_decode_88 at h
  refine x_run C e_X3_decode_15 e_X3_decode_15_k (pc' := 89) (lv' := [(0, .ref 11)]) (st' := [.ref 11]) (σ' := (M, L)) rfl ⟨trivial, trivial⟩ ?_
  refine x_callV C (k := 11) (ci := 2) (rest := []) (avs := []) (k_X3_moving l  M L hI) yoX3_moving ml_X3_15 rfl rfl rfl rfl ⟨Nat.zero_le _, Nat.zero_le _⟩ (show decode cX3_decode 89 = .ok (.invokevirtual 15, 3) from by decide +kernel) rfl (fun v σ' hPo => ?_)
  obtain ⟨⟨rfl, rfl⟩, g57, hI58⟩ := hPo
  generalize hq56 : f_X3_moving  M = q56 at h g57 hI58 ⊢
  obtain ⟨r56, M56⟩ := q56
  have h := xb_eq h
  try dsimp only at h g57 hI58
  show V 0 0 92 [(0, .ref 11)] [.ref (1000 + r56)] LAY (M56, L)
  subst h
  exact x_aret C (show decode cX3_decode 92 = .ok (.areturn, 1) from by decide +kernel) (x_finE ⟨⟨rfl, rfl⟩, g57, hI58⟩) (Nat.le_refl 0) (Nat.le_refl 0)
set_option maxRecDepth 20000 in
set_option maxHeartbeats 4000000 in
theorem k_X3_decode (l : Launch) (a1 : Int32) (M : St) (L : Nat → Nat → Int64) (hI : InvK INVC M) : XM l yX3_decode cX3_decode 2 (some (.object "SupervisorMachine$Op")) R_X3_decode LAY [.ref 11, .int a1] (M, L) (P_X3_decode (f_X3_decode a1 M) L) := by
  refine XM.of (by decide) (Nat.le_of_ble_eq_true rfl) LAY_in cl_ok fl_X3_ok kc_X3_ok (fun V C => ?_)
  obtain ⟨r, h⟩ : ∃ r, f_X3_decode a1 M = r := ⟨_, rfl⟩
  rw [h] at C
  change C_X3_decode l r L V at C
  unfold f_X3_decode at h
  show V 0 0 0 [(0, .ref 11), (1, .int a1)] [] LAY (M, L)
  refine x_run C e_X3_decode_1 e_X3_decode_1_k (pc' := 12) (lv' := [(0, .ref 11), (1, .int a1)]) (st' := [.int (ius a1 12)]) (σ' := ((xup M 11 0 a1), L)) rfl ⟨trivial, trivial, trivial, trivial, trivial, trivial, trivial, trivial⟩ ?_
  have hI1 : InvK INVC (xup M 11 0 a1) := (hI.fld 11 0 a1 (by decide))
  by_cases c2 : (ius a1 12) = 0
  · rw [if_pos c2] at h
    refine x_tin C (show decode cX3_decode 12 = .ok (.tableswitch 190 0 14 #[76, 76, 76, 81, 86, 100, 114, 119, 133, 147, 152, 156, 160, 180, 185], 76) from by decide +kernel) 0 c2 (off := 76) (tgt := 88) (by decide) ?_
    refine x_lv C [0] rfl ?_
    exact b_X3_decode_88 r C  (xup M 11 0 a1) hI1 h
  rw [if_neg c2] at h
  by_cases c3 : (ius a1 12) = 1
  · rw [if_pos c3] at h
    refine x_tin C (show decode cX3_decode 12 = .ok (.tableswitch 190 0 14 #[76, 76, 76, 81, 86, 100, 114, 119, 133, 147, 152, 156, 160, 180, 185], 76) from by decide +kernel) 1 c3 (off := 76) (tgt := 88) (by decide) ?_
    refine x_lv C [0] rfl ?_
    exact b_X3_decode_88 r C  (xup M 11 0 a1) hI1 h
  rw [if_neg c3] at h
  by_cases c4 : (ius a1 12) = 2
  · rw [if_pos c4] at h
    refine x_tin C (show decode cX3_decode 12 = .ok (.tableswitch 190 0 14 #[76, 76, 76, 81, 86, 100, 114, 119, 133, 147, 152, 156, 160, 180, 185], 76) from by decide +kernel) 2 c4 (off := 76) (tgt := 88) (by decide) ?_
    refine x_lv C [0] rfl ?_
    exact b_X3_decode_88 r C  (xup M 11 0 a1) hI1 h
  rw [if_neg c4] at h
  by_cases c5 : (ius a1 12) = 3
  · rw [if_pos c5] at h
    refine x_tin C (show decode cX3_decode 12 = .ok (.tableswitch 190 0 14 #[76, 76, 76, 81, 86, 100, 114, 119, 133, 147, 152, 156, 160, 180, 185], 76) from by decide +kernel) 3 c5 (off := 81) (tgt := 93) (by decide) ?_
    refine x_run C e_X3_decode_2 e_X3_decode_2_k (pc' := 94) (lv' := [(0, .ref 11), (1, .int a1)]) (st' := [.ref 11]) (σ' := ((xup M 11 0 a1), L)) rfl ⟨trivial, trivial⟩ ?_
    refine x_callV C (k := 11) (ci := 2) (rest := []) (avs := []) (k_X3_ofGroupThree l  (xup M 11 0 a1) L hI1) yoX3_ofGroupThree ml_X3_19 rfl rfl rfl rfl ⟨Nat.zero_le _, Nat.zero_le _⟩ (show decode cX3_decode 94 = .ok (.invokevirtual 19, 3) from by decide +kernel) rfl (fun v σ' hPo => ?_)
    obtain ⟨⟨rfl, rfl⟩, g7, hI8⟩ := hPo
    generalize hq6 : f_X3_ofGroupThree  (xup M 11 0 a1) = q6 at h g7 hI8 ⊢
    obtain ⟨r6, M6⟩ := q6
    have h := xb_eq h
    try dsimp only at h g7 hI8
    show V 0 0 97 [(0, .ref 11), (1, .int a1)] [.ref (1000 + r6)] LAY (M6, L)
    subst h
    exact x_aret C (show decode cX3_decode 97 = .ok (.areturn, 1) from by decide +kernel) (x_finE ⟨⟨rfl, rfl⟩, g7, hI8⟩) (Nat.le_refl 0) (Nat.le_refl 0)
  rw [if_neg c5] at h
  by_cases c9 : (ius a1 12) = 4
  · rw [if_pos c9] at h
    refine x_tin C (show decode cX3_decode 12 = .ok (.tableswitch 190 0 14 #[76, 76, 76, 81, 86, 100, 114, 119, 133, 147, 152, 156, 160, 180, 185], 76) from by decide +kernel) 4 c9 (off := 86) (tgt := 98) (by decide) ?_
    refine x_run C e_X3_decode_3 e_X3_decode_3_k (pc' := 99) (lv' := [(0, .ref 11), (1, .int a1)]) (st' := [.ref 11]) (σ' := ((xup M 11 0 a1), L)) rfl ⟨trivial, trivial⟩ ?_
    refine x_getE C 1 (by decide) (x_in 778 (by decide +kernel) rfl) (show decode cX3_decode 99 = .ok (.getstatic 22, 3) from by decide +kernel) ?_
    refine x_getE C 2 (by decide) (x_in 780 (by decide +kernel) rfl) (show decode cX3_decode 102 = .ok (.getstatic 28, 3) from by decide +kernel) ?_
    refine x_getE C 12 (by decide) (x_in 782 (by decide +kernel) rfl) (show decode cX3_decode 105 = .ok (.getstatic 31, 3) from by decide +kernel) ?_
    refine x_callV C (k := 11) (ci := 2) (rest := []) (avs := [.ref (1000 + 1), .ref (1000 + 2), .ref (1000 + 12)]) (k_X3_summing l 1 2 12 (xup M 11 0 a1) L (show 1 < 66 by decide) (show 2 < 66 by decide) (show 12 < 66 by decide) hI1) yoX3_summing ml_X3_34 rfl rfl rfl rfl ⟨Nat.zero_le _, Nat.zero_le _⟩ (show decode cX3_decode 108 = .ok (.invokevirtual 34, 3) from by decide +kernel) rfl (fun v σ' hPo => ?_)
    obtain ⟨⟨rfl, rfl⟩, g11, hI12⟩ := hPo
    generalize hq10 : f_X3_summing 1 2 12 (xup M 11 0 a1) = q10 at h g11 hI12 ⊢
    obtain ⟨r10, M10⟩ := q10
    have h := xb_eq h
    try dsimp only at h g11 hI12
    show V 0 0 111 [(0, .ref 11), (1, .int a1)] [.ref (1000 + r10)] LAY (M10, L)
    subst h
    exact x_aret C (show decode cX3_decode 111 = .ok (.areturn, 1) from by decide +kernel) (x_finE ⟨⟨rfl, rfl⟩, g11, hI12⟩) (Nat.le_refl 0) (Nat.le_refl 0)
  rw [if_neg c9] at h
  by_cases c13 : (ius a1 12) = 5
  · rw [if_pos c13] at h
    refine x_tin C (show decode cX3_decode 12 = .ok (.tableswitch 190 0 14 #[76, 76, 76, 81, 86, 100, 114, 119, 133, 147, 152, 156, 160, 180, 185], 76) from by decide +kernel) 5 c13 (off := 100) (tgt := 112) (by decide) ?_
    refine x_run C e_X3_decode_4 e_X3_decode_4_k (pc' := 113) (lv' := [(0, .ref 11), (1, .int a1)]) (st' := [.ref 11]) (σ' := ((xup M 11 0 a1), L)) rfl ⟨trivial, trivial⟩ ?_
    refine x_getE C 4 (by decide) (x_in 810 (by decide +kernel) rfl) (show decode cX3_decode 113 = .ok (.getstatic 38, 3) from by decide +kernel) ?_
    refine x_getE C 5 (by decide) (x_in 812 (by decide +kernel) rfl) (show decode cX3_decode 116 = .ok (.getstatic 41, 3) from by decide +kernel) ?_
    refine x_getE C 13 (by decide) (x_in 814 (by decide +kernel) rfl) (show decode cX3_decode 119 = .ok (.getstatic 44, 3) from by decide +kernel) ?_
    refine x_callV C (k := 11) (ci := 2) (rest := []) (avs := [.ref (1000 + 4), .ref (1000 + 5), .ref (1000 + 13)]) (k_X3_summing l 4 5 13 (xup M 11 0 a1) L (show 4 < 66 by decide) (show 5 < 66 by decide) (show 13 < 66 by decide) hI1) yoX3_summing ml_X3_34 rfl rfl rfl rfl ⟨Nat.zero_le _, Nat.zero_le _⟩ (show decode cX3_decode 122 = .ok (.invokevirtual 34, 3) from by decide +kernel) rfl (fun v σ' hPo => ?_)
    obtain ⟨⟨rfl, rfl⟩, g15, hI16⟩ := hPo
    generalize hq14 : f_X3_summing 4 5 13 (xup M 11 0 a1) = q14 at h g15 hI16 ⊢
    obtain ⟨r14, M14⟩ := q14
    have h := xb_eq h
    try dsimp only at h g15 hI16
    show V 0 0 125 [(0, .ref 11), (1, .int a1)] [.ref (1000 + r14)] LAY (M14, L)
    subst h
    exact x_aret C (show decode cX3_decode 125 = .ok (.areturn, 1) from by decide +kernel) (x_finE ⟨⟨rfl, rfl⟩, g15, hI16⟩) (Nat.le_refl 0) (Nat.le_refl 0)
  rw [if_neg c13] at h
  by_cases c17 : (ius a1 12) = 6
  · rw [if_pos c17] at h
    refine x_tin C (show decode cX3_decode 12 = .ok (.tableswitch 190 0 14 #[76, 76, 76, 81, 86, 100, 114, 119, 133, 147, 152, 156, 160, 180, 185], 76) from by decide +kernel) 6 c17 (off := 114) (tgt := 126) (by decide) ?_
    refine x_run C e_X3_decode_5 e_X3_decode_5_k (pc' := 127) (lv' := [(0, .ref 11), (1, .int a1)]) (st' := [.ref 11]) (σ' := ((xup M 11 0 a1), L)) rfl ⟨trivial, trivial⟩ ?_
    refine x_callV C (k := 11) (ci := 2) (rest := []) (avs := []) (k_X3_comparing l  (xup M 11 0 a1) L hI1) yoX3_comparing ml_X3_47 rfl rfl rfl rfl ⟨Nat.zero_le _, Nat.zero_le _⟩ (show decode cX3_decode 127 = .ok (.invokevirtual 47, 3) from by decide +kernel) rfl (fun v σ' hPo => ?_)
    obtain ⟨⟨rfl, rfl⟩, g19, hI20⟩ := hPo
    generalize hq18 : f_X3_comparing  (xup M 11 0 a1) = q18 at h g19 hI20 ⊢
    obtain ⟨r18, M18⟩ := q18
    have h := xb_eq h
    try dsimp only at h g19 hI20
    show V 0 0 130 [(0, .ref 11), (1, .int a1)] [.ref (1000 + r18)] LAY (M18, L)
    subst h
    exact x_aret C (show decode cX3_decode 130 = .ok (.areturn, 1) from by decide +kernel) (x_finE ⟨⟨rfl, rfl⟩, g19, hI20⟩) (Nat.le_refl 0) (Nat.le_refl 0)
  rw [if_neg c17] at h
  by_cases c21 : (ius a1 12) = 7
  · rw [if_pos c21] at h
    refine x_tin C (show decode cX3_decode 12 = .ok (.tableswitch 190 0 14 #[76, 76, 76, 81, 86, 100, 114, 119, 133, 147, 152, 156, 160, 180, 185], 76) from by decide +kernel) 7 c21 (off := 119) (tgt := 131) (by decide) ?_
    refine x_run C e_X3_decode_6 e_X3_decode_6_k (pc' := 132) (lv' := [(0, .ref 11), (1, .int a1)]) (st' := [.ref 11]) (σ' := ((xup M 11 0 a1), L)) rfl ⟨trivial, trivial⟩ ?_
    refine x_getE C 8 (by decide) (x_in 829 (by decide +kernel) rfl) (show decode cX3_decode 132 = .ok (.getstatic 50, 3) from by decide +kernel) ?_
    refine x_getE C 16 (by decide) (x_in 831 (by decide +kernel) rfl) (show decode cX3_decode 135 = .ok (.getstatic 53, 3) from by decide +kernel) ?_
    refine x_getE C 3 (by decide) (x_in 833 (by decide +kernel) rfl) (show decode cX3_decode 138 = .ok (.getstatic 56, 3) from by decide +kernel) ?_
    refine x_callV C (k := 11) (ci := 2) (rest := []) (avs := [.ref (1000 + 8), .ref (1000 + 16), .ref (1000 + 3)]) (k_X3_joining l 8 16 3 (xup M 11 0 a1) L (show 8 < 66 by decide) (show 16 < 66 by decide) (show 3 < 66 by decide) hI1) yoX3_joining ml_X3_59 rfl rfl rfl rfl ⟨Nat.zero_le _, Nat.zero_le _⟩ (show decode cX3_decode 141 = .ok (.invokevirtual 59, 3) from by decide +kernel) rfl (fun v σ' hPo => ?_)
    obtain ⟨⟨rfl, rfl⟩, g23, hI24⟩ := hPo
    generalize hq22 : f_X3_joining 8 16 3 (xup M 11 0 a1) = q22 at h g23 hI24 ⊢
    obtain ⟨r22, M22⟩ := q22
    have h := xb_eq h
    try dsimp only at h g23 hI24
    show V 0 0 144 [(0, .ref 11), (1, .int a1)] [.ref (1000 + r22)] LAY (M22, L)
    subst h
    exact x_aret C (show decode cX3_decode 144 = .ok (.areturn, 1) from by decide +kernel) (x_finE ⟨⟨rfl, rfl⟩, g23, hI24⟩) (Nat.le_refl 0) (Nat.le_refl 0)
  rw [if_neg c21] at h
  by_cases c25 : (ius a1 12) = 8
  · rw [if_pos c25] at h
    refine x_tin C (show decode cX3_decode 12 = .ok (.tableswitch 190 0 14 #[76, 76, 76, 81, 86, 100, 114, 119, 133, 147, 152, 156, 160, 180, 185], 76) from by decide +kernel) 8 c25 (off := 133) (tgt := 145) (by decide) ?_
    refine x_run C e_X3_decode_7 e_X3_decode_7_k (pc' := 146) (lv' := [(0, .ref 11), (1, .int a1)]) (st' := [.ref 11]) (σ' := ((xup M 11 0 a1), L)) rfl ⟨trivial, trivial⟩ ?_
    refine x_getE C 9 (by decide) (x_in 845 (by decide +kernel) rfl) (show decode cX3_decode 146 = .ok (.getstatic 62, 3) from by decide +kernel) ?_
    refine x_getE C 17 (by decide) (x_in 847 (by decide +kernel) rfl) (show decode cX3_decode 149 = .ok (.getstatic 65, 3) from by decide +kernel) ?_
    refine x_getE C 6 (by decide) (x_in 849 (by decide +kernel) rfl) (show decode cX3_decode 152 = .ok (.getstatic 68, 3) from by decide +kernel) ?_
    refine x_callV C (k := 11) (ci := 2) (rest := []) (avs := [.ref (1000 + 9), .ref (1000 + 17), .ref (1000 + 6)]) (k_X3_joining l 9 17 6 (xup M 11 0 a1) L (show 9 < 66 by decide) (show 17 < 66 by decide) (show 6 < 66 by decide) hI1) yoX3_joining ml_X3_59 rfl rfl rfl rfl ⟨Nat.zero_le _, Nat.zero_le _⟩ (show decode cX3_decode 155 = .ok (.invokevirtual 59, 3) from by decide +kernel) rfl (fun v σ' hPo => ?_)
    obtain ⟨⟨rfl, rfl⟩, g27, hI28⟩ := hPo
    generalize hq26 : f_X3_joining 9 17 6 (xup M 11 0 a1) = q26 at h g27 hI28 ⊢
    obtain ⟨r26, M26⟩ := q26
    have h := xb_eq h
    try dsimp only at h g27 hI28
    show V 0 0 158 [(0, .ref 11), (1, .int a1)] [.ref (1000 + r26)] LAY (M26, L)
    subst h
    exact x_aret C (show decode cX3_decode 158 = .ok (.areturn, 1) from by decide +kernel) (x_finE ⟨⟨rfl, rfl⟩, g27, hI28⟩) (Nat.le_refl 0) (Nat.le_refl 0)
  rw [if_neg c25] at h
  by_cases c29 : (ius a1 12) = 9
  · rw [if_pos c29] at h
    refine x_tin C (show decode cX3_decode 12 = .ok (.tableswitch 190 0 14 #[76, 76, 76, 81, 86, 100, 114, 119, 133, 147, 152, 156, 160, 180, 185], 76) from by decide +kernel) 9 c29 (off := 147) (tgt := 159) (by decide) ?_
    refine x_run C e_X3_decode_8 e_X3_decode_8_k (pc' := 160) (lv' := [(0, .ref 11), (1, .int a1)]) (st' := [.ref 11]) (σ' := ((xup M 11 0 a1), L)) rfl ⟨trivial, trivial⟩ ?_
    refine x_callV C (k := 11) (ci := 2) (rest := []) (avs := []) (k_X3_quick l  (xup M 11 0 a1) L hI1) yoX3_quick ml_X3_71 rfl rfl rfl rfl ⟨Nat.zero_le _, Nat.zero_le _⟩ (show decode cX3_decode 160 = .ok (.invokevirtual 71, 3) from by decide +kernel) rfl (fun v σ' hPo => ?_)
    obtain ⟨⟨rfl, rfl⟩, g31, hI32⟩ := hPo
    generalize hq30 : f_X3_quick  (xup M 11 0 a1) = q30 at h g31 hI32 ⊢
    obtain ⟨r30, M30⟩ := q30
    have h := xb_eq h
    try dsimp only at h g31 hI32
    show V 0 0 163 [(0, .ref 11), (1, .int a1)] [.ref (1000 + r30)] LAY (M30, L)
    subst h
    exact x_aret C (show decode cX3_decode 163 = .ok (.areturn, 1) from by decide +kernel) (x_finE ⟨⟨rfl, rfl⟩, g31, hI32⟩) (Nat.le_refl 0) (Nat.le_refl 0)
  rw [if_neg c29] at h
  by_cases c33 : (ius a1 12) = 10
  · rw [if_pos c33] at h
    refine x_tin C (show decode cX3_decode 12 = .ok (.tableswitch 190 0 14 #[76, 76, 76, 81, 86, 100, 114, 119, 133, 147, 152, 156, 160, 180, 185], 76) from by decide +kernel) 10 c33 (off := 152) (tgt := 164) (by decide) ?_
    refine x_getE C 62 (by decide) (x_in 863 (by decide +kernel) rfl) (show decode cX3_decode 164 = .ok (.getstatic 74, 3) from by decide +kernel) ?_
    subst h
    exact x_aret C (show decode cX3_decode 167 = .ok (.areturn, 1) from by decide +kernel) (x_finE ⟨⟨rfl, rfl⟩, (show 62 < 66 by decide), hI1⟩) (Nat.le_refl 0) (Nat.le_refl 0)
  rw [if_neg c33] at h
  by_cases c34 : (ius a1 12) = 11
  · rw [if_pos c34] at h
    refine x_tin C (show decode cX3_decode 12 = .ok (.tableswitch 190 0 14 #[76, 76, 76, 81, 86, 100, 114, 119, 133, 147, 152, 156, 160, 180, 185], 76) from by decide +kernel) 11 c34 (off := 156) (tgt := 168) (by decide) ?_
    refine x_getE C 48 (by decide) (x_in 865 (by decide +kernel) rfl) (show decode cX3_decode 168 = .ok (.getstatic 77, 3) from by decide +kernel) ?_
    subst h
    exact x_aret C (show decode cX3_decode 171 = .ok (.areturn, 1) from by decide +kernel) (x_finE ⟨⟨rfl, rfl⟩, (show 48 < 66 by decide), hI1⟩) (Nat.le_refl 0) (Nat.le_refl 0)
  rw [if_neg c34] at h
  by_cases c35 : (ius a1 12) = 12
  · rw [if_pos c35] at h
    refine x_tin C (show decode cX3_decode 12 = .ok (.tableswitch 190 0 14 #[76, 76, 76, 81, 86, 100, 114, 119, 133, 147, 152, 156, 160, 180, 185], 76) from by decide +kernel) 12 c35 (off := 160) (tgt := 172) (by decide) ?_
    refine x_run C e_X3_decode_9 e_X3_decode_9_k (pc' := 173) (lv' := [(0, .ref 11), (1, .int a1)]) (st' := [.ref 11]) (σ' := ((xup M 11 0 a1), L)) rfl ⟨trivial, trivial⟩ ?_
    refine x_callV C (k := 11) (ci := 2) (rest := []) (avs := []) (k_X3_bit8 l  (xup M 11 0 a1) L hI1) yoX3_bit8 ml_X3_80 rfl rfl rfl rfl ⟨Nat.zero_le _, Nat.zero_le _⟩ (show decode cX3_decode 173 = .ok (.invokevirtual 80, 3) from by decide +kernel) rfl (fun v σ' hPo => ?_)
    obtain ⟨⟨rfl, rfl⟩, g37, hI38⟩ := hPo
    show V 0 0 176 [(0, .ref 11), (1, .int a1)] [.int (f_X3_bit8  (xup M 11 0 a1))] LAY ((xup M 11 0 a1), L)
    refine x_run C e_X3_decode_10 e_X3_decode_10_k (pc' := 177) (lv' := [(0, .ref 11), (1, .int a1)]) (st' := [.int 1, .int (f_X3_bit8  (xup M 11 0 a1))]) (σ' := ((xup M 11 0 a1), L)) rfl ⟨trivial, trivial⟩ ?_
    refine x_icmp_ne C (show decode cX3_decode 177 = .ok (.if_icmp .ne 10, 3) from by decide +kernel) (tgt := 187) (by decide) (fun c39 => ?_) (fun c39 => ?_)
    · rw [if_neg c39] at h
      have g40 : xrg 0 0 (f_X3_bit8  (xup M 11 0 a1)) := (x_c_neh g37 (by decide) c39)
      refine x_run C e_X3_decode_11 e_X3_decode_11_k (pc' := 188) (lv' := [(0, .ref 11), (1, .int a1)]) (st' := [.ref 11]) (σ' := ((xup M 11 0 a1), L)) rfl ⟨trivial, trivial⟩ ?_
      refine x_callV C (k := 11) (ci := 2) (rest := []) (avs := []) (k_X3_byNumber l  (xup M 11 0 a1) L hI1) yoX3_byNumber ml_X3_87 rfl rfl rfl rfl ⟨Nat.zero_le _, Nat.zero_le _⟩ (show decode cX3_decode 188 = .ok (.invokevirtual 87, 3) from by decide +kernel) rfl (fun v σ' hPo => ?_)
      obtain ⟨⟨rfl, rfl⟩, g42, hI43⟩ := hPo
      generalize hq41 : f_X3_byNumber  (xup M 11 0 a1) = q41 at h g42 hI43 ⊢
      obtain ⟨r41, M41⟩ := q41
      have h := xb_eq h
      try dsimp only at h g42 hI43
      show V 0 0 191 [(0, .ref 11), (1, .int a1)] [.ref (1000 + r41)] LAY (M41, L)
      subst h
      exact x_aret C (show decode cX3_decode 191 = .ok (.areturn, 1) from by decide +kernel) (x_finE ⟨⟨rfl, rfl⟩, g42, hI43⟩) (Nat.le_refl 0) (Nat.le_refl 0)
    · rw [if_pos c39] at h
      have g44 : xrg 1 1 (f_X3_bit8  (xup M 11 0 a1)) := (x_c_eq g37 (x_rgc (x := 1) (k := 1) (by decide)) c39).1
      refine x_run C e_X3_decode_12 e_X3_decode_12_k (pc' := 181) (lv' := [(0, .ref 11), (1, .int a1)]) (st' := [.ref 11]) (σ' := ((xup M 11 0 a1), L)) rfl ⟨trivial, trivial⟩ ?_
      refine x_callV C (k := 11) (ci := 2) (rest := []) (avs := []) (k_X3_byRegister l  (xup M 11 0 a1) L hI1) yoX3_byRegister ml_X3_84 rfl rfl rfl rfl ⟨Nat.zero_le _, Nat.zero_le _⟩ (show decode cX3_decode 181 = .ok (.invokevirtual 84, 3) from by decide +kernel) rfl (fun v σ' hPo => ?_)
      obtain ⟨⟨rfl, rfl⟩, g46, hI47⟩ := hPo
      generalize hq45 : f_X3_byRegister  (xup M 11 0 a1) = q45 at h g46 hI47 ⊢
      obtain ⟨r45, M45⟩ := q45
      have h := xb_eq h
      try dsimp only at h g46 hI47
      show V 0 0 184 [(0, .ref 11), (1, .int a1)] [.ref (1000 + r45)] LAY (M45, L)
      refine x_goto C (show decode cX3_decode 184 = .ok (.goto 7, 3) from by decide +kernel) (tgt := 191) (by decide) ?_
      subst h
      exact x_aret C (show decode cX3_decode 191 = .ok (.areturn, 1) from by decide +kernel) (x_finE ⟨⟨rfl, rfl⟩, g46, hI47⟩) (Nat.le_refl 0) (Nat.le_refl 0)
  rw [if_neg c35] at h
  by_cases c48 : (ius a1 12) = 13
  · rw [if_pos c48] at h
    refine x_tin C (show decode cX3_decode 12 = .ok (.tableswitch 190 0 14 #[76, 76, 76, 81, 86, 100, 114, 119, 133, 147, 152, 156, 160, 180, 185], 76) from by decide +kernel) 13 c48 (off := 180) (tgt := 192) (by decide) ?_
    refine x_run C e_X3_decode_13 e_X3_decode_13_k (pc' := 193) (lv' := [(0, .ref 11), (1, .int a1)]) (st' := [.ref 11]) (σ' := ((xup M 11 0 a1), L)) rfl ⟨trivial, trivial⟩ ?_
    refine x_callV C (k := 11) (ci := 2) (rest := []) (avs := []) (k_X3_shifting l  (xup M 11 0 a1) L hI1) yoX3_shifting ml_X3_90 rfl rfl rfl rfl ⟨Nat.zero_le _, Nat.zero_le _⟩ (show decode cX3_decode 193 = .ok (.invokevirtual 90, 3) from by decide +kernel) rfl (fun v σ' hPo => ?_)
    obtain ⟨⟨rfl, rfl⟩, g50, hI51⟩ := hPo
    generalize hq49 : f_X3_shifting  (xup M 11 0 a1) = q49 at h g50 hI51 ⊢
    obtain ⟨r49, M49⟩ := q49
    have h := xb_eq h
    try dsimp only at h g50 hI51
    show V 0 0 196 [(0, .ref 11), (1, .int a1)] [.ref (1000 + r49)] LAY (M49, L)
    subst h
    exact x_aret C (show decode cX3_decode 196 = .ok (.areturn, 1) from by decide +kernel) (x_finE ⟨⟨rfl, rfl⟩, g50, hI51⟩) (Nat.le_refl 0) (Nat.le_refl 0)
  rw [if_neg c48] at h
  by_cases c52 : (ius a1 12) = 14
  · rw [if_pos c52] at h
    refine x_tin C (show decode cX3_decode 12 = .ok (.tableswitch 190 0 14 #[76, 76, 76, 81, 86, 100, 114, 119, 133, 147, 152, 156, 160, 180, 185], 76) from by decide +kernel) 14 c52 (off := 185) (tgt := 197) (by decide) ?_
    refine x_run C e_X3_decode_14 e_X3_decode_14_k (pc' := 198) (lv' := [(0, .ref 11), (1, .int a1)]) (st' := [.ref 11]) (σ' := ((xup M 11 0 a1), L)) rfl ⟨trivial, trivial⟩ ?_
    refine x_callV C (k := 11) (ci := 2) (rest := []) (avs := []) (k_X3_ofGroupFourteen l  (xup M 11 0 a1) L hI1) yoX3_ofGroupFourteen ml_X3_93 rfl rfl rfl rfl ⟨Nat.zero_le _, Nat.zero_le _⟩ (show decode cX3_decode 198 = .ok (.invokevirtual 93, 3) from by decide +kernel) rfl (fun v σ' hPo => ?_)
    obtain ⟨⟨rfl, rfl⟩, g54, hI55⟩ := hPo
    generalize hq53 : f_X3_ofGroupFourteen  (xup M 11 0 a1) = q53 at h g54 hI55 ⊢
    obtain ⟨r53, M53⟩ := q53
    have h := xb_eq h
    try dsimp only at h g54 hI55
    show V 0 0 201 [(0, .ref 11), (1, .int a1)] [.ref (1000 + r53)] LAY (M53, L)
    subst h
    exact x_aret C (show decode cX3_decode 201 = .ok (.areturn, 1) from by decide +kernel) (x_finE ⟨⟨rfl, rfl⟩, g54, hI55⟩) (Nat.le_refl 0) (Nat.le_refl 0)
  rw [if_neg c52] at h
  have hz : (ius a1 12).toInt < 0 ∨ 14 < (ius a1 12).toInt := by
    have zc2 := lv_neT (a := 0) c2 (by decide)
    have zc3 := lv_neT (a := 1) c3 (by decide)
    have zc4 := lv_neT (a := 2) c4 (by decide)
    have zc5 := lv_neT (a := 3) c5 (by decide)
    have zc9 := lv_neT (a := 4) c9 (by decide)
    have zc13 := lv_neT (a := 5) c13 (by decide)
    have zc17 := lv_neT (a := 6) c17 (by decide)
    have zc21 := lv_neT (a := 7) c21 (by decide)
    have zc25 := lv_neT (a := 8) c25 (by decide)
    have zc29 := lv_neT (a := 9) c29 (by decide)
    have zc33 := lv_neT (a := 10) c33 (by decide)
    have zc34 := lv_neT (a := 11) c34 (by decide)
    have zc35 := lv_neT (a := 12) c35 (by decide)
    have zc48 := lv_neT (a := 13) c48 (by decide)
    have zc52 := lv_neT (a := 14) c52 (by decide)
    omega
  refine x_tout C (show decode cX3_decode 12 = .ok (.tableswitch 190 0 14 #[76, 76, 76, 81, 86, 100, 114, 119, 133, 147, 152, 156, 160, 180, 185], 76) from by decide +kernel) hz (tgt := 202) (by decide) ?_
  refine x_getE C 63 (by decide) (x_in 911 (by decide +kernel) rfl) (show decode cX3_decode 202 = .ok (.getstatic 96, 3) from by decide +kernel) ?_
  subst h
  exact x_aret C (show decode cX3_decode 205 = .ok (.areturn, 1) from by decide +kernel) (x_finE ⟨⟨rfl, rfl⟩, (show 63 < 66 by decide), hI1⟩) (Nat.le_refl 0) (Nat.le_refl 0)
-- X7_begin
def e_X7_begin_1 : List xI := [(0, .aload_n 0, 1, .null), (1, .getfield 19, 3, .null)]
theorem e_X7_begin_1_k : e_X7_begin_1.all (fun q => xokB cX7_begin q && xokL q) = true := by decide +kernel
def e_X7_begin_2 : List xI := [(7, .aload_n 0, 1, .null), (8, .aload_n 0, 1, .null), (9, .getfield 19, 3, .null), (12, .ldc 127, 2, .null)]
theorem e_X7_begin_2_k : e_X7_begin_2.all (fun q => xokB cX7_begin q && xokL q) = true := by decide +kernel
def e_X7_begin_3 : List xI := [(17, .putfield 132, 3, .null), (20, .aload_n 0, 1, .null), (21, .aload_n 0, 1, .null), (22, .getfield 38, 3, .null), (25, .iconst 1, 1, .int 1)]
theorem e_X7_begin_3_k : e_X7_begin_3.all (fun q => xokB cX7_begin q && xokL q) = true := by decide +kernel
def e_X7_begin_4 : List xI := [(29, .putfield 81, 3, .null), (32, .aload_n 0, 1, .null), (33, .getfield 29, 3, .null), (36, .getfield 138, 3, .null)]
theorem e_X7_begin_4_k : e_X7_begin_4.all (fun q => xokB cX7_begin q && xokL q) = true := by decide +kernel
def e_X7_begin_5 : List xI := [(46, .aload_n 0, 1, .null), (47, .getfield 45, 3, .null), (50, .aload_n 0, 1, .null), (51, .getfield 81, 3, .null)]
theorem e_X7_begin_5_k : e_X7_begin_5.all (fun q => xokB cX7_begin q && xokL q) = true := by decide +kernel
def e_X7_begin_6 : List xI := [(57, .astore_n 1, 1, .null), (58, .aload_n 1, 1, .null)]
theorem e_X7_begin_6_k : e_X7_begin_6.all (fun q => xokB cX7_begin q && xokL q) = true := by decide +kernel
def e_X7_begin_7 : List xI := [(84, .aload_n 1, 1, .null)]
theorem e_X7_begin_7_k : e_X7_begin_7.all (fun q => xokB cX7_begin q && xokL q) = true := by decide +kernel
def e_X7_begin_8 : List xI := [(65, .aload_n 0, 1, .null), (66, .getfield 19, 3, .null), (69, .sipush 8192, 3, .int 8192)]
theorem e_X7_begin_8_k : e_X7_begin_8.all (fun q => xokB cX7_begin q && xokL q) = true := by decide +kernel
abbrev P_X7_begin (r : Nat × St) (L : Nat → Nat → Int64) : Option Value → xG → Prop := fun v σ' => PoE r.1 r.2 L v σ' ∧ r.1 < 66 ∧ InvK INVC r.2
abbrev R_X7_begin : Room := { frames := 5, cells := 0, slots := 0, locals := 112 }
abbrev C_X7_begin (l : Launch) (r : Nat × St) (L : Nat → Nat → Int64) (V : XJ) : Prop := XC l yX7_begin.cls yX7_begin.name cX7_begin 2 R_X7_begin 0 0 fl_X7 kc_X7 LAY.length (xfin (some (.object "SupervisorMachine$Op")) LAY (P_X7_begin r L)) V
def f_X7_begin (M : St) : Nat × St := (xb (f_X8_keep  M) fun q1 => (xb (f_X6_fetch 1 (xup q1 8 12 (f_X8_has 32768 q1))) fun q8 => (if (q8.2 4 10) = 0 then (xb (f_X3_decode q8.1 (xup q8.2 8 11 q8.1)) fun q14 => (if (opP.getD q14.1 0) = 0 then (q14.1, q14.2) else (if (f_X8_has 8192 q14.2) = 0 then (64, q14.2) else (q14.1, q14.2)))) else (60, (xup q8.2 8 11 q8.1)))))
set_option maxRecDepth 20000 in
set_option maxHeartbeats 4000000 in
theorem k_X7_begin (l : Launch) (M : St) (L : Nat → Nat → Int64) (hI : InvK INVC M) : XM l yX7_begin cX7_begin 2 (some (.object "SupervisorMachine$Op")) R_X7_begin LAY [.ref 8] (M, L) (P_X7_begin (f_X7_begin M) L) := by
  refine XM.of (by decide) (Nat.le_of_ble_eq_true rfl) LAY_in cl_ok fl_X7_ok kc_X7_ok (fun V C => ?_)
  obtain ⟨r, h⟩ : ∃ r, f_X7_begin M = r := ⟨_, rfl⟩
  rw [h] at C
  change C_X7_begin l r L V at C
  unfold f_X7_begin at h
  show V 0 0 0 [(0, .ref 8)] [] LAY (M, L)
  refine x_run C e_X7_begin_1 e_X7_begin_1_k (pc' := 4) (lv' := [(0, .ref 8)]) (st' := [.ref 1]) (σ' := (M, L)) rfl ⟨trivial, trivial, trivial⟩ ?_
  refine x_callV C (k := 1) (ci := 6) (rest := []) (avs := []) (k_X8_keep l  M L hI) yoX8_keep ml_X7_124 rfl rfl rfl rfl ⟨Nat.zero_le _, Nat.zero_le _⟩ (show decode cX7_begin 4 = .ok (.invokevirtual 124, 3) from by decide +kernel) rfl (fun v σ' hPo => ?_)
  obtain ⟨⟨rfl, rfl⟩, hI3⟩ := hPo
  generalize hq1 : f_X8_keep  M = q1 at h hI3 ⊢
  have h := xb_eq h
  show V 0 0 7 [(0, .ref 8)] [] LAY (q1, L)
  refine x_run C e_X7_begin_2 e_X7_begin_2_k (pc' := 14) (lv' := [(0, .ref 8)]) (st' := [.int 32768, .ref 1, .ref 8]) (σ' := (q1, L)) rfl ⟨trivial, trivial, trivial, trivial, trivial⟩ ?_
  refine x_callV C (k := 1) (ci := 6) (rest := [.ref 8]) (avs := [.int 32768]) (k_X8_has l 32768 q1 L hI3) yoX8_has ml_X7_128 rfl rfl rfl rfl ⟨Nat.zero_le _, Nat.zero_le _⟩ (show decode cX7_begin 14 = .ok (.invokevirtual 128, 3) from by decide +kernel) rfl (fun v σ' hPo => ?_)
  obtain ⟨⟨rfl, rfl⟩, g5, hI6⟩ := hPo
  show V 0 0 17 [(0, .ref 8)] [.int (f_X8_has 32768 q1), .ref 8] LAY (q1, L)
  refine x_run C e_X7_begin_3 e_X7_begin_3_k (pc' := 26) (lv' := [(0, .ref 8)]) (st' := [.int 1, .ref 10, .ref 8]) (σ' := ((xup q1 8 12 (f_X8_has 32768 q1)), L)) rfl ⟨(x_rgb g5), trivial, trivial, trivial, trivial, trivial⟩ ?_
  have hI7 : InvK INVC (xup q1 8 12 (f_X8_has 32768 q1)) := (hI3.fld 8 12 (f_X8_has 32768 q1) (by decide))
  refine x_callV C (k := 10) (ci := 4) (rest := [.ref 8]) (avs := [.int 1]) (k_X6_fetch l 1 (xup q1 8 12 (f_X8_has 32768 q1)) L hI7) yoX6_fetch ml_X7_135 rfl rfl rfl rfl ⟨Nat.zero_le _, Nat.zero_le _⟩ (show decode cX7_begin 26 = .ok (.invokevirtual 135, 3) from by decide +kernel) rfl (fun v σ' hPo => ?_)
  obtain ⟨⟨rfl, rfl⟩, g9, hI10⟩ := hPo
  generalize hq8 : f_X6_fetch 1 (xup q1 8 12 (f_X8_has 32768 q1)) = q8 at h g9 hI10 ⊢
  obtain ⟨r8, M8⟩ := q8
  have h := xb_eq h
  try dsimp only at h g9 hI10
  show V 0 0 29 [(0, .ref 8)] [.int r8, .ref 8] LAY (M8, L)
  refine x_run C e_X7_begin_4 e_X7_begin_4_k (pc' := 39) (lv' := [(0, .ref 8)]) (st' := [.int (M8 4 10)]) (σ' := ((xup M8 8 11 r8), L)) rfl ⟨trivial, trivial, trivial, trivial, trivial⟩ ?_
  have hI11 : InvK INVC (xup M8 8 11 r8) := (hI10.fld 8 11 r8 (by decide))
  refine x_if_eq C (show decode cX7_begin 39 = .ok (.ifCond .eq 7, 3) from by decide +kernel) (tgt := 46) (by decide) (fun c12 => ?_) (fun c12 => ?_)
  · rw [if_pos c12] at h
    have g13 : xrg 0 0 (M8 4 10) := (x_c_eq (hI10.at 5 rfl) (x_rgc (x := 0) (k := 0) (by decide)) c12).1
    refine x_run C e_X7_begin_5 e_X7_begin_5_k (pc' := 54) (lv' := [(0, .ref 8)]) (st' := [.int r8, .ref 11]) (σ' := ((xup M8 8 11 r8), L)) rfl ⟨trivial, trivial, trivial, trivial, trivial⟩ ?_
    refine x_callV C (k := 11) (ci := 2) (rest := []) (avs := [.int r8]) (k_X3_decode l r8 (xup M8 8 11 r8) L hI11) yoX3_decode ml_X7_147 rfl rfl rfl rfl ⟨Nat.zero_le _, Nat.zero_le _⟩ (show decode cX7_begin 54 = .ok (.invokevirtual 147, 3) from by decide +kernel) rfl (fun v σ' hPo => ?_)
    obtain ⟨⟨rfl, rfl⟩, g15, hI16⟩ := hPo
    generalize hq14 : f_X3_decode r8 (xup M8 8 11 r8) = q14 at h g15 hI16 ⊢
    obtain ⟨r14, M14⟩ := q14
    have h := xb_eq h
    try dsimp only at h g15 hI16
    show V 0 0 57 [(0, .ref 8)] [.ref (1000 + r14)] LAY (M14, L)
    refine x_run C e_X7_begin_6 e_X7_begin_6_k (pc' := 59) (lv' := [(1, .ref (1000 + r14)), (0, .ref 8)]) (st' := [.ref (1000 + r14)]) (σ' := (M14, L)) rfl ⟨trivial, trivial, trivial⟩ ?_
    refine x_getEF C g15 (x_in 1650 (by decide +kernel) rfl) (show decode cX7_begin 59 = .ok (.getfield 151, 3) from by decide +kernel) ?_
    refine x_if_eq C (show decode cX7_begin 62 = .ok (.ifCond .eq 22, 3) from by decide +kernel) (tgt := 84) (by decide) (fun c17 => ?_) (fun c17 => ?_)
    · rw [if_pos c17] at h
      have g18 : xrg 0 0 (opP.getD r14 0) := (x_c_eq (opP_rg g15) (x_rgc (x := 0) (k := 0) (by decide)) c17).1
      refine x_run C e_X7_begin_7 e_X7_begin_7_k (pc' := 85) (lv' := [(1, .ref (1000 + r14)), (0, .ref 8)]) (st' := [.ref (1000 + r14)]) (σ' := (M14, L)) rfl ⟨trivial, trivial⟩ ?_
      subst h
      exact x_aret C (show decode cX7_begin 85 = .ok (.areturn, 1) from by decide +kernel) (x_finE ⟨⟨rfl, rfl⟩, g15, hI16⟩) (Nat.le_refl 0) (Nat.le_refl 0)
    · rw [if_neg c17] at h
      have g19 : xrg 1 1 (opP.getD r14 0) := (x_c_ne (opP_rg g15) (by decide) c17)
      refine x_run C e_X7_begin_8 e_X7_begin_8_k (pc' := 72) (lv' := [(1, .ref (1000 + r14)), (0, .ref 8)]) (st' := [.int 8192, .ref 1]) (σ' := (M14, L)) rfl ⟨trivial, trivial, trivial, trivial⟩ ?_
      refine x_callV C (k := 1) (ci := 6) (rest := []) (avs := [.int 8192]) (k_X8_has l 8192 M14 L hI16) yoX8_has ml_X7_128 rfl rfl rfl rfl ⟨Nat.zero_le _, Nat.zero_le _⟩ (show decode cX7_begin 72 = .ok (.invokevirtual 128, 3) from by decide +kernel) rfl (fun v σ' hPo => ?_)
      obtain ⟨⟨rfl, rfl⟩, g21, hI22⟩ := hPo
      show V 0 0 75 [(1, .ref (1000 + r14)), (0, .ref 8)] [.int (f_X8_has 8192 M14)] LAY (M14, L)
      refine x_if_ne C (show decode cX7_begin 75 = .ok (.ifCond .ne 9, 3) from by decide +kernel) (tgt := 84) (by decide) (fun c23 => ?_) (fun c23 => ?_)
      · rw [if_neg c23] at h
        have g24 : xrg 1 1 (f_X8_has 8192 M14) := (x_c_ne g21 (by decide) c23)
        refine x_run C e_X7_begin_7 e_X7_begin_7_k (pc' := 85) (lv' := [(1, .ref (1000 + r14)), (0, .ref 8)]) (st' := [.ref (1000 + r14)]) (σ' := (M14, L)) rfl ⟨trivial, trivial⟩ ?_
        subst h
        exact x_aret C (show decode cX7_begin 85 = .ok (.areturn, 1) from by decide +kernel) (x_finE ⟨⟨rfl, rfl⟩, g15, hI16⟩) (Nat.le_refl 0) (Nat.le_refl 0)
      · rw [if_pos c23] at h
        have g25 : xrg 0 0 (f_X8_has 8192 M14) := (x_c_eq g21 (x_rgc (x := 0) (k := 0) (by decide)) c23).1
        refine x_getE C 64 (by decide) (x_in 913 (by decide +kernel) rfl) (show decode cX7_begin 78 = .ok (.getstatic 154, 3) from by decide +kernel) ?_
        refine x_goto C (show decode cX7_begin 81 = .ok (.goto 4, 3) from by decide +kernel) (tgt := 85) (by decide) ?_
        subst h
        exact x_aret C (show decode cX7_begin 85 = .ok (.areturn, 1) from by decide +kernel) (x_finE ⟨⟨rfl, rfl⟩, (show 64 < 66 by decide), hI16⟩) (Nat.le_refl 0) (Nat.le_refl 0)
  · rw [if_neg c12] at h
    have g26 : xrg 1 3 (M8 4 10) := (x_c_ne (hI10.at 5 rfl) (by decide) c12)
    refine x_getE C 60 (by decide) (x_in 643 (by decide +kernel) rfl) (show decode cX7_begin 42 = .ok (.getstatic 141, 3) from by decide +kernel) ?_
    subst h
    exact x_aret C (show decode cX7_begin 45 = .ok (.areturn, 1) from by decide +kernel) (x_finE ⟨⟨rfl, rfl⟩, (show 60 < 66 by decide), hI11⟩) (Nat.le_refl 0) (Nat.le_refl 0)
-- X6_stride
def e_X6_stride_1 : List xI := [(0, .iload_n 1, 1, .null)]
theorem e_X6_stride_1_k : e_X6_stride_1.all (fun q => xokB cX6_stride q && xokL q) = true := by decide +kernel
def e_X6_stride_2 : List xI := [(4, .iload_n 0, 1, .null), (5, .bipush 7, 2, .int 7)]
theorem e_X6_stride_2_k : e_X6_stride_2.all (fun q => xokB cX6_stride q && xokL q) = true := by decide +kernel
def e_X6_stride_3 : List xI := [(10, .iconst 2, 1, .int 2)]
theorem e_X6_stride_3_k : e_X6_stride_3.all (fun q => xokB cX6_stride q && xokL q) = true := by decide +kernel
def e_X6_stride_4 : List xI := [(14, .iload_n 1, 1, .null)]
theorem e_X6_stride_4_k : e_X6_stride_4.all (fun q => xokB cX6_stride q && xokL q) = true := by decide +kernel
abbrev P_X6_stride (r : Int32) (M0 : St) (L : Nat → Nat → Int64) : Option Value → xG → Prop := fun v σ' => PoI r M0 L v σ' ∧ xrg (-2147483648) 1073741824 r ∧ True
abbrev R_X6_stride : Room := { frames := 1, cells := 0, slots := 0, locals := 20 }
abbrev C_X6_stride (l : Launch) (r : Int32) (M0 : St) (L : Nat → Nat → Int64) (V : XJ) : Prop := XC l yX6_stride.cls yX6_stride.name cX6_stride 2 R_X6_stride 0 0 fl_X6 kc_X6 LAY.length (xfin (some .int) LAY (P_X6_stride r M0 L)) V
def f_X6_stride_14 (x1 : Int32) : Int32 := (f_X10_bytesOf x1)
def f_X6_stride (a1 : Int32) (a2 : Int32) : Int32 := (if a2 = 0 then (if a1 = 7 then 2 else f_X6_stride_14 a2) else f_X6_stride_14 a2)
set_option maxRecDepth 20000 in
set_option maxHeartbeats 4000000 in
theorem b_X6_stride_14 {l : Launch} {L : Nat → Nat → Int64} {V : XJ} (r : Int32) {M : St} (C : C_X6_stride l r M L V) (x1 : Int32) (h : f_X6_stride_14 x1 = r) : V 0 0 14 [(1, .int x1)] [] LAY (M, L) := by
  unfold f_X6_stride_14 at h
  refine x_run C e_X6_stride_4 e_X6_stride_4_k (pc' := 15) (lv' := [(1, .int x1)]) (st' := [.int x1]) (σ' := (M, L)) rfl ⟨trivial, trivial⟩ ?_
  refine x_callSN C (rest := []) (avs := [.int x1]) (k_X10_bytesOf l x1 M L) yoX10_bytesOf ml_X6_65 rfl ⟨Nat.zero_le _, Nat.zero_le _⟩ (show decode cX6_stride 15 = .ok (.invokestatic 65, 3) from by decide +kernel) rfl (fun v σ' hPo => ?_)
  obtain ⟨⟨rfl, rfl⟩, g6, -⟩ := hPo
  show V 0 0 18 [(1, .int x1)] [.int (f_X10_bytesOf x1)] LAY (M, L)
  subst h
  exact x_iret C (show decode cX6_stride 18 = .ok (.ireturn, 1) from by decide +kernel) (x_finI rfl ⟨⟨rfl, rfl⟩, g6, trivial⟩) (Nat.le_refl 0) (Nat.le_refl 0)
set_option maxRecDepth 20000 in
set_option maxHeartbeats 4000000 in
theorem k_X6_stride (l : Launch) (a1 : Int32) (a2 : Int32) (M : St) (L : Nat → Nat → Int64) : XM l yX6_stride cX6_stride 2 (some .int) R_X6_stride LAY [.int a1, .int a2] (M, L) (P_X6_stride (f_X6_stride a1 a2) M L) := by
  refine XM.of (by decide) (Nat.le_of_ble_eq_true rfl) LAY_in cl_ok fl_X6_ok kc_X6_ok (fun V C => ?_)
  obtain ⟨r, h⟩ : ∃ r, f_X6_stride a1 a2 = r := ⟨_, rfl⟩
  rw [h] at C
  change C_X6_stride l r M L V at C
  unfold f_X6_stride at h
  show V 0 0 0 [(0, .int a1), (1, .int a2)] [] LAY (M, L)
  refine x_run C e_X6_stride_1 e_X6_stride_1_k (pc' := 1) (lv' := [(0, .int a1), (1, .int a2)]) (st' := [.int a2]) (σ' := (M, L)) rfl ⟨trivial, trivial⟩ ?_
  refine x_if_ne C (show decode cX6_stride 1 = .ok (.ifCond .ne 13, 3) from by decide +kernel) (tgt := 14) (by decide) (fun c1 => ?_) (fun c1 => ?_)
  · rw [if_neg c1] at h
    refine x_lv C [1] rfl ?_
    exact b_X6_stride_14 r C a2  h
  · rw [if_pos c1] at h
    have g2 : xrg 0 0 a2 := (x_c_eq (x_rgt a2) (x_rgc (x := 0) (k := 0) (by decide)) c1).1
    refine x_run C e_X6_stride_2 e_X6_stride_2_k (pc' := 7) (lv' := [(0, .int a1), (1, .int a2)]) (st' := [.int 7, .int a1]) (σ' := (M, L)) rfl ⟨trivial, trivial, trivial⟩ ?_
    refine x_icmp_ne C (show decode cX6_stride 7 = .ok (.if_icmp .ne 7, 3) from by decide +kernel) (tgt := 14) (by decide) (fun c3 => ?_) (fun c3 => ?_)
    · rw [if_neg c3] at h
      refine x_lv C [1] rfl ?_
      exact b_X6_stride_14 r C a2  h
    · rw [if_pos c3] at h
      have g4 : xrg 7 7 a1 := (x_c_eq (x_rgt a1) (x_rgc (x := 7) (k := 7) (by decide)) c3).1
      refine x_run C e_X6_stride_3 e_X6_stride_3_k (pc' := 11) (lv' := [(0, .int a1), (1, .int a2)]) (st' := [.int 2]) (σ' := (M, L)) rfl ⟨trivial, trivial⟩ ?_
      refine x_goto C (show decode cX6_stride 11 = .ok (.goto 7, 3) from by decide +kernel) (tgt := 18) (by decide) ?_
      subst h
      exact x_iret C (show decode cX6_stride 18 = .ok (.ireturn, 1) from by decide +kernel) (x_finI rfl ⟨⟨rfl, rfl⟩, (x_rgw (x_rgc (x := 2) (k := 2) (by decide)) (lo' := (-2147483648)) (hi' := 1073741824) (by decide) (by decide)), trivial⟩) (Nat.le_refl 0) (Nat.le_refl 0)
-- X10_extended
def e_X10_extended_1 : List xI := [(0, .iload_n 1, 1, .null)]
theorem e_X10_extended_1_k : e_X10_extended_1.all (fun q => xokB cX10_extended q && xokL q) = true := by decide +kernel
def e_X10_extended_2 : List xI := [(9, .iload_n 1, 1, .null), (10, .iconst 1, 1, .int 1)]
theorem e_X10_extended_2_k : e_X10_extended_2.all (fun q => xokB cX10_extended q && xokL q) = true := by decide +kernel
def e_X10_extended_3 : List xI := [(19, .iload_n 0, 1, .null)]
theorem e_X10_extended_3_k : e_X10_extended_3.all (fun q => xokB cX10_extended q && xokL q) = true := by decide +kernel
def e_X10_extended_4 : List xI := [(14, .iload_n 0, 1, .null), (15, .i2s, 1, .null)]
theorem e_X10_extended_4_k : e_X10_extended_4.all (fun q => xokB cX10_extended q && xokL q) = true := by decide +kernel
def e_X10_extended_5 : List xI := [(4, .iload_n 0, 1, .null), (5, .i2b, 1, .null)]
theorem e_X10_extended_5_k : e_X10_extended_5.all (fun q => xokB cX10_extended q && xokL q) = true := by decide +kernel
abbrev P_X10_extended (r : Int32) (M0 : St) (L : Nat → Nat → Int64) : Option Value → xG → Prop := fun v σ' => PoI r M0 L v σ' ∧ True ∧ True
abbrev R_X10_extended : Room := { frames := 0, cells := 0, slots := 0, locals := 0 }
abbrev C_X10_extended (l : Launch) (r : Int32) (M0 : St) (L : Nat → Nat → Int64) (V : XJ) : Prop := XC l yX10_extended.cls yX10_extended.name cX10_extended 2 R_X10_extended 0 0 fl_X10 kc_X10 LAY.length (xfin (some .int) LAY (P_X10_extended r M0 L)) V
def f_X10_extended (a1 : Int32) (a2 : Int32) : Int32 := (if a2 = 0 then a1.toInt8.toInt32 else (if a2 = 1 then a1.toInt16.toInt32 else a1))
set_option maxRecDepth 20000 in
set_option maxHeartbeats 4000000 in
theorem k_X10_extended (l : Launch) (a1 : Int32) (a2 : Int32) (M : St) (L : Nat → Nat → Int64) : XM l yX10_extended cX10_extended 2 (some .int) R_X10_extended LAY [.int a1, .int a2] (M, L) (P_X10_extended (f_X10_extended a1 a2) M L) := by
  refine XM.of (by decide) (Nat.le_of_ble_eq_true rfl) LAY_in cl_ok fl_X10_ok kc_X10_ok (fun V C => ?_)
  obtain ⟨r, h⟩ : ∃ r, f_X10_extended a1 a2 = r := ⟨_, rfl⟩
  rw [h] at C
  change C_X10_extended l r M L V at C
  unfold f_X10_extended at h
  show V 0 0 0 [(0, .int a1), (1, .int a2)] [] LAY (M, L)
  refine x_run C e_X10_extended_1 e_X10_extended_1_k (pc' := 1) (lv' := [(0, .int a1), (1, .int a2)]) (st' := [.int a2]) (σ' := (M, L)) rfl ⟨trivial, trivial⟩ ?_
  refine x_if_ne C (show decode cX10_extended 1 = .ok (.ifCond .ne 8, 3) from by decide +kernel) (tgt := 9) (by decide) (fun c1 => ?_) (fun c1 => ?_)
  · rw [if_neg c1] at h
    refine x_run C e_X10_extended_2 e_X10_extended_2_k (pc' := 11) (lv' := [(0, .int a1), (1, .int a2)]) (st' := [.int 1, .int a2]) (σ' := (M, L)) rfl ⟨trivial, trivial, trivial⟩ ?_
    refine x_icmp_ne C (show decode cX10_extended 11 = .ok (.if_icmp .ne 8, 3) from by decide +kernel) (tgt := 19) (by decide) (fun c2 => ?_) (fun c2 => ?_)
    · rw [if_neg c2] at h
      refine x_run C e_X10_extended_3 e_X10_extended_3_k (pc' := 20) (lv' := [(0, .int a1), (1, .int a2)]) (st' := [.int a1]) (σ' := (M, L)) rfl ⟨trivial, trivial⟩ ?_
      subst h
      exact x_iret C (show decode cX10_extended 20 = .ok (.ireturn, 1) from by decide +kernel) (x_finI rfl ⟨⟨rfl, rfl⟩, trivial, trivial⟩) (Nat.le_refl 0) (Nat.le_refl 0)
    · rw [if_pos c2] at h
      have g3 : xrg 1 1 a2 := (x_c_eq (x_rgt a2) (x_rgc (x := 1) (k := 1) (by decide)) c2).1
      refine x_run C e_X10_extended_4 e_X10_extended_4_k (pc' := 16) (lv' := [(0, .int a1), (1, .int a2)]) (st' := [.int a1.toInt16.toInt32]) (σ' := (M, L)) rfl ⟨trivial, trivial, trivial⟩ ?_
      refine x_goto C (show decode cX10_extended 16 = .ok (.goto 4, 3) from by decide +kernel) (tgt := 20) (by decide) ?_
      subst h
      exact x_iret C (show decode cX10_extended 20 = .ok (.ireturn, 1) from by decide +kernel) (x_finI rfl ⟨⟨rfl, rfl⟩, trivial, trivial⟩) (Nat.le_refl 0) (Nat.le_refl 0)
  · rw [if_pos c1] at h
    have g4 : xrg 0 0 a2 := (x_c_eq (x_rgt a2) (x_rgc (x := 0) (k := 0) (by decide)) c1).1
    refine x_run C e_X10_extended_5 e_X10_extended_5_k (pc' := 6) (lv' := [(0, .int a1), (1, .int a2)]) (st' := [.int a1.toInt8.toInt32]) (σ' := (M, L)) rfl ⟨trivial, trivial, trivial⟩ ?_
    refine x_goto C (show decode cX10_extended 6 = .ok (.goto 14, 3) from by decide +kernel) (tgt := 20) (by decide) ?_
    subst h
    exact x_iret C (show decode cX10_extended 20 = .ok (.ireturn, 1) from by decide +kernel) (x_finI rfl ⟨⟨rfl, rfl⟩, trivial, trivial⟩) (Nat.le_refl 0) (Nat.le_refl 0)
theorem x_ext_nz {a : Int32} (h : xrg 0 65535 a) (hn : ¬ a = 0) : ¬ f_X10_extended a 1 = 0 := by
  intro e
  apply hn
  have e1 : a.toInt16.toInt32 = 0 := e
  obtain ⟨j, hj, rfl⟩ := vp_in_of (x := a) (n := 65536) (x_rgv h (by decide) (by decide)) (by decide)
  have e2 : (nI j).toInt16 = 0 := by
    have := congrArg Int32.toInt16 e1
    simpa using this
  have e3 : ((nI j).toInt16).toBitVec.toNat = 0 := by rw [e2]; decide
  have e4 : ((nI j).toInt16).toBitVec.toNat = j % 65536 := by
    show ((nI j).toBitVec.signExtend 16).toNat = _
    rw [BitVec.signExtend_eq_setWidth_of_le _ (by decide), BitVec.toNat_setWidth, pk_tn (by omega)]
  rw [e4, Nat.mod_eq_of_lt hj] at e3
  rw [e3]
  rfl
-- X6_index
def e_X6_index_1 : List xI := [(0, .aload_n 0, 1, .null), (1, .getfield 15, 3, .null), (4, .iload_n 1, 1, .null), (5, .bipush 12, 2, .int 12), (7, .iushr, 1, .null), (8, .bipush 15, 2, .int 15), (10, .iand, 1, .null), (11, .iaload, 1, .null), (12, .istore_n 2, 1, .null), (13, .iload_n 1, 1, .null), (14, .sipush 2048, 3, .int 2048), (17, .iand, 1, .null)]
theorem e_X6_index_1_k : e_X6_index_1.all (fun q => xokB cX6_index q && xokL q) = true := by decide +kernel
def e_X6_index_2 : List xI := [(25, .iconst 0, 1, .int 0)]
theorem e_X6_index_2_k : e_X6_index_2.all (fun q => xokB cX6_index q && xokL q) = true := by decide +kernel
def e_X6_index_3 : List xI := [(21, .iconst 1, 1, .int 1)]
theorem e_X6_index_3_k : e_X6_index_3.all (fun q => xokB cX6_index q && xokL q) = true := by decide +kernel
def e_X6_index_4 : List xI := [(26, .istore_n 3, 1, .null), (27, .iload_n 1, 1, .null), (28, .iconst 0, 1, .int 0)]
theorem e_X6_index_4_k : e_X6_index_4.all (fun q => xokB cX6_index q && xokL q) = true := by decide +kernel
def e_X6_index_5 : List xI := [(32, .iload_n 3, 1, .null)]
theorem e_X6_index_5_k : e_X6_index_5.all (fun q => xokB cX6_index q && xokL q) = true := by decide +kernel
def e_X6_index_6 : List xI := [(40, .iload_n 2, 1, .null), (41, .iconst 1, 1, .int 1)]
theorem e_X6_index_6_k : e_X6_index_6.all (fun q => xokB cX6_index q && xokL q) = true := by decide +kernel
def e_X6_index_7 : List xI := [(45, .iadd, 1, .null)]
theorem e_X6_index_7_k : e_X6_index_7.all (fun q => xokB cX6_index q && xokL q) = true := by decide +kernel
def e_X6_index_8 : List xI := [(36, .iload_n 2, 1, .null)]
theorem e_X6_index_8_k : e_X6_index_8.all (fun q => xokB cX6_index q && xokL q) = true := by decide +kernel
abbrev P_X6_index (r : Int32) (M0 : St) (L : Nat → Nat → Int64) : Option Value → xG → Prop := fun v σ' => PoI r M0 L v σ' ∧ True ∧ InvK INVC M0
abbrev R_X6_index : Room := { frames := 1, cells := 0, slots := 0, locals := 21 }
abbrev C_X6_index (l : Launch) (r : Int32) (M0 : St) (L : Nat → Nat → Int64) (V : XJ) : Prop := XC l yX6_index.cls yX6_index.name cX6_index 4 R_X6_index 0 0 fl_X6 kc_X6 LAY.length (xfin (some .int) LAY (P_X6_index r M0 L)) V
def f_X6_index_26 (x1 : Int32) (x2 : Int32) (s0 : Int32) (M : St) : Int32 := (if s0 = 0 then ((f_X10_extended x1 0) + (f_X10_extended x2 1)) else ((f_X10_extended x1 0) + x2))
def f_X6_index (a1 : Int32) (M : St) : Int32 := (if (a1 &&& 2048) = 0 then f_X6_index_26 a1 (M 2 ((ius a1 12) &&& 15).toNatClampNeg) 0 M else f_X6_index_26 a1 (M 2 ((ius a1 12) &&& 15).toNatClampNeg) 1 M)
set_option maxRecDepth 20000 in
set_option maxHeartbeats 4000000 in
theorem b_X6_index_26 {l : Launch} {L : Nat → Nat → Int64} {V : XJ} (r : Int32) {M : St} (C : C_X6_index l r M L V) (x1 : Int32) (x2 : Int32) (s0 : Int32) (ws0 : xrg 0 1 s0) (hI : InvK INVC M) (h : f_X6_index_26 x1 x2 s0 M = r) : V 0 0 26 [(1, .int x1), (2, .int x2)] [.int s0] LAY (M, L) := by
  unfold f_X6_index_26 at h
  refine x_run C e_X6_index_4 e_X6_index_4_k (pc' := 29) (lv' := [(3, .int s0), (1, .int x1), (2, .int x2)]) (st' := [.int 0, .int x1]) (σ' := (M, L)) rfl ⟨trivial, trivial, trivial, trivial⟩ ?_
  refine x_callSN C (rest := []) (avs := [.int x1, .int 0]) (k_X10_extended l x1 0 M L) yoX10_extended ml_X6_48 rfl ⟨Nat.zero_le _, Nat.zero_le _⟩ (show decode cX6_index 29 = .ok (.invokestatic 48, 3) from by decide +kernel) rfl (fun v σ' hPo => ?_)
  obtain ⟨⟨rfl, rfl⟩, g5, -⟩ := hPo
  show V 0 0 32 [(3, .int s0), (1, .int x1), (2, .int x2)] [.int (f_X10_extended x1 0)] LAY (M, L)
  refine x_run C e_X6_index_5 e_X6_index_5_k (pc' := 33) (lv' := [(3, .int s0), (1, .int x1), (2, .int x2)]) (st' := [.int s0, .int (f_X10_extended x1 0)]) (σ' := (M, L)) rfl ⟨trivial, trivial⟩ ?_
  refine x_if_eq C (show decode cX6_index 33 = .ok (.ifCond .eq 7, 3) from by decide +kernel) (tgt := 40) (by decide) (fun c7 => ?_) (fun c7 => ?_)
  · rw [if_pos c7] at h
    have g8 : xrg 0 0 s0 := (x_c_eq ws0 (x_rgc (x := 0) (k := 0) (by decide)) c7).1
    refine x_run C e_X6_index_6 e_X6_index_6_k (pc' := 42) (lv' := [(3, .int s0), (1, .int x1), (2, .int x2)]) (st' := [.int 1, .int x2, .int (f_X10_extended x1 0)]) (σ' := (M, L)) rfl ⟨trivial, trivial, trivial⟩ ?_
    refine x_callSN C (rest := [.int (f_X10_extended x1 0)]) (avs := [.int x2, .int 1]) (k_X10_extended l x2 1 M L) yoX10_extended ml_X6_48 rfl ⟨Nat.zero_le _, Nat.zero_le _⟩ (show decode cX6_index 42 = .ok (.invokestatic 48, 3) from by decide +kernel) rfl (fun v σ' hPo => ?_)
    obtain ⟨⟨rfl, rfl⟩, g10, -⟩ := hPo
    show V 0 0 45 [(3, .int s0), (1, .int x1), (2, .int x2)] [.int (f_X10_extended x2 1), .int (f_X10_extended x1 0)] LAY (M, L)
    refine x_run C e_X6_index_7 e_X6_index_7_k (pc' := 46) (lv' := [(3, .int s0), (1, .int x1), (2, .int x2)]) (st' := [.int ((f_X10_extended x1 0) + (f_X10_extended x2 1))]) (σ' := (M, L)) rfl ⟨trivial, trivial⟩ ?_
    subst h
    exact x_iret C (show decode cX6_index 46 = .ok (.ireturn, 1) from by decide +kernel) (x_finI rfl ⟨⟨rfl, rfl⟩, trivial, hI⟩) (Nat.le_refl 0) (Nat.le_refl 0)
  · rw [if_neg c7] at h
    have g12 : xrg 1 1 s0 := (x_c_ne ws0 (by decide) c7)
    refine x_run C e_X6_index_8 e_X6_index_8_k (pc' := 37) (lv' := [(3, .int s0), (1, .int x1), (2, .int x2)]) (st' := [.int x2, .int (f_X10_extended x1 0)]) (σ' := (M, L)) rfl ⟨trivial, trivial⟩ ?_
    refine x_goto C (show decode cX6_index 37 = .ok (.goto 8, 3) from by decide +kernel) (tgt := 45) (by decide) ?_
    refine x_run C e_X6_index_7 e_X6_index_7_k (pc' := 46) (lv' := [(3, .int s0), (1, .int x1), (2, .int x2)]) (st' := [.int ((f_X10_extended x1 0) + x2)]) (σ' := (M, L)) rfl ⟨trivial, trivial⟩ ?_
    subst h
    exact x_iret C (show decode cX6_index 46 = .ok (.ireturn, 1) from by decide +kernel) (x_finI rfl ⟨⟨rfl, rfl⟩, trivial, hI⟩) (Nat.le_refl 0) (Nat.le_refl 0)
set_option maxRecDepth 20000 in
set_option maxHeartbeats 4000000 in
theorem k_X6_index (l : Launch) (a1 : Int32) (M : St) (L : Nat → Nat → Int64) (hI : InvK INVC M) : XM l yX6_index cX6_index 4 (some .int) R_X6_index LAY [.ref 10, .int a1] (M, L) (P_X6_index (f_X6_index a1 M) M L) := by
  refine XM.of (by decide) (Nat.le_of_ble_eq_true rfl) LAY_in cl_ok fl_X6_ok kc_X6_ok (fun V C => ?_)
  obtain ⟨r, h⟩ : ∃ r, f_X6_index a1 M = r := ⟨_, rfl⟩
  rw [h] at C
  change C_X6_index l r M L V at C
  unfold f_X6_index at h
  show V 0 0 0 [(0, .ref 10), (1, .int a1)] [] LAY (M, L)
  refine x_run C e_X6_index_1 e_X6_index_1_k (pc' := 18) (lv' := [(2, .int (M 2 ((ius a1 12) &&& 15).toNatClampNeg)), (0, .ref 10), (1, .int a1)]) (st' := [.int (a1 &&& 2048)]) (σ' := (M, L)) rfl ⟨trivial, trivial, trivial, trivial, trivial, trivial, trivial, (x_rgv (x_rg_and (x := (ius a1 12)) (m := 15) (k := 15) (by decide) (by decide)) (by decide) (by decide)), trivial, trivial, trivial, trivial, trivial⟩ ?_
  refine x_if_eq C (show decode cX6_index 18 = .ok (.ifCond .eq 7, 3) from by decide +kernel) (tgt := 25) (by decide) (fun c1 => ?_) (fun c1 => ?_)
  · rw [if_pos c1] at h
    have g2 : xrg 0 0 (a1 &&& 2048) := (x_c_eq (x_rg_and (x := a1) (m := 2048) (k := 2048) (by decide) (by decide)) (x_rgc (x := 0) (k := 0) (by decide)) c1).1
    refine x_run C e_X6_index_2 e_X6_index_2_k (pc' := 26) (lv' := [(2, .int (M 2 ((ius a1 12) &&& 15).toNatClampNeg)), (0, .ref 10), (1, .int a1)]) (st' := [.int 0]) (σ' := (M, L)) rfl ⟨trivial, trivial⟩ ?_
    refine x_lv C [2, 0] rfl ?_
    exact b_X6_index_26 r C a1 (M 2 ((ius a1 12) &&& 15).toNatClampNeg) 0  (x_rgw (x_rgc (x := 0) (k := 0) (by decide)) (lo' := 0) (hi' := 1) (by decide) (by decide)) hI h
  · rw [if_neg c1] at h
    have g3 : xrg 1 2048 (a1 &&& 2048) := (x_c_ne (x_rg_and (x := a1) (m := 2048) (k := 2048) (by decide) (by decide)) (by decide) c1)
    refine x_run C e_X6_index_3 e_X6_index_3_k (pc' := 22) (lv' := [(2, .int (M 2 ((ius a1 12) &&& 15).toNatClampNeg)), (0, .ref 10), (1, .int a1)]) (st' := [.int 1]) (σ' := (M, L)) rfl ⟨trivial, trivial⟩ ?_
    refine x_goto C (show decode cX6_index 22 = .ok (.goto 4, 3) from by decide +kernel) (tgt := 26) (by decide) ?_
    refine x_lv C [2, 0] rfl ?_
    exact b_X6_index_26 r C a1 (M 2 ((ius a1 12) &&& 15).toNatClampNeg) 1  (x_rgw (x_rgc (x := 1) (k := 1) (by decide)) (lo' := 0) (hi' := 1) (by decide) (by decide)) hI h
-- X6_find
def e_X6_find_1 : List xI := [(0, .iload_n 1, 1, .null), (1, .bipush 7, 2, .int 7), (3, .iand, 1, .null), (4, .istore_n 3, 1, .null), (5, .bipush 8, 2, .int 8), (7, .iload_n 3, 1, .null), (8, .iadd, 1, .null), (9, .istore 4, 2, .null), (11, .aload_n 0, 1, .null), (12, .getfield 15, 3, .null), (15, .bipush 17, 2, .int 17), (17, .iaload, 1, .null), (18, .istore 5, 2, .null), (20, .aload_n 0, 1, .null), (21, .iload_n 1, 1, .null)]
theorem e_X6_find_1_k : e_X6_find_1.all (fun q => xokB cX6_find q && xokL q) = true := by decide +kernel
def e_X6_find_2 : List xI := [(25, .putfield 34, 3, .null), (28, .aload_n 0, 1, .null), (29, .getfield 34, 3, .null)]
theorem e_X6_find_2_k : e_X6_find_2.all (fun q => xokB cX6_find q && xokL q) = true := by decide +kernel
def e_X6_find_3 : List xI := [(96, .aload_n 0, 1, .null), (97, .iload_n 3, 1, .null), (98, .putfield 38, 3, .null)]
theorem e_X6_find_3_k : e_X6_find_3.all (fun q => xokB cX6_find q && xokL q) = true := by decide +kernel
def e_X6_find_4 : List xI := [(104, .aload_n 0, 1, .null), (105, .iload 4, 2, .null), (107, .putfield 38, 3, .null)]
theorem e_X6_find_4_k : e_X6_find_4.all (fun q => xokB cX6_find q && xokL q) = true := by decide +kernel
def e_X6_find_5 : List xI := [(113, .aload_n 0, 1, .null), (114, .aload_n 0, 1, .null), (115, .getfield 15, 3, .null), (118, .iload 4, 2, .null), (120, .iaload, 1, .null), (121, .putfield 38, 3, .null), (124, .aload_n 0, 1, .null), (125, .getfield 15, 3, .null), (128, .iload 4, 2, .null), (130, .dup2, 1, .null), (131, .iaload, 1, .null), (132, .iload_n 3, 1, .null), (133, .iload_n 2, 1, .null)]
theorem e_X6_find_5_k : e_X6_find_5.all (fun q => xokB cX6_find q && xokL q) = true := by decide +kernel
def e_X6_find_6 : List xI := [(137, .iadd, 1, .null), (138, .iastore, 1, .null)]
theorem e_X6_find_6_k : e_X6_find_6.all (fun q => xokB cX6_find q && xokL q) = true := by decide +kernel
def e_X6_find_7 : List xI := [(142, .aload_n 0, 1, .null), (143, .getfield 15, 3, .null), (146, .iload 4, 2, .null), (148, .dup2, 1, .null), (149, .iaload, 1, .null), (150, .iload_n 3, 1, .null), (151, .iload_n 2, 1, .null)]
theorem e_X6_find_7_k : e_X6_find_7.all (fun q => xokB cX6_find q && xokL q) = true := by decide +kernel
def e_X6_find_8 : List xI := [(155, .isub, 1, .null), (156, .iastore, 1, .null), (157, .aload_n 0, 1, .null), (158, .aload_n 0, 1, .null), (159, .getfield 15, 3, .null), (162, .iload 4, 2, .null), (164, .iaload, 1, .null), (165, .putfield 38, 3, .null)]
theorem e_X6_find_8_k : e_X6_find_8.all (fun q => xokB cX6_find q && xokL q) = true := by decide +kernel
def e_X6_find_9 : List xI := [(171, .aload_n 0, 1, .null), (172, .aload_n 0, 1, .null), (173, .getfield 15, 3, .null), (176, .iload 4, 2, .null), (178, .iaload, 1, .null), (179, .aload_n 0, 1, .null), (180, .iconst 1, 1, .int 1)]
theorem e_X6_find_9_k : e_X6_find_9.all (fun q => xokB cX6_find q && xokL q) = true := by decide +kernel
def e_X6_find_10 : List xI := [(184, .iconst 1, 1, .int 1)]
theorem e_X6_find_10_k : e_X6_find_10.all (fun q => xokB cX6_find q && xokL q) = true := by decide +kernel
def e_X6_find_11 : List xI := [(188, .iadd, 1, .null), (189, .putfield 38, 3, .null)]
theorem e_X6_find_11_k : e_X6_find_11.all (fun q => xokB cX6_find q && xokL q) = true := by decide +kernel
def e_X6_find_12 : List xI := [(195, .aload_n 0, 1, .null), (196, .aload_n 0, 1, .null), (197, .getfield 15, 3, .null), (200, .iload 4, 2, .null), (202, .iaload, 1, .null), (203, .aload_n 0, 1, .null), (204, .aload_n 0, 1, .null), (205, .iconst 1, 1, .int 1)]
theorem e_X6_find_12_k : e_X6_find_12.all (fun q => xokB cX6_find q && xokL q) = true := by decide +kernel
def e_X6_find_13 : List xI := [(212, .iadd, 1, .null), (213, .putfield 38, 3, .null)]
theorem e_X6_find_13_k : e_X6_find_13.all (fun q => xokB cX6_find q && xokL q) = true := by decide +kernel
def e_X6_find_14 : List xI := [(219, .aload_n 0, 1, .null), (220, .aload_n 0, 1, .null), (221, .iconst 1, 1, .int 1)]
theorem e_X6_find_14_k : e_X6_find_14.all (fun q => xokB cX6_find q && xokL q) = true := by decide +kernel
def e_X6_find_15 : List xI := [(225, .iconst 1, 1, .int 1)]
theorem e_X6_find_15_k : e_X6_find_15.all (fun q => xokB cX6_find q && xokL q) = true := by decide +kernel
def e_X6_find_16 : List xI := [(229, .putfield 38, 3, .null)]
theorem e_X6_find_16_k : e_X6_find_16.all (fun q => xokB cX6_find q && xokL q) = true := by decide +kernel
def e_X6_find_17 : List xI := [(235, .aload_n 0, 1, .null), (236, .aload_n 0, 1, .null), (237, .iconst 2, 1, .int 2)]
theorem e_X6_find_17_k : e_X6_find_17.all (fun q => xokB cX6_find q && xokL q) = true := by decide +kernel
def e_X6_find_18 : List xI := [(241, .putfield 38, 3, .null)]
theorem e_X6_find_18_k : e_X6_find_18.all (fun q => xokB cX6_find q && xokL q) = true := by decide +kernel
def e_X6_find_19 : List xI := [(247, .aload_n 0, 1, .null), (248, .iload 5, 2, .null), (250, .aload_n 0, 1, .null), (251, .iconst 1, 1, .int 1)]
theorem e_X6_find_19_k : e_X6_find_19.all (fun q => xokB cX6_find q && xokL q) = true := by decide +kernel
def e_X6_find_20 : List xI := [(255, .iconst 1, 1, .int 1)]
theorem e_X6_find_20_k : e_X6_find_20.all (fun q => xokB cX6_find q && xokL q) = true := by decide +kernel
def e_X6_find_21 : List xI := [(259, .iadd, 1, .null), (260, .putfield 38, 3, .null)]
theorem e_X6_find_21_k : e_X6_find_21.all (fun q => xokB cX6_find q && xokL q) = true := by decide +kernel
def e_X6_find_22 : List xI := [(266, .aload_n 0, 1, .null), (267, .iload 5, 2, .null), (269, .aload_n 0, 1, .null), (270, .aload_n 0, 1, .null), (271, .iconst 1, 1, .int 1)]
theorem e_X6_find_22_k : e_X6_find_22.all (fun q => xokB cX6_find q && xokL q) = true := by decide +kernel
def e_X6_find_23 : List xI := [(278, .iadd, 1, .null), (279, .putfield 38, 3, .null)]
theorem e_X6_find_23_k : e_X6_find_23.all (fun q => xokB cX6_find q && xokL q) = true := by decide +kernel
def e_X6_find_24 : List xI := [(285, .aload_n 0, 1, .null), (286, .aload_n 0, 1, .null), (287, .iload_n 2, 1, .null)]
theorem e_X6_find_24_k : e_X6_find_24.all (fun q => xokB cX6_find q && xokL q) = true := by decide +kernel
def e_X6_find_25 : List xI := [(291, .putfield 38, 3, .null)]
theorem e_X6_find_25_k : e_X6_find_25.all (fun q => xokB cX6_find q && xokL q) = true := by decide +kernel
def e_X6_find_26 : List xI := [(297, .aload_n 0, 1, .null), (298, .aload_n 0, 1, .null), (299, .getfield 15, 3, .null), (302, .iload 4, 2, .null), (304, .iaload, 1, .null), (305, .putfield 38, 3, .null)]
theorem e_X6_find_26_k : e_X6_find_26.all (fun q => xokB cX6_find q && xokL q) = true := by decide +kernel
abbrev P_X6_find (r : St) (L : Nat → Nat → Int64) : Option Value → xG → Prop := fun v σ' => PoV r L v σ' ∧ InvK INVC r
abbrev R_X6_find : Room := { frames := 3, cells := 0, slots := 0, locals := 77 }
abbrev C_X6_find (l : Launch) (r : St) (L : Nat → Nat → Int64) (V : XJ) : Prop := XC l yX6_find.cls yX6_find.name cX6_find 6 R_X6_find 0 0 fl_X6 kc_X6 LAY.length (xfin none LAY (P_X6_find r L)) V
def f_X6_find_297 (x4 : Int32) (M : St) : St := (xup M 10 3 (M 2 x4.toNatClampNeg))
def f_X6_find (a1 : Int32) (a2 : Int32) (M : St) : St := (if (f_X9_of a1) = 0 then (xup (xup M 10 2 (f_X9_of a1)) 10 3 (a1 &&& 7)) else (if (f_X9_of a1) = 1 then (xup (xup M 10 2 (f_X9_of a1)) 10 3 (8 + (a1 &&& 7))) else (if (f_X9_of a1) = 2 then f_X6_find_297 (8 + (a1 &&& 7)) (xup M 10 2 (f_X9_of a1)) else (if (f_X9_of a1) = 3 then (xup (xup (xup M 10 2 (f_X9_of a1)) 10 3 (M 2 (8 + (a1 &&& 7)).toNatClampNeg)) 2 (8 + (a1 &&& 7)).toNatClampNeg ((M 2 (8 + (a1 &&& 7)).toNatClampNeg) + (f_X6_stride (a1 &&& 7) a2))) else (if (f_X9_of a1) = 4 then (xup (xup (xup M 10 2 (f_X9_of a1)) 2 (8 + (a1 &&& 7)).toNatClampNeg ((M 2 (8 + (a1 &&& 7)).toNatClampNeg) - (f_X6_stride (a1 &&& 7) a2))) 10 3 ((xup (xup M 10 2 (f_X9_of a1)) 2 (8 + (a1 &&& 7)).toNatClampNeg ((M 2 (8 + (a1 &&& 7)).toNatClampNeg) - (f_X6_stride (a1 &&& 7) a2))) 2 (8 + (a1 &&& 7)).toNatClampNeg)) else (if (f_X9_of a1) = 5 then (xb (f_X6_fetch 1 (xup M 10 2 (f_X9_of a1))) fun q22 => (xup q22.2 10 3 ((M 2 (8 + (a1 &&& 7)).toNatClampNeg) + (f_X10_extended q22.1 1)))) else (if (f_X9_of a1) = 6 then (xb (f_X6_fetch 1 (xup M 10 2 (f_X9_of a1))) fun q30 => (xup q30.2 10 3 ((M 2 (8 + (a1 &&& 7)).toNatClampNeg) + (f_X6_index q30.1 q30.2)))) else (if (f_X9_of a1) = 7 then (xb (f_X6_fetch 1 (xup M 10 2 (f_X9_of a1))) fun q38 => (xup q38.2 10 3 (f_X10_extended q38.1 1))) else (if (f_X9_of a1) = 8 then (xb (f_X6_fetch 2 (xup M 10 2 (f_X9_of a1))) fun q46 => (xup q46.2 10 3 q46.1)) else (if (f_X9_of a1) = 9 then (xb (f_X6_fetch 1 (xup M 10 2 (f_X9_of a1))) fun q51 => (xup q51.2 10 3 ((M 2 17) + (f_X10_extended q51.1 1)))) else (if (f_X9_of a1) = 10 then (xb (f_X6_fetch 1 (xup M 10 2 (f_X9_of a1))) fun q59 => (xup q59.2 10 3 ((M 2 17) + (f_X6_index q59.1 q59.2)))) else (if (f_X9_of a1) = 11 then (xb (f_X6_fetch a2 (xup M 10 2 (f_X9_of a1))) fun q67 => (xup q67.2 10 3 q67.1)) else f_X6_find_297 (8 + (a1 &&& 7)) (xup M 10 2 (f_X9_of a1))))))))))))))
set_option maxRecDepth 20000 in
set_option maxHeartbeats 4000000 in
theorem b_X6_find_297 {l : Launch} {L : Nat → Nat → Int64} {V : XJ} (r : St) (C : C_X6_find l r L V) (x4 : Int32) (M : St) (wx4 : xrg 8 15 x4) (hI : InvK INVC M) (h : f_X6_find_297 x4 M = r) : V 0 0 297 [(0, .ref 10), (4, .int x4)] [] LAY (M, L) := by
  unfold f_X6_find_297 at h
  refine x_run C e_X6_find_26 e_X6_find_26_k (pc' := 308) (lv' := [(0, .ref 10), (4, .int x4)]) (st' := []) (σ' := ((xup M 10 3 (M 2 x4.toNatClampNeg)), L)) rfl ⟨trivial, trivial, trivial, trivial, (x_rgv wx4 (by decide) (by decide)), trivial, trivial⟩ ?_
  have hI71 : InvK INVC (xup M 10 3 (M 2 x4.toNatClampNeg)) := (hI.fld 10 3 (M 2 x4.toNatClampNeg) (by decide))
  subst h
  exact x_vret C (show decode cX6_find 308 = .ok (.return_, 1) from by decide +kernel) (x_finV ⟨⟨rfl, rfl⟩, hI71⟩) (Nat.le_refl 0) (Nat.le_refl 0)
set_option maxRecDepth 20000 in
set_option maxHeartbeats 4000000 in
theorem k_X6_find (l : Launch) (a1 : Int32) (a2 : Int32) (M : St) (L : Nat → Nat → Int64) (hI : InvK INVC M) : XM l yX6_find cX6_find 6 none R_X6_find LAY [.ref 10, .int a1, .int a2] (M, L) (P_X6_find (f_X6_find a1 a2 M) L) := by
  refine XM.of (by decide) (Nat.le_of_ble_eq_true rfl) LAY_in cl_ok fl_X6_ok kc_X6_ok (fun V C => ?_)
  obtain ⟨r, h⟩ : ∃ r, f_X6_find a1 a2 M = r := ⟨_, rfl⟩
  rw [h] at C
  change C_X6_find l r L V at C
  unfold f_X6_find at h
  show V 0 0 0 [(0, .ref 10), (1, .int a1), (2, .int a2)] [] LAY (M, L)
  refine x_run C e_X6_find_1 e_X6_find_1_k (pc' := 22) (lv' := [(5, .int (M 2 17)), (4, .int (8 + (a1 &&& 7))), (3, .int (a1 &&& 7)), (0, .ref 10), (1, .int a1), (2, .int a2)]) (st' := [.int a1, .ref 10]) (σ' := (M, L)) rfl ⟨trivial, trivial, trivial, trivial, trivial, trivial, trivial, trivial, trivial, trivial, trivial, (x_rgv (x_rgc (x := 17) (k := 17) (by decide)) (by decide) (by decide)), trivial, trivial, trivial, trivial⟩ ?_
  refine x_callS C (rest := [.ref 10]) (avs := [.int a1]) (k_X9_of l a1 M L) yoX9_of ml_X6_28 rfl ⟨Nat.zero_le _, Nat.zero_le _⟩ (show decode cX6_find 22 = .ok (.invokestatic 28, 3) from by decide +kernel) rfl (fun v σ' hPo => ?_)
  obtain ⟨⟨rfl, rfl⟩, g2, -⟩ := hPo
  show V 0 0 25 [(5, .int (M 2 17)), (4, .int (8 + (a1 &&& 7))), (3, .int (a1 &&& 7)), (0, .ref 10), (1, .int a1), (2, .int a2)] [.int (f_X9_of a1), .ref 10] LAY (M, L)
  refine x_run C e_X6_find_2 e_X6_find_2_k (pc' := 32) (lv' := [(5, .int (M 2 17)), (4, .int (8 + (a1 &&& 7))), (3, .int (a1 &&& 7)), (0, .ref 10), (1, .int a1), (2, .int a2)]) (st' := [.int (f_X9_of a1)]) (σ' := ((xup M 10 2 (f_X9_of a1)), L)) rfl ⟨trivial, trivial, trivial, trivial⟩ ?_
  have hI4 : InvK INVC (xup M 10 2 (f_X9_of a1)) := (hI.fld 10 2 (f_X9_of a1) (by decide))
  by_cases c5 : (f_X9_of a1) = 0
  · rw [if_pos c5] at h
    refine x_tin C (show decode cX6_find 32 = .ok (.tableswitch 265 0 11 #[64, 72, 265, 81, 110, 139, 163, 187, 203, 215, 234, 253], 64) from by decide +kernel) 0 c5 (off := 64) (tgt := 96) (by decide) ?_
    refine x_run C e_X6_find_3 e_X6_find_3_k (pc' := 101) (lv' := [(5, .int (M 2 17)), (4, .int (8 + (a1 &&& 7))), (3, .int (a1 &&& 7)), (0, .ref 10), (1, .int a1), (2, .int a2)]) (st' := []) (σ' := ((xup (xup M 10 2 (f_X9_of a1)) 10 3 (a1 &&& 7)), L)) rfl ⟨trivial, trivial, trivial, trivial⟩ ?_
    have hI6 : InvK INVC (xup (xup M 10 2 (f_X9_of a1)) 10 3 (a1 &&& 7)) := (hI4.fld 10 3 (a1 &&& 7) (by decide))
    refine x_goto C (show decode cX6_find 101 = .ok (.goto 207, 3) from by decide +kernel) (tgt := 308) (by decide) ?_
    subst h
    exact x_vret C (show decode cX6_find 308 = .ok (.return_, 1) from by decide +kernel) (x_finV ⟨⟨rfl, rfl⟩, hI6⟩) (Nat.le_refl 0) (Nat.le_refl 0)
  rw [if_neg c5] at h
  by_cases c7 : (f_X9_of a1) = 1
  · rw [if_pos c7] at h
    refine x_tin C (show decode cX6_find 32 = .ok (.tableswitch 265 0 11 #[64, 72, 265, 81, 110, 139, 163, 187, 203, 215, 234, 253], 64) from by decide +kernel) 1 c7 (off := 72) (tgt := 104) (by decide) ?_
    refine x_run C e_X6_find_4 e_X6_find_4_k (pc' := 110) (lv' := [(5, .int (M 2 17)), (4, .int (8 + (a1 &&& 7))), (3, .int (a1 &&& 7)), (0, .ref 10), (1, .int a1), (2, .int a2)]) (st' := []) (σ' := ((xup (xup M 10 2 (f_X9_of a1)) 10 3 (8 + (a1 &&& 7))), L)) rfl ⟨trivial, trivial, trivial, trivial⟩ ?_
    have hI8 : InvK INVC (xup (xup M 10 2 (f_X9_of a1)) 10 3 (8 + (a1 &&& 7))) := (hI4.fld 10 3 (8 + (a1 &&& 7)) (by decide))
    refine x_goto C (show decode cX6_find 110 = .ok (.goto 198, 3) from by decide +kernel) (tgt := 308) (by decide) ?_
    subst h
    exact x_vret C (show decode cX6_find 308 = .ok (.return_, 1) from by decide +kernel) (x_finV ⟨⟨rfl, rfl⟩, hI8⟩) (Nat.le_refl 0) (Nat.le_refl 0)
  rw [if_neg c7] at h
  by_cases c9 : (f_X9_of a1) = 2
  · rw [if_pos c9] at h
    refine x_tin C (show decode cX6_find 32 = .ok (.tableswitch 265 0 11 #[64, 72, 265, 81, 110, 139, 163, 187, 203, 215, 234, 253], 64) from by decide +kernel) 2 c9 (off := 265) (tgt := 297) (by decide) ?_
    refine x_lv C [3, 1] rfl ?_
    exact b_X6_find_297 r C (8 + (a1 &&& 7)) (xup M 10 2 (f_X9_of a1)) (x_rg_add (x_rgc (x := 8) (k := 8) (by decide)) (x_rg_and (x := a1) (m := 7) (k := 7) (by decide) (by decide)) (by decide) (by decide)) hI4 h
  rw [if_neg c9] at h
  by_cases c10 : (f_X9_of a1) = 3
  · rw [if_pos c10] at h
    refine x_tin C (show decode cX6_find 32 = .ok (.tableswitch 265 0 11 #[64, 72, 265, 81, 110, 139, 163, 187, 203, 215, 234, 253], 64) from by decide +kernel) 3 c10 (off := 81) (tgt := 113) (by decide) ?_
    refine x_run C e_X6_find_5 e_X6_find_5_k (pc' := 134) (lv' := [(5, .int (M 2 17)), (4, .int (8 + (a1 &&& 7))), (3, .int (a1 &&& 7)), (0, .ref 10), (1, .int a1), (2, .int a2)]) (st' := [.int a2, .int (a1 &&& 7), .int (M 2 (8 + (a1 &&& 7)).toNatClampNeg), .int (8 + (a1 &&& 7)), .ref 2]) (σ' := ((xup (xup M 10 2 (f_X9_of a1)) 10 3 (M 2 (8 + (a1 &&& 7)).toNatClampNeg)), L)) rfl ⟨trivial, trivial, trivial, trivial, (x_rgv (x_rg_add (x_rgc (x := 8) (k := 8) (by decide)) (x_rg_and (x := a1) (m := 7) (k := 7) (by decide) (by decide)) (by decide) (by decide)) (by decide) (by decide)), trivial, trivial, trivial, trivial, trivial, (x_rgv (x_rg_add (x_rgc (x := 8) (k := 8) (by decide)) (x_rg_and (x := a1) (m := 7) (k := 7) (by decide) (by decide)) (by decide) (by decide)) (by decide) (by decide)), trivial, trivial, trivial⟩ ?_
    have hI11 : InvK INVC (xup (xup M 10 2 (f_X9_of a1)) 10 3 (M 2 (8 + (a1 &&& 7)).toNatClampNeg)) := (hI4.fld 10 3 (M 2 (8 + (a1 &&& 7)).toNatClampNeg) (by decide))
    refine x_callS C (rest := [.int (M 2 (8 + (a1 &&& 7)).toNatClampNeg), .int (8 + (a1 &&& 7)), .ref 2]) (avs := [.int (a1 &&& 7), .int a2]) (k_X6_stride l (a1 &&& 7) a2 (xup (xup M 10 2 (f_X9_of a1)) 10 3 (M 2 (8 + (a1 &&& 7)).toNatClampNeg)) L) yoX6_stride ml_X6_41 rfl ⟨Nat.zero_le _, Nat.zero_le _⟩ (show decode cX6_find 134 = .ok (.invokestatic 41, 3) from by decide +kernel) rfl (fun v σ' hPo => ?_)
    obtain ⟨⟨rfl, rfl⟩, g13, -⟩ := hPo
    show V 0 0 137 [(5, .int (M 2 17)), (4, .int (8 + (a1 &&& 7))), (3, .int (a1 &&& 7)), (0, .ref 10), (1, .int a1), (2, .int a2)] [.int (f_X6_stride (a1 &&& 7) a2), .int (M 2 (8 + (a1 &&& 7)).toNatClampNeg), .int (8 + (a1 &&& 7)), .ref 2] LAY ((xup (xup M 10 2 (f_X9_of a1)) 10 3 (M 2 (8 + (a1 &&& 7)).toNatClampNeg)), L)
    refine x_run C e_X6_find_6 e_X6_find_6_k (pc' := 139) (lv' := [(5, .int (M 2 17)), (4, .int (8 + (a1 &&& 7))), (3, .int (a1 &&& 7)), (0, .ref 10), (1, .int a1), (2, .int a2)]) (st' := []) (σ' := ((xup (xup (xup M 10 2 (f_X9_of a1)) 10 3 (M 2 (8 + (a1 &&& 7)).toNatClampNeg)) 2 (8 + (a1 &&& 7)).toNatClampNeg ((M 2 (8 + (a1 &&& 7)).toNatClampNeg) + (f_X6_stride (a1 &&& 7) a2))), L)) rfl ⟨trivial, (x_rgv (x_rg_add (x_rgc (x := 8) (k := 8) (by decide)) (x_rg_and (x := a1) (m := 7) (k := 7) (by decide) (by decide)) (by decide) (by decide)) (by decide) (by decide)), trivial⟩ ?_
    have hI15 : InvK INVC (xup (xup (xup M 10 2 (f_X9_of a1)) 10 3 (M 2 (8 + (a1 &&& 7)).toNatClampNeg)) 2 (8 + (a1 &&& 7)).toNatClampNeg ((M 2 (8 + (a1 &&& 7)).toNatClampNeg) + (f_X6_stride (a1 &&& 7) a2))) := (hI11.arr 2 ((8 + (a1 &&& 7)).toNatClampNeg) ((M 2 (8 + (a1 &&& 7)).toNatClampNeg) + (f_X6_stride (a1 &&& 7) a2)) (by decide))
    refine x_goto C (show decode cX6_find 139 = .ok (.goto 169, 3) from by decide +kernel) (tgt := 308) (by decide) ?_
    subst h
    exact x_vret C (show decode cX6_find 308 = .ok (.return_, 1) from by decide +kernel) (x_finV ⟨⟨rfl, rfl⟩, hI15⟩) (Nat.le_refl 0) (Nat.le_refl 0)
  rw [if_neg c10] at h
  by_cases c16 : (f_X9_of a1) = 4
  · rw [if_pos c16] at h
    refine x_tin C (show decode cX6_find 32 = .ok (.tableswitch 265 0 11 #[64, 72, 265, 81, 110, 139, 163, 187, 203, 215, 234, 253], 64) from by decide +kernel) 4 c16 (off := 110) (tgt := 142) (by decide) ?_
    refine x_run C e_X6_find_7 e_X6_find_7_k (pc' := 152) (lv' := [(5, .int (M 2 17)), (4, .int (8 + (a1 &&& 7))), (3, .int (a1 &&& 7)), (0, .ref 10), (1, .int a1), (2, .int a2)]) (st' := [.int a2, .int (a1 &&& 7), .int (M 2 (8 + (a1 &&& 7)).toNatClampNeg), .int (8 + (a1 &&& 7)), .ref 2]) (σ' := ((xup M 10 2 (f_X9_of a1)), L)) rfl ⟨trivial, trivial, trivial, trivial, (x_rgv (x_rg_add (x_rgc (x := 8) (k := 8) (by decide)) (x_rg_and (x := a1) (m := 7) (k := 7) (by decide) (by decide)) (by decide) (by decide)) (by decide) (by decide)), trivial, trivial, trivial⟩ ?_
    refine x_callS C (rest := [.int (M 2 (8 + (a1 &&& 7)).toNatClampNeg), .int (8 + (a1 &&& 7)), .ref 2]) (avs := [.int (a1 &&& 7), .int a2]) (k_X6_stride l (a1 &&& 7) a2 (xup M 10 2 (f_X9_of a1)) L) yoX6_stride ml_X6_41 rfl ⟨Nat.zero_le _, Nat.zero_le _⟩ (show decode cX6_find 152 = .ok (.invokestatic 41, 3) from by decide +kernel) rfl (fun v σ' hPo => ?_)
    obtain ⟨⟨rfl, rfl⟩, g18, -⟩ := hPo
    show V 0 0 155 [(5, .int (M 2 17)), (4, .int (8 + (a1 &&& 7))), (3, .int (a1 &&& 7)), (0, .ref 10), (1, .int a1), (2, .int a2)] [.int (f_X6_stride (a1 &&& 7) a2), .int (M 2 (8 + (a1 &&& 7)).toNatClampNeg), .int (8 + (a1 &&& 7)), .ref 2] LAY ((xup M 10 2 (f_X9_of a1)), L)
    refine x_run C e_X6_find_8 e_X6_find_8_k (pc' := 168) (lv' := [(5, .int (M 2 17)), (4, .int (8 + (a1 &&& 7))), (3, .int (a1 &&& 7)), (0, .ref 10), (1, .int a1), (2, .int a2)]) (st' := []) (σ' := ((xup (xup (xup M 10 2 (f_X9_of a1)) 2 (8 + (a1 &&& 7)).toNatClampNeg ((M 2 (8 + (a1 &&& 7)).toNatClampNeg) - (f_X6_stride (a1 &&& 7) a2))) 10 3 ((xup (xup M 10 2 (f_X9_of a1)) 2 (8 + (a1 &&& 7)).toNatClampNeg ((M 2 (8 + (a1 &&& 7)).toNatClampNeg) - (f_X6_stride (a1 &&& 7) a2))) 2 (8 + (a1 &&& 7)).toNatClampNeg)), L)) rfl ⟨trivial, (x_rgv (x_rg_add (x_rgc (x := 8) (k := 8) (by decide)) (x_rg_and (x := a1) (m := 7) (k := 7) (by decide) (by decide)) (by decide) (by decide)) (by decide) (by decide)), trivial, trivial, trivial, trivial, (x_rgv (x_rg_add (x_rgc (x := 8) (k := 8) (by decide)) (x_rg_and (x := a1) (m := 7) (k := 7) (by decide) (by decide)) (by decide) (by decide)) (by decide) (by decide)), trivial, trivial⟩ ?_
    have hI20 : InvK INVC (xup (xup (xup M 10 2 (f_X9_of a1)) 2 (8 + (a1 &&& 7)).toNatClampNeg ((M 2 (8 + (a1 &&& 7)).toNatClampNeg) - (f_X6_stride (a1 &&& 7) a2))) 10 3 ((xup (xup M 10 2 (f_X9_of a1)) 2 (8 + (a1 &&& 7)).toNatClampNeg ((M 2 (8 + (a1 &&& 7)).toNatClampNeg) - (f_X6_stride (a1 &&& 7) a2))) 2 (8 + (a1 &&& 7)).toNatClampNeg)) := ((hI4.arr 2 ((8 + (a1 &&& 7)).toNatClampNeg) ((M 2 (8 + (a1 &&& 7)).toNatClampNeg) - (f_X6_stride (a1 &&& 7) a2)) (by decide)).fld 10 3 ((xup (xup M 10 2 (f_X9_of a1)) 2 (8 + (a1 &&& 7)).toNatClampNeg ((M 2 (8 + (a1 &&& 7)).toNatClampNeg) - (f_X6_stride (a1 &&& 7) a2))) 2 (8 + (a1 &&& 7)).toNatClampNeg) (by decide))
    refine x_goto C (show decode cX6_find 168 = .ok (.goto 140, 3) from by decide +kernel) (tgt := 308) (by decide) ?_
    subst h
    exact x_vret C (show decode cX6_find 308 = .ok (.return_, 1) from by decide +kernel) (x_finV ⟨⟨rfl, rfl⟩, hI20⟩) (Nat.le_refl 0) (Nat.le_refl 0)
  rw [if_neg c16] at h
  by_cases c21 : (f_X9_of a1) = 5
  · rw [if_pos c21] at h
    refine x_tin C (show decode cX6_find 32 = .ok (.tableswitch 265 0 11 #[64, 72, 265, 81, 110, 139, 163, 187, 203, 215, 234, 253], 64) from by decide +kernel) 5 c21 (off := 139) (tgt := 171) (by decide) ?_
    refine x_run C e_X6_find_9 e_X6_find_9_k (pc' := 181) (lv' := [(5, .int (M 2 17)), (4, .int (8 + (a1 &&& 7))), (3, .int (a1 &&& 7)), (0, .ref 10), (1, .int a1), (2, .int a2)]) (st' := [.int 1, .ref 10, .int (M 2 (8 + (a1 &&& 7)).toNatClampNeg), .ref 10]) (σ' := ((xup M 10 2 (f_X9_of a1)), L)) rfl ⟨trivial, trivial, trivial, trivial, (x_rgv (x_rg_add (x_rgc (x := 8) (k := 8) (by decide)) (x_rg_and (x := a1) (m := 7) (k := 7) (by decide) (by decide)) (by decide) (by decide)) (by decide) (by decide)), trivial, trivial, trivial⟩ ?_
    refine x_callV C (k := 10) (ci := 4) (rest := [.int (M 2 (8 + (a1 &&& 7)).toNatClampNeg), .ref 10]) (avs := [.int 1]) (k_X6_fetch l 1 (xup M 10 2 (f_X9_of a1)) L hI4) yoX6_fetch ml_X6_45 rfl rfl rfl rfl ⟨Nat.zero_le _, Nat.zero_le _⟩ (show decode cX6_find 181 = .ok (.invokevirtual 45, 3) from by decide +kernel) rfl (fun v σ' hPo => ?_)
    obtain ⟨⟨rfl, rfl⟩, g23, hI24⟩ := hPo
    generalize hq22 : f_X6_fetch 1 (xup M 10 2 (f_X9_of a1)) = q22 at h g23 hI24 ⊢
    obtain ⟨r22, M22⟩ := q22
    have h := xb_eq h
    try dsimp only at h g23 hI24
    show V 0 0 184 [(5, .int (M 2 17)), (4, .int (8 + (a1 &&& 7))), (3, .int (a1 &&& 7)), (0, .ref 10), (1, .int a1), (2, .int a2)] [.int r22, .int (M 2 (8 + (a1 &&& 7)).toNatClampNeg), .ref 10] LAY (M22, L)
    refine x_run C e_X6_find_10 e_X6_find_10_k (pc' := 185) (lv' := [(5, .int (M 2 17)), (4, .int (8 + (a1 &&& 7))), (3, .int (a1 &&& 7)), (0, .ref 10), (1, .int a1), (2, .int a2)]) (st' := [.int 1, .int r22, .int (M 2 (8 + (a1 &&& 7)).toNatClampNeg), .ref 10]) (σ' := (M22, L)) rfl ⟨trivial, trivial⟩ ?_
    refine x_callSN C (rest := [.int (M 2 (8 + (a1 &&& 7)).toNatClampNeg), .ref 10]) (avs := [.int r22, .int 1]) (k_X10_extended l r22 1 M22 L) yoX10_extended ml_X6_48 rfl ⟨Nat.zero_le _, Nat.zero_le _⟩ (show decode cX6_find 185 = .ok (.invokestatic 48, 3) from by decide +kernel) rfl (fun v σ' hPo => ?_)
    obtain ⟨⟨rfl, rfl⟩, g26, -⟩ := hPo
    show V 0 0 188 [(5, .int (M 2 17)), (4, .int (8 + (a1 &&& 7))), (3, .int (a1 &&& 7)), (0, .ref 10), (1, .int a1), (2, .int a2)] [.int (f_X10_extended r22 1), .int (M 2 (8 + (a1 &&& 7)).toNatClampNeg), .ref 10] LAY (M22, L)
    refine x_run C e_X6_find_11 e_X6_find_11_k (pc' := 192) (lv' := [(5, .int (M 2 17)), (4, .int (8 + (a1 &&& 7))), (3, .int (a1 &&& 7)), (0, .ref 10), (1, .int a1), (2, .int a2)]) (st' := []) (σ' := ((xup M22 10 3 ((M 2 (8 + (a1 &&& 7)).toNatClampNeg) + (f_X10_extended r22 1))), L)) rfl ⟨trivial, trivial, trivial⟩ ?_
    have hI28 : InvK INVC (xup M22 10 3 ((M 2 (8 + (a1 &&& 7)).toNatClampNeg) + (f_X10_extended r22 1))) := (hI24.fld 10 3 ((M 2 (8 + (a1 &&& 7)).toNatClampNeg) + (f_X10_extended r22 1)) (by decide))
    refine x_goto C (show decode cX6_find 192 = .ok (.goto 116, 3) from by decide +kernel) (tgt := 308) (by decide) ?_
    subst h
    exact x_vret C (show decode cX6_find 308 = .ok (.return_, 1) from by decide +kernel) (x_finV ⟨⟨rfl, rfl⟩, hI28⟩) (Nat.le_refl 0) (Nat.le_refl 0)
  rw [if_neg c21] at h
  by_cases c29 : (f_X9_of a1) = 6
  · rw [if_pos c29] at h
    refine x_tin C (show decode cX6_find 32 = .ok (.tableswitch 265 0 11 #[64, 72, 265, 81, 110, 139, 163, 187, 203, 215, 234, 253], 64) from by decide +kernel) 6 c29 (off := 163) (tgt := 195) (by decide) ?_
    refine x_run C e_X6_find_12 e_X6_find_12_k (pc' := 206) (lv' := [(5, .int (M 2 17)), (4, .int (8 + (a1 &&& 7))), (3, .int (a1 &&& 7)), (0, .ref 10), (1, .int a1), (2, .int a2)]) (st' := [.int 1, .ref 10, .ref 10, .int (M 2 (8 + (a1 &&& 7)).toNatClampNeg), .ref 10]) (σ' := ((xup M 10 2 (f_X9_of a1)), L)) rfl ⟨trivial, trivial, trivial, trivial, (x_rgv (x_rg_add (x_rgc (x := 8) (k := 8) (by decide)) (x_rg_and (x := a1) (m := 7) (k := 7) (by decide) (by decide)) (by decide) (by decide)) (by decide) (by decide)), trivial, trivial, trivial, trivial⟩ ?_
    refine x_callV C (k := 10) (ci := 4) (rest := [.ref 10, .int (M 2 (8 + (a1 &&& 7)).toNatClampNeg), .ref 10]) (avs := [.int 1]) (k_X6_fetch l 1 (xup M 10 2 (f_X9_of a1)) L hI4) yoX6_fetch ml_X6_45 rfl rfl rfl rfl ⟨Nat.zero_le _, Nat.zero_le _⟩ (show decode cX6_find 206 = .ok (.invokevirtual 45, 3) from by decide +kernel) rfl (fun v σ' hPo => ?_)
    obtain ⟨⟨rfl, rfl⟩, g31, hI32⟩ := hPo
    generalize hq30 : f_X6_fetch 1 (xup M 10 2 (f_X9_of a1)) = q30 at h g31 hI32 ⊢
    obtain ⟨r30, M30⟩ := q30
    have h := xb_eq h
    try dsimp only at h g31 hI32
    show V 0 0 209 [(5, .int (M 2 17)), (4, .int (8 + (a1 &&& 7))), (3, .int (a1 &&& 7)), (0, .ref 10), (1, .int a1), (2, .int a2)] [.int r30, .ref 10, .int (M 2 (8 + (a1 &&& 7)).toNatClampNeg), .ref 10] LAY (M30, L)
    refine x_callV C (k := 10) (ci := 4) (rest := [.int (M 2 (8 + (a1 &&& 7)).toNatClampNeg), .ref 10]) (avs := [.int r30]) (k_X6_index l r30 M30 L hI32) yoX6_index ml_X6_51 rfl rfl rfl rfl ⟨Nat.zero_le _, Nat.zero_le _⟩ (show decode cX6_find 209 = .ok (.invokevirtual 51, 3) from by decide +kernel) rfl (fun v σ' hPo => ?_)
    obtain ⟨⟨rfl, rfl⟩, g34, hI35⟩ := hPo
    show V 0 0 212 [(5, .int (M 2 17)), (4, .int (8 + (a1 &&& 7))), (3, .int (a1 &&& 7)), (0, .ref 10), (1, .int a1), (2, .int a2)] [.int (f_X6_index r30 M30), .int (M 2 (8 + (a1 &&& 7)).toNatClampNeg), .ref 10] LAY (M30, L)
    refine x_run C e_X6_find_13 e_X6_find_13_k (pc' := 216) (lv' := [(5, .int (M 2 17)), (4, .int (8 + (a1 &&& 7))), (3, .int (a1 &&& 7)), (0, .ref 10), (1, .int a1), (2, .int a2)]) (st' := []) (σ' := ((xup M30 10 3 ((M 2 (8 + (a1 &&& 7)).toNatClampNeg) + (f_X6_index r30 M30))), L)) rfl ⟨trivial, trivial, trivial⟩ ?_
    have hI36 : InvK INVC (xup M30 10 3 ((M 2 (8 + (a1 &&& 7)).toNatClampNeg) + (f_X6_index r30 M30))) := (hI32.fld 10 3 ((M 2 (8 + (a1 &&& 7)).toNatClampNeg) + (f_X6_index r30 M30)) (by decide))
    refine x_goto C (show decode cX6_find 216 = .ok (.goto 92, 3) from by decide +kernel) (tgt := 308) (by decide) ?_
    subst h
    exact x_vret C (show decode cX6_find 308 = .ok (.return_, 1) from by decide +kernel) (x_finV ⟨⟨rfl, rfl⟩, hI36⟩) (Nat.le_refl 0) (Nat.le_refl 0)
  rw [if_neg c29] at h
  by_cases c37 : (f_X9_of a1) = 7
  · rw [if_pos c37] at h
    refine x_tin C (show decode cX6_find 32 = .ok (.tableswitch 265 0 11 #[64, 72, 265, 81, 110, 139, 163, 187, 203, 215, 234, 253], 64) from by decide +kernel) 7 c37 (off := 187) (tgt := 219) (by decide) ?_
    refine x_run C e_X6_find_14 e_X6_find_14_k (pc' := 222) (lv' := [(5, .int (M 2 17)), (4, .int (8 + (a1 &&& 7))), (3, .int (a1 &&& 7)), (0, .ref 10), (1, .int a1), (2, .int a2)]) (st' := [.int 1, .ref 10, .ref 10]) (σ' := ((xup M 10 2 (f_X9_of a1)), L)) rfl ⟨trivial, trivial, trivial, trivial⟩ ?_
    refine x_callV C (k := 10) (ci := 4) (rest := [.ref 10]) (avs := [.int 1]) (k_X6_fetch l 1 (xup M 10 2 (f_X9_of a1)) L hI4) yoX6_fetch ml_X6_45 rfl rfl rfl rfl ⟨Nat.zero_le _, Nat.zero_le _⟩ (show decode cX6_find 222 = .ok (.invokevirtual 45, 3) from by decide +kernel) rfl (fun v σ' hPo => ?_)
    obtain ⟨⟨rfl, rfl⟩, g39, hI40⟩ := hPo
    generalize hq38 : f_X6_fetch 1 (xup M 10 2 (f_X9_of a1)) = q38 at h g39 hI40 ⊢
    obtain ⟨r38, M38⟩ := q38
    have h := xb_eq h
    try dsimp only at h g39 hI40
    show V 0 0 225 [(5, .int (M 2 17)), (4, .int (8 + (a1 &&& 7))), (3, .int (a1 &&& 7)), (0, .ref 10), (1, .int a1), (2, .int a2)] [.int r38, .ref 10] LAY (M38, L)
    refine x_run C e_X6_find_15 e_X6_find_15_k (pc' := 226) (lv' := [(5, .int (M 2 17)), (4, .int (8 + (a1 &&& 7))), (3, .int (a1 &&& 7)), (0, .ref 10), (1, .int a1), (2, .int a2)]) (st' := [.int 1, .int r38, .ref 10]) (σ' := (M38, L)) rfl ⟨trivial, trivial⟩ ?_
    refine x_callSN C (rest := [.ref 10]) (avs := [.int r38, .int 1]) (k_X10_extended l r38 1 M38 L) yoX10_extended ml_X6_48 rfl ⟨Nat.zero_le _, Nat.zero_le _⟩ (show decode cX6_find 226 = .ok (.invokestatic 48, 3) from by decide +kernel) rfl (fun v σ' hPo => ?_)
    obtain ⟨⟨rfl, rfl⟩, g42, -⟩ := hPo
    show V 0 0 229 [(5, .int (M 2 17)), (4, .int (8 + (a1 &&& 7))), (3, .int (a1 &&& 7)), (0, .ref 10), (1, .int a1), (2, .int a2)] [.int (f_X10_extended r38 1), .ref 10] LAY (M38, L)
    refine x_run C e_X6_find_16 e_X6_find_16_k (pc' := 232) (lv' := [(5, .int (M 2 17)), (4, .int (8 + (a1 &&& 7))), (3, .int (a1 &&& 7)), (0, .ref 10), (1, .int a1), (2, .int a2)]) (st' := []) (σ' := ((xup M38 10 3 (f_X10_extended r38 1)), L)) rfl ⟨trivial, trivial⟩ ?_
    have hI44 : InvK INVC (xup M38 10 3 (f_X10_extended r38 1)) := (hI40.fld 10 3 (f_X10_extended r38 1) (by decide))
    refine x_goto C (show decode cX6_find 232 = .ok (.goto 76, 3) from by decide +kernel) (tgt := 308) (by decide) ?_
    subst h
    exact x_vret C (show decode cX6_find 308 = .ok (.return_, 1) from by decide +kernel) (x_finV ⟨⟨rfl, rfl⟩, hI44⟩) (Nat.le_refl 0) (Nat.le_refl 0)
  rw [if_neg c37] at h
  by_cases c45 : (f_X9_of a1) = 8
  · rw [if_pos c45] at h
    refine x_tin C (show decode cX6_find 32 = .ok (.tableswitch 265 0 11 #[64, 72, 265, 81, 110, 139, 163, 187, 203, 215, 234, 253], 64) from by decide +kernel) 8 c45 (off := 203) (tgt := 235) (by decide) ?_
    refine x_run C e_X6_find_17 e_X6_find_17_k (pc' := 238) (lv' := [(5, .int (M 2 17)), (4, .int (8 + (a1 &&& 7))), (3, .int (a1 &&& 7)), (0, .ref 10), (1, .int a1), (2, .int a2)]) (st' := [.int 2, .ref 10, .ref 10]) (σ' := ((xup M 10 2 (f_X9_of a1)), L)) rfl ⟨trivial, trivial, trivial, trivial⟩ ?_
    refine x_callV C (k := 10) (ci := 4) (rest := [.ref 10]) (avs := [.int 2]) (k_X6_fetch l 2 (xup M 10 2 (f_X9_of a1)) L hI4) yoX6_fetch ml_X6_45 rfl rfl rfl rfl ⟨Nat.zero_le _, Nat.zero_le _⟩ (show decode cX6_find 238 = .ok (.invokevirtual 45, 3) from by decide +kernel) rfl (fun v σ' hPo => ?_)
    obtain ⟨⟨rfl, rfl⟩, g47, hI48⟩ := hPo
    generalize hq46 : f_X6_fetch 2 (xup M 10 2 (f_X9_of a1)) = q46 at h g47 hI48 ⊢
    obtain ⟨r46, M46⟩ := q46
    have h := xb_eq h
    try dsimp only at h g47 hI48
    show V 0 0 241 [(5, .int (M 2 17)), (4, .int (8 + (a1 &&& 7))), (3, .int (a1 &&& 7)), (0, .ref 10), (1, .int a1), (2, .int a2)] [.int r46, .ref 10] LAY (M46, L)
    refine x_run C e_X6_find_18 e_X6_find_18_k (pc' := 244) (lv' := [(5, .int (M 2 17)), (4, .int (8 + (a1 &&& 7))), (3, .int (a1 &&& 7)), (0, .ref 10), (1, .int a1), (2, .int a2)]) (st' := []) (σ' := ((xup M46 10 3 r46), L)) rfl ⟨trivial, trivial⟩ ?_
    have hI49 : InvK INVC (xup M46 10 3 r46) := (hI48.fld 10 3 r46 (by decide))
    refine x_goto C (show decode cX6_find 244 = .ok (.goto 64, 3) from by decide +kernel) (tgt := 308) (by decide) ?_
    subst h
    exact x_vret C (show decode cX6_find 308 = .ok (.return_, 1) from by decide +kernel) (x_finV ⟨⟨rfl, rfl⟩, hI49⟩) (Nat.le_refl 0) (Nat.le_refl 0)
  rw [if_neg c45] at h
  by_cases c50 : (f_X9_of a1) = 9
  · rw [if_pos c50] at h
    refine x_tin C (show decode cX6_find 32 = .ok (.tableswitch 265 0 11 #[64, 72, 265, 81, 110, 139, 163, 187, 203, 215, 234, 253], 64) from by decide +kernel) 9 c50 (off := 215) (tgt := 247) (by decide) ?_
    refine x_run C e_X6_find_19 e_X6_find_19_k (pc' := 252) (lv' := [(5, .int (M 2 17)), (4, .int (8 + (a1 &&& 7))), (3, .int (a1 &&& 7)), (0, .ref 10), (1, .int a1), (2, .int a2)]) (st' := [.int 1, .ref 10, .int (M 2 17), .ref 10]) (σ' := ((xup M 10 2 (f_X9_of a1)), L)) rfl ⟨trivial, trivial, trivial, trivial, trivial⟩ ?_
    refine x_callV C (k := 10) (ci := 4) (rest := [.int (M 2 17), .ref 10]) (avs := [.int 1]) (k_X6_fetch l 1 (xup M 10 2 (f_X9_of a1)) L hI4) yoX6_fetch ml_X6_45 rfl rfl rfl rfl ⟨Nat.zero_le _, Nat.zero_le _⟩ (show decode cX6_find 252 = .ok (.invokevirtual 45, 3) from by decide +kernel) rfl (fun v σ' hPo => ?_)
    obtain ⟨⟨rfl, rfl⟩, g52, hI53⟩ := hPo
    generalize hq51 : f_X6_fetch 1 (xup M 10 2 (f_X9_of a1)) = q51 at h g52 hI53 ⊢
    obtain ⟨r51, M51⟩ := q51
    have h := xb_eq h
    try dsimp only at h g52 hI53
    show V 0 0 255 [(5, .int (M 2 17)), (4, .int (8 + (a1 &&& 7))), (3, .int (a1 &&& 7)), (0, .ref 10), (1, .int a1), (2, .int a2)] [.int r51, .int (M 2 17), .ref 10] LAY (M51, L)
    refine x_run C e_X6_find_20 e_X6_find_20_k (pc' := 256) (lv' := [(5, .int (M 2 17)), (4, .int (8 + (a1 &&& 7))), (3, .int (a1 &&& 7)), (0, .ref 10), (1, .int a1), (2, .int a2)]) (st' := [.int 1, .int r51, .int (M 2 17), .ref 10]) (σ' := (M51, L)) rfl ⟨trivial, trivial⟩ ?_
    refine x_callSN C (rest := [.int (M 2 17), .ref 10]) (avs := [.int r51, .int 1]) (k_X10_extended l r51 1 M51 L) yoX10_extended ml_X6_48 rfl ⟨Nat.zero_le _, Nat.zero_le _⟩ (show decode cX6_find 256 = .ok (.invokestatic 48, 3) from by decide +kernel) rfl (fun v σ' hPo => ?_)
    obtain ⟨⟨rfl, rfl⟩, g55, -⟩ := hPo
    show V 0 0 259 [(5, .int (M 2 17)), (4, .int (8 + (a1 &&& 7))), (3, .int (a1 &&& 7)), (0, .ref 10), (1, .int a1), (2, .int a2)] [.int (f_X10_extended r51 1), .int (M 2 17), .ref 10] LAY (M51, L)
    refine x_run C e_X6_find_21 e_X6_find_21_k (pc' := 263) (lv' := [(5, .int (M 2 17)), (4, .int (8 + (a1 &&& 7))), (3, .int (a1 &&& 7)), (0, .ref 10), (1, .int a1), (2, .int a2)]) (st' := []) (σ' := ((xup M51 10 3 ((M 2 17) + (f_X10_extended r51 1))), L)) rfl ⟨trivial, trivial, trivial⟩ ?_
    have hI57 : InvK INVC (xup M51 10 3 ((M 2 17) + (f_X10_extended r51 1))) := (hI53.fld 10 3 ((M 2 17) + (f_X10_extended r51 1)) (by decide))
    refine x_goto C (show decode cX6_find 263 = .ok (.goto 45, 3) from by decide +kernel) (tgt := 308) (by decide) ?_
    subst h
    exact x_vret C (show decode cX6_find 308 = .ok (.return_, 1) from by decide +kernel) (x_finV ⟨⟨rfl, rfl⟩, hI57⟩) (Nat.le_refl 0) (Nat.le_refl 0)
  rw [if_neg c50] at h
  by_cases c58 : (f_X9_of a1) = 10
  · rw [if_pos c58] at h
    refine x_tin C (show decode cX6_find 32 = .ok (.tableswitch 265 0 11 #[64, 72, 265, 81, 110, 139, 163, 187, 203, 215, 234, 253], 64) from by decide +kernel) 10 c58 (off := 234) (tgt := 266) (by decide) ?_
    refine x_run C e_X6_find_22 e_X6_find_22_k (pc' := 272) (lv' := [(5, .int (M 2 17)), (4, .int (8 + (a1 &&& 7))), (3, .int (a1 &&& 7)), (0, .ref 10), (1, .int a1), (2, .int a2)]) (st' := [.int 1, .ref 10, .ref 10, .int (M 2 17), .ref 10]) (σ' := ((xup M 10 2 (f_X9_of a1)), L)) rfl ⟨trivial, trivial, trivial, trivial, trivial, trivial⟩ ?_
    refine x_callV C (k := 10) (ci := 4) (rest := [.ref 10, .int (M 2 17), .ref 10]) (avs := [.int 1]) (k_X6_fetch l 1 (xup M 10 2 (f_X9_of a1)) L hI4) yoX6_fetch ml_X6_45 rfl rfl rfl rfl ⟨Nat.zero_le _, Nat.zero_le _⟩ (show decode cX6_find 272 = .ok (.invokevirtual 45, 3) from by decide +kernel) rfl (fun v σ' hPo => ?_)
    obtain ⟨⟨rfl, rfl⟩, g60, hI61⟩ := hPo
    generalize hq59 : f_X6_fetch 1 (xup M 10 2 (f_X9_of a1)) = q59 at h g60 hI61 ⊢
    obtain ⟨r59, M59⟩ := q59
    have h := xb_eq h
    try dsimp only at h g60 hI61
    show V 0 0 275 [(5, .int (M 2 17)), (4, .int (8 + (a1 &&& 7))), (3, .int (a1 &&& 7)), (0, .ref 10), (1, .int a1), (2, .int a2)] [.int r59, .ref 10, .int (M 2 17), .ref 10] LAY (M59, L)
    refine x_callV C (k := 10) (ci := 4) (rest := [.int (M 2 17), .ref 10]) (avs := [.int r59]) (k_X6_index l r59 M59 L hI61) yoX6_index ml_X6_51 rfl rfl rfl rfl ⟨Nat.zero_le _, Nat.zero_le _⟩ (show decode cX6_find 275 = .ok (.invokevirtual 51, 3) from by decide +kernel) rfl (fun v σ' hPo => ?_)
    obtain ⟨⟨rfl, rfl⟩, g63, hI64⟩ := hPo
    show V 0 0 278 [(5, .int (M 2 17)), (4, .int (8 + (a1 &&& 7))), (3, .int (a1 &&& 7)), (0, .ref 10), (1, .int a1), (2, .int a2)] [.int (f_X6_index r59 M59), .int (M 2 17), .ref 10] LAY (M59, L)
    refine x_run C e_X6_find_23 e_X6_find_23_k (pc' := 282) (lv' := [(5, .int (M 2 17)), (4, .int (8 + (a1 &&& 7))), (3, .int (a1 &&& 7)), (0, .ref 10), (1, .int a1), (2, .int a2)]) (st' := []) (σ' := ((xup M59 10 3 ((M 2 17) + (f_X6_index r59 M59))), L)) rfl ⟨trivial, trivial, trivial⟩ ?_
    have hI65 : InvK INVC (xup M59 10 3 ((M 2 17) + (f_X6_index r59 M59))) := (hI61.fld 10 3 ((M 2 17) + (f_X6_index r59 M59)) (by decide))
    refine x_goto C (show decode cX6_find 282 = .ok (.goto 26, 3) from by decide +kernel) (tgt := 308) (by decide) ?_
    subst h
    exact x_vret C (show decode cX6_find 308 = .ok (.return_, 1) from by decide +kernel) (x_finV ⟨⟨rfl, rfl⟩, hI65⟩) (Nat.le_refl 0) (Nat.le_refl 0)
  rw [if_neg c58] at h
  by_cases c66 : (f_X9_of a1) = 11
  · rw [if_pos c66] at h
    refine x_tin C (show decode cX6_find 32 = .ok (.tableswitch 265 0 11 #[64, 72, 265, 81, 110, 139, 163, 187, 203, 215, 234, 253], 64) from by decide +kernel) 11 c66 (off := 253) (tgt := 285) (by decide) ?_
    refine x_run C e_X6_find_24 e_X6_find_24_k (pc' := 288) (lv' := [(5, .int (M 2 17)), (4, .int (8 + (a1 &&& 7))), (3, .int (a1 &&& 7)), (0, .ref 10), (1, .int a1), (2, .int a2)]) (st' := [.int a2, .ref 10, .ref 10]) (σ' := ((xup M 10 2 (f_X9_of a1)), L)) rfl ⟨trivial, trivial, trivial, trivial⟩ ?_
    refine x_callV C (k := 10) (ci := 4) (rest := [.ref 10]) (avs := [.int a2]) (k_X6_fetch l a2 (xup M 10 2 (f_X9_of a1)) L hI4) yoX6_fetch ml_X6_45 rfl rfl rfl rfl ⟨Nat.zero_le _, Nat.zero_le _⟩ (show decode cX6_find 288 = .ok (.invokevirtual 45, 3) from by decide +kernel) rfl (fun v σ' hPo => ?_)
    obtain ⟨⟨rfl, rfl⟩, g68, hI69⟩ := hPo
    generalize hq67 : f_X6_fetch a2 (xup M 10 2 (f_X9_of a1)) = q67 at h g68 hI69 ⊢
    obtain ⟨r67, M67⟩ := q67
    have h := xb_eq h
    try dsimp only at h g68 hI69
    show V 0 0 291 [(5, .int (M 2 17)), (4, .int (8 + (a1 &&& 7))), (3, .int (a1 &&& 7)), (0, .ref 10), (1, .int a1), (2, .int a2)] [.int r67, .ref 10] LAY (M67, L)
    refine x_run C e_X6_find_25 e_X6_find_25_k (pc' := 294) (lv' := [(5, .int (M 2 17)), (4, .int (8 + (a1 &&& 7))), (3, .int (a1 &&& 7)), (0, .ref 10), (1, .int a1), (2, .int a2)]) (st' := []) (σ' := ((xup M67 10 3 r67), L)) rfl ⟨trivial, trivial⟩ ?_
    have hI70 : InvK INVC (xup M67 10 3 r67) := (hI69.fld 10 3 r67 (by decide))
    refine x_goto C (show decode cX6_find 294 = .ok (.goto 14, 3) from by decide +kernel) (tgt := 308) (by decide) ?_
    subst h
    exact x_vret C (show decode cX6_find 308 = .ok (.return_, 1) from by decide +kernel) (x_finV ⟨⟨rfl, rfl⟩, hI70⟩) (Nat.le_refl 0) (Nat.le_refl 0)
  rw [if_neg c66] at h
  have hz : (f_X9_of a1).toInt < 0 ∨ 11 < (f_X9_of a1).toInt := by
    have zc5 := lv_neT (a := 0) c5 (by decide)
    have zc7 := lv_neT (a := 1) c7 (by decide)
    have zc9 := lv_neT (a := 2) c9 (by decide)
    have zc10 := lv_neT (a := 3) c10 (by decide)
    have zc16 := lv_neT (a := 4) c16 (by decide)
    have zc21 := lv_neT (a := 5) c21 (by decide)
    have zc29 := lv_neT (a := 6) c29 (by decide)
    have zc37 := lv_neT (a := 7) c37 (by decide)
    have zc45 := lv_neT (a := 8) c45 (by decide)
    have zc50 := lv_neT (a := 9) c50 (by decide)
    have zc58 := lv_neT (a := 10) c58 (by decide)
    have zc66 := lv_neT (a := 11) c66 (by decide)
    omega
  refine x_tout C (show decode cX6_find 32 = .ok (.tableswitch 265 0 11 #[64, 72, 265, 81, 110, 139, 163, 187, 203, 215, 234, 253], 64) from by decide +kernel) hz (tgt := 297) (by decide) ?_
  refine x_lv C [3, 1] rfl ?_
  exact b_X6_find_297 r C (8 + (a1 &&& 7)) (xup M 10 2 (f_X9_of a1)) (x_rg_add (x_rgc (x := 8) (k := 8) (by decide)) (x_rg_and (x := a1) (m := 7) (k := 7) (by decide) (by decide)) (by decide) (by decide)) hI4 h
-- X6_isRegister
def e_X6_isRegister_1 : List xI := [(0, .aload_n 0, 1, .null), (1, .getfield 34, 3, .null), (4, .iconst 1, 1, .int 1)]
theorem e_X6_isRegister_1_k : e_X6_isRegister_1.all (fun q => xokB cX6_isRegister q && xokL q) = true := by decide +kernel
def e_X6_isRegister_2 : List xI := [(12, .iconst 0, 1, .int 0)]
theorem e_X6_isRegister_2_k : e_X6_isRegister_2.all (fun q => xokB cX6_isRegister q && xokL q) = true := by decide +kernel
def e_X6_isRegister_3 : List xI := [(8, .iconst 1, 1, .int 1)]
theorem e_X6_isRegister_3_k : e_X6_isRegister_3.all (fun q => xokB cX6_isRegister q && xokL q) = true := by decide +kernel
abbrev P_X6_isRegister (r : Int32) (M0 : St) (L : Nat → Nat → Int64) : Option Value → xG → Prop := fun v σ' => PoI r M0 L v σ' ∧ xrg 0 1 r ∧ InvK INVC M0
abbrev R_X6_isRegister : Room := { frames := 0, cells := 0, slots := 0, locals := 0 }
abbrev C_X6_isRegister (l : Launch) (r : Int32) (M0 : St) (L : Nat → Nat → Int64) (V : XJ) : Prop := XC l yX6_isRegister.cls yX6_isRegister.name cX6_isRegister 1 R_X6_isRegister 0 0 fl_X6 kc_X6 LAY.length (xfin (some .boolean) LAY (P_X6_isRegister r M0 L)) V
def f_X6_isRegister (M : St) : Int32 := (if 1 < (M 10 2) then 0 else 1)
set_option maxRecDepth 20000 in
set_option maxHeartbeats 4000000 in
theorem k_X6_isRegister (l : Launch) (M : St) (L : Nat → Nat → Int64) (hI : InvK INVC M) : XM l yX6_isRegister cX6_isRegister 1 (some .boolean) R_X6_isRegister LAY [.ref 10] (M, L) (P_X6_isRegister (f_X6_isRegister M) M L) := by
  refine XM.of (by decide) (Nat.le_of_ble_eq_true rfl) LAY_in cl_ok fl_X6_ok kc_X6_ok (fun V C => ?_)
  obtain ⟨r, h⟩ : ∃ r, f_X6_isRegister M = r := ⟨_, rfl⟩
  rw [h] at C
  change C_X6_isRegister l r M L V at C
  unfold f_X6_isRegister at h
  show V 0 0 0 [(0, .ref 10)] [] LAY (M, L)
  refine x_run C e_X6_isRegister_1 e_X6_isRegister_1_k (pc' := 5) (lv' := [(0, .ref 10)]) (st' := [.int 1, .int (M 10 2)]) (σ' := (M, L)) rfl ⟨trivial, trivial, trivial, trivial⟩ ?_
  refine x_icmp_gt C (show decode cX6_isRegister 5 = .ok (.if_icmp .gt 7, 3) from by decide +kernel) (tgt := 12) (by decide) (fun c1 => ?_) (fun c1 => ?_)
  · rw [if_pos c1] at h
    have g2 : xrg 2 2147483647 (M 10 2) := (x_c_lt (x_rgc (x := 1) (k := 1) (by decide)) (x_rgt (M 10 2)) c1).2
    refine x_run C e_X6_isRegister_2 e_X6_isRegister_2_k (pc' := 13) (lv' := [(0, .ref 10)]) (st' := [.int 0]) (σ' := (M, L)) rfl ⟨trivial, trivial⟩ ?_
    subst h
    exact x_iret C (show decode cX6_isRegister 13 = .ok (.ireturn, 1) from by decide +kernel) (x_finI (x_nb (x_rgw (x_rgc (x := 0) (k := 0) (by decide)) (lo' := 0) (hi' := 1) (by decide) (by decide))) ⟨⟨rfl, rfl⟩, (x_rgw (x_rgc (x := 0) (k := 0) (by decide)) (lo' := 0) (hi' := 1) (by decide) (by decide)), hI⟩) (Nat.le_refl 0) (Nat.le_refl 0)
  · rw [if_neg c1] at h
    have g3 : xrg (-2147483648) 1 (M 10 2) := (x_c_nlt (x_rgc (x := 1) (k := 1) (by decide)) (x_rgt (M 10 2)) c1).2
    refine x_run C e_X6_isRegister_3 e_X6_isRegister_3_k (pc' := 9) (lv' := [(0, .ref 10)]) (st' := [.int 1]) (σ' := (M, L)) rfl ⟨trivial, trivial⟩ ?_
    refine x_goto C (show decode cX6_isRegister 9 = .ok (.goto 4, 3) from by decide +kernel) (tgt := 13) (by decide) ?_
    subst h
    exact x_iret C (show decode cX6_isRegister 13 = .ok (.ireturn, 1) from by decide +kernel) (x_finI (x_nb (x_rgw (x_rgc (x := 1) (k := 1) (by decide)) (lo' := 0) (hi' := 1) (by decide) (by decide))) ⟨⟨rfl, rfl⟩, (x_rgw (x_rgc (x := 1) (k := 1) (by decide)) (lo' := 0) (hi' := 1) (by decide) (by decide)), hI⟩) (Nat.le_refl 0) (Nat.le_refl 0)
-- X10_maskOf
def e_X10_maskOf_1 : List xI := [(0, .iload_n 0, 1, .null)]
theorem e_X10_maskOf_1_k : e_X10_maskOf_1.all (fun q => xokB cX10_maskOf q && xokL q) = true := by decide +kernel
def e_X10_maskOf_2 : List xI := [(10, .iload_n 0, 1, .null), (11, .iconst 1, 1, .int 1)]
theorem e_X10_maskOf_2_k : e_X10_maskOf_2.all (fun q => xokB cX10_maskOf q && xokL q) = true := by decide +kernel
def e_X10_maskOf_3 : List xI := [(20, .iconst (-1), 1, .int (-1))]
theorem e_X10_maskOf_3_k : e_X10_maskOf_3.all (fun q => xokB cX10_maskOf q && xokL q) = true := by decide +kernel
def e_X10_maskOf_4 : List xI := [(15, .ldc 108, 2, .null)]
theorem e_X10_maskOf_4_k : e_X10_maskOf_4.all (fun q => xokB cX10_maskOf q && xokL q) = true := by decide +kernel
def e_X10_maskOf_5 : List xI := [(4, .sipush 255, 3, .int 255)]
theorem e_X10_maskOf_5_k : e_X10_maskOf_5.all (fun q => xokB cX10_maskOf q && xokL q) = true := by decide +kernel
abbrev P_X10_maskOf (r : Int32) (M0 : St) (L : Nat → Nat → Int64) : Option Value → xG → Prop := fun v σ' => PoI r M0 L v σ' ∧ xrg (-1) 65535 r ∧ True
abbrev R_X10_maskOf : Room := { frames := 0, cells := 0, slots := 0, locals := 0 }
abbrev C_X10_maskOf (l : Launch) (r : Int32) (M0 : St) (L : Nat → Nat → Int64) (V : XJ) : Prop := XC l yX10_maskOf.cls yX10_maskOf.name cX10_maskOf 1 R_X10_maskOf 0 0 fl_X10 kc_X10 LAY.length (xfin (some .int) LAY (P_X10_maskOf r M0 L)) V
def f_X10_maskOf (a1 : Int32) : Int32 := (if a1 = 0 then 255 else (if a1 = 1 then 65535 else (-1)))
set_option maxRecDepth 20000 in
set_option maxHeartbeats 4000000 in
theorem k_X10_maskOf (l : Launch) (a1 : Int32) (M : St) (L : Nat → Nat → Int64) : XM l yX10_maskOf cX10_maskOf 1 (some .int) R_X10_maskOf LAY [.int a1] (M, L) (P_X10_maskOf (f_X10_maskOf a1) M L) := by
  refine XM.of (by decide) (Nat.le_of_ble_eq_true rfl) LAY_in cl_ok fl_X10_ok kc_X10_ok (fun V C => ?_)
  obtain ⟨r, h⟩ : ∃ r, f_X10_maskOf a1 = r := ⟨_, rfl⟩
  rw [h] at C
  change C_X10_maskOf l r M L V at C
  unfold f_X10_maskOf at h
  show V 0 0 0 [(0, .int a1)] [] LAY (M, L)
  refine x_run C e_X10_maskOf_1 e_X10_maskOf_1_k (pc' := 1) (lv' := [(0, .int a1)]) (st' := [.int a1]) (σ' := (M, L)) rfl ⟨trivial, trivial⟩ ?_
  refine x_if_ne C (show decode cX10_maskOf 1 = .ok (.ifCond .ne 9, 3) from by decide +kernel) (tgt := 10) (by decide) (fun c1 => ?_) (fun c1 => ?_)
  · rw [if_neg c1] at h
    refine x_run C e_X10_maskOf_2 e_X10_maskOf_2_k (pc' := 12) (lv' := [(0, .int a1)]) (st' := [.int 1, .int a1]) (σ' := (M, L)) rfl ⟨trivial, trivial, trivial⟩ ?_
    refine x_icmp_ne C (show decode cX10_maskOf 12 = .ok (.if_icmp .ne 8, 3) from by decide +kernel) (tgt := 20) (by decide) (fun c2 => ?_) (fun c2 => ?_)
    · rw [if_neg c2] at h
      refine x_run C e_X10_maskOf_3 e_X10_maskOf_3_k (pc' := 21) (lv' := [(0, .int a1)]) (st' := [.int (-1)]) (σ' := (M, L)) rfl ⟨trivial, trivial⟩ ?_
      subst h
      exact x_iret C (show decode cX10_maskOf 21 = .ok (.ireturn, 1) from by decide +kernel) (x_finI rfl ⟨⟨rfl, rfl⟩, (x_rgw (x_rgc (x := (-1)) (k := (-1)) (by decide)) (lo' := (-1)) (hi' := 65535) (by decide) (by decide)), trivial⟩) (Nat.le_refl 0) (Nat.le_refl 0)
    · rw [if_pos c2] at h
      have g3 : xrg 1 1 a1 := (x_c_eq (x_rgt a1) (x_rgc (x := 1) (k := 1) (by decide)) c2).1
      refine x_run C e_X10_maskOf_4 e_X10_maskOf_4_k (pc' := 17) (lv' := [(0, .int a1)]) (st' := [.int 65535]) (σ' := (M, L)) rfl ⟨trivial, trivial⟩ ?_
      refine x_goto C (show decode cX10_maskOf 17 = .ok (.goto 4, 3) from by decide +kernel) (tgt := 21) (by decide) ?_
      subst h
      exact x_iret C (show decode cX10_maskOf 21 = .ok (.ireturn, 1) from by decide +kernel) (x_finI rfl ⟨⟨rfl, rfl⟩, (x_rgw (x_rgc (x := 65535) (k := 65535) (by decide)) (lo' := (-1)) (hi' := 65535) (by decide) (by decide)), trivial⟩) (Nat.le_refl 0) (Nat.le_refl 0)
  · rw [if_pos c1] at h
    have g4 : xrg 0 0 a1 := (x_c_eq (x_rgt a1) (x_rgc (x := 0) (k := 0) (by decide)) c1).1
    refine x_run C e_X10_maskOf_5 e_X10_maskOf_5_k (pc' := 7) (lv' := [(0, .int a1)]) (st' := [.int 255]) (σ' := (M, L)) rfl ⟨trivial, trivial⟩ ?_
    refine x_goto C (show decode cX10_maskOf 7 = .ok (.goto 14, 3) from by decide +kernel) (tgt := 21) (by decide) ?_
    subst h
    exact x_iret C (show decode cX10_maskOf 21 = .ok (.ireturn, 1) from by decide +kernel) (x_finI rfl ⟨⟨rfl, rfl⟩, (x_rgw (x_rgc (x := 255) (k := 255) (by decide)) (lo' := (-1)) (hi' := 65535) (by decide) (by decide)), trivial⟩) (Nat.le_refl 0) (Nat.le_refl 0)
-- X6_read
def e_X6_read_1 : List xI := [(0, .aload_n 0, 1, .null), (1, .getfield 34, 3, .null), (4, .bipush 11, 2, .int 11)]
theorem e_X6_read_1_k : e_X6_read_1.all (fun q => xokB cX6_read q && xokL q) = true := by decide +kernel
def e_X6_read_2 : List xI := [(14, .aload_n 0, 1, .null)]
theorem e_X6_read_2_k : e_X6_read_2.all (fun q => xokB cX6_read q && xokL q) = true := by decide +kernel
def e_X6_read_3 : List xI := [(39, .aload_n 0, 1, .null), (40, .getfield 18, 3, .null), (43, .aload_n 0, 1, .null), (44, .getfield 38, 3, .null), (47, .iload_n 1, 1, .null), (48, .iconst 1, 1, .int 1)]
theorem e_X6_read_3_k : e_X6_read_3.all (fun q => xokB cX6_read q && xokL q) = true := by decide +kernel
def e_X6_read_4 : List xI := [(21, .aload_n 0, 1, .null), (22, .getfield 15, 3, .null), (25, .aload_n 0, 1, .null), (26, .getfield 38, 3, .null), (29, .bipush 15, 2, .int 15), (31, .iand, 1, .null), (32, .iaload, 1, .null), (33, .iload_n 1, 1, .null)]
theorem e_X6_read_4_k : e_X6_read_4.all (fun q => xokB cX6_read q && xokL q) = true := by decide +kernel
def e_X6_read_5 : List xI := [(37, .iand, 1, .null)]
theorem e_X6_read_5_k : e_X6_read_5.all (fun q => xokB cX6_read q && xokL q) = true := by decide +kernel
def e_X6_read_6 : List xI := [(9, .aload_n 0, 1, .null), (10, .getfield 38, 3, .null)]
theorem e_X6_read_6_k : e_X6_read_6.all (fun q => xokB cX6_read q && xokL q) = true := by decide +kernel
abbrev P_X6_read (r : Int32 × St) (L : Nat → Nat → Int64) : Option Value → xG → Prop := fun v σ' => PoI r.1 r.2 L v σ' ∧ True ∧ InvK INVC r.2
abbrev R_X6_read : Room := { frames := 2, cells := 0, slots := 0, locals := 54 }
abbrev C_X6_read (l : Launch) (r : Int32 × St) (L : Nat → Nat → Int64) (V : XJ) : Prop := XC l yX6_read.cls yX6_read.name cX6_read 2 R_X6_read 0 0 fl_X6 kc_X6 LAY.length (xfin (some .int) LAY (P_X6_read r L)) V
def f_X6_read (a1 : Int32) (M : St) : Int32 × St := (if (M 10 2) = 11 then ((M 10 3), M) else (if (f_X6_isRegister  M) = 0 then (xb (f_X2_read (M 10 3) a1 1 M) fun q7 => (q7.1, q7.2)) else (((M 2 ((M 10 3) &&& 15).toNatClampNeg) &&& (f_X10_maskOf a1)), M)))
set_option maxRecDepth 20000 in
set_option maxHeartbeats 4000000 in
theorem k_X6_read (l : Launch) (a1 : Int32) (M : St) (L : Nat → Nat → Int64) (hI : InvK INVC M) : XM l yX6_read cX6_read 2 (some .int) R_X6_read LAY [.ref 10, .int a1] (M, L) (P_X6_read (f_X6_read a1 M) L) := by
  refine XM.of (by decide) (Nat.le_of_ble_eq_true rfl) LAY_in cl_ok fl_X6_ok kc_X6_ok (fun V C => ?_)
  obtain ⟨r, h⟩ : ∃ r, f_X6_read a1 M = r := ⟨_, rfl⟩
  rw [h] at C
  change C_X6_read l r L V at C
  unfold f_X6_read at h
  show V 0 0 0 [(0, .ref 10), (1, .int a1)] [] LAY (M, L)
  refine x_run C e_X6_read_1 e_X6_read_1_k (pc' := 6) (lv' := [(0, .ref 10), (1, .int a1)]) (st' := [.int 11, .int (M 10 2)]) (σ' := (M, L)) rfl ⟨trivial, trivial, trivial, trivial⟩ ?_
  refine x_icmp_ne C (show decode cX6_read 6 = .ok (.if_icmp .ne 8, 3) from by decide +kernel) (tgt := 14) (by decide) (fun c1 => ?_) (fun c1 => ?_)
  · rw [if_neg c1] at h
    refine x_run C e_X6_read_2 e_X6_read_2_k (pc' := 15) (lv' := [(0, .ref 10), (1, .int a1)]) (st' := [.ref 10]) (σ' := (M, L)) rfl ⟨trivial, trivial⟩ ?_
    refine x_callV C (k := 10) (ci := 4) (rest := []) (avs := []) (k_X6_isRegister l  M L hI) yoX6_isRegister ml_X6_54 rfl rfl rfl rfl ⟨Nat.zero_le _, Nat.zero_le _⟩ (show decode cX6_read 15 = .ok (.invokevirtual 54, 3) from by decide +kernel) rfl (fun v σ' hPo => ?_)
    obtain ⟨⟨rfl, rfl⟩, g3, hI4⟩ := hPo
    show V 0 0 18 [(0, .ref 10), (1, .int a1)] [.int (f_X6_isRegister  M)] LAY (M, L)
    refine x_if_eq C (show decode cX6_read 18 = .ok (.ifCond .eq 21, 3) from by decide +kernel) (tgt := 39) (by decide) (fun c5 => ?_) (fun c5 => ?_)
    · rw [if_pos c5] at h
      have g6 : xrg 0 0 (f_X6_isRegister  M) := (x_c_eq g3 (x_rgc (x := 0) (k := 0) (by decide)) c5).1
      refine x_run C e_X6_read_3 e_X6_read_3_k (pc' := 49) (lv' := [(0, .ref 10), (1, .int a1)]) (st' := [.int 1, .int a1, .int (M 10 3), .ref 4]) (σ' := (M, L)) rfl ⟨trivial, trivial, trivial, trivial, trivial, trivial, trivial⟩ ?_
      refine x_callV C (k := 4) (ci := 1) (rest := []) (avs := [.int (M 10 3), .int a1, .int 1]) (k_X2_read l (M 10 3) a1 1 M L hI) yoX2_read ml_X6_24 rfl rfl rfl rfl ⟨Nat.zero_le _, Nat.zero_le _⟩ (show decode cX6_read 49 = .ok (.invokevirtual 24, 3) from by decide +kernel) rfl (fun v σ' hPo => ?_)
      obtain ⟨⟨rfl, rfl⟩, g8, hI9⟩ := hPo
      generalize hq7 : f_X2_read (M 10 3) a1 1 M = q7 at h g8 hI9 ⊢
      obtain ⟨r7, M7⟩ := q7
      have h := xb_eq h
      try dsimp only at h g8 hI9
      show V 0 0 52 [(0, .ref 10), (1, .int a1)] [.int r7] LAY (M7, L)
      subst h
      exact x_iret C (show decode cX6_read 52 = .ok (.ireturn, 1) from by decide +kernel) (x_finI rfl ⟨⟨rfl, rfl⟩, trivial, hI9⟩) (Nat.le_refl 0) (Nat.le_refl 0)
    · rw [if_neg c5] at h
      have g10 : xrg 1 1 (f_X6_isRegister  M) := (x_c_ne g3 (by decide) c5)
      refine x_run C e_X6_read_4 e_X6_read_4_k (pc' := 34) (lv' := [(0, .ref 10), (1, .int a1)]) (st' := [.int a1, .int (M 2 ((M 10 3) &&& 15).toNatClampNeg)]) (σ' := (M, L)) rfl ⟨trivial, trivial, trivial, trivial, trivial, trivial, (x_rgv (x_rg_and (x := (M 10 3)) (m := 15) (k := 15) (by decide) (by decide)) (by decide) (by decide)), trivial, trivial⟩ ?_
      refine x_callSN C (rest := [.int (M 2 ((M 10 3) &&& 15).toNatClampNeg)]) (avs := [.int a1]) (k_X10_maskOf l a1 M L) yoX10_maskOf ml_X6_58 rfl ⟨Nat.zero_le _, Nat.zero_le _⟩ (show decode cX6_read 34 = .ok (.invokestatic 58, 3) from by decide +kernel) rfl (fun v σ' hPo => ?_)
      obtain ⟨⟨rfl, rfl⟩, g12, -⟩ := hPo
      show V 0 0 37 [(0, .ref 10), (1, .int a1)] [.int (f_X10_maskOf a1), .int (M 2 ((M 10 3) &&& 15).toNatClampNeg)] LAY (M, L)
      refine x_run C e_X6_read_5 e_X6_read_5_k (pc' := 38) (lv' := [(0, .ref 10), (1, .int a1)]) (st' := [.int ((M 2 ((M 10 3) &&& 15).toNatClampNeg) &&& (f_X10_maskOf a1))]) (σ' := (M, L)) rfl ⟨trivial, trivial⟩ ?_
      subst h
      exact x_iret C (show decode cX6_read 38 = .ok (.ireturn, 1) from by decide +kernel) (x_finI rfl ⟨⟨rfl, rfl⟩, trivial, hI⟩) (Nat.le_refl 0) (Nat.le_refl 0)
  · rw [if_pos c1] at h
    have g14 : xrg 11 11 (M 10 2) := (x_c_eq (x_rgt (M 10 2)) (x_rgc (x := 11) (k := 11) (by decide)) c1).1
    refine x_run C e_X6_read_6 e_X6_read_6_k (pc' := 13) (lv' := [(0, .ref 10), (1, .int a1)]) (st' := [.int (M 10 3)]) (σ' := (M, L)) rfl ⟨trivial, trivial, trivial⟩ ?_
    subst h
    exact x_iret C (show decode cX6_read 13 = .ok (.ireturn, 1) from by decide +kernel) (x_finI rfl ⟨⟨rfl, rfl⟩, trivial, hI⟩) (Nat.le_refl 0) (Nat.le_refl 0)
-- X4_readSource
def e_X4_readSource_1 : List xI := [(0, .aload_n 0, 1, .null), (1, .getfield 26, 3, .null), (4, .aload_n 0, 1, .null), (5, .getfield 30, 3, .null), (8, .getfield 238, 3, .null), (11, .aload_n 0, 1, .null), (12, .getfield 30, 3, .null), (15, .getfield 65, 3, .null)]
theorem e_X4_readSource_1_k : e_X4_readSource_1.all (fun q => xokB cX4_readSource q && xokL q) = true := by decide +kernel
def e_X4_readSource_2 : List xI := [(21, .aload_n 0, 1, .null), (22, .getfield 26, 3, .null), (25, .aload_n 0, 1, .null), (26, .getfield 30, 3, .null), (29, .getfield 65, 3, .null)]
theorem e_X4_readSource_2_k : e_X4_readSource_2.all (fun q => xokB cX4_readSource q && xokL q) = true := by decide +kernel
abbrev P_X4_readSource (r : Int32 × St) (L : Nat → Nat → Int64) : Option Value → xG → Prop := fun v σ' => PoI r.1 r.2 L v σ' ∧ True ∧ InvK INVC r.2
abbrev R_X4_readSource : Room := { frames := 4, cells := 0, slots := 0, locals := 102 }
abbrev C_X4_readSource (l : Launch) (r : Int32 × St) (L : Nat → Nat → Int64) (V : XJ) : Prop := XC l yX4_readSource.cls yX4_readSource.name cX4_readSource 1 R_X4_readSource 0 0 fl_X4 kc_X4 LAY.length (xfin (some .int) LAY (P_X4_readSource r L)) V
def f_X4_readSource (M : St) : Int32 × St := (xb (f_X6_find (M 11 2) (M 11 1) M) fun q1 => (xb (f_X6_read (q1 11 1) q1) fun q4 => (q4.1, q4.2)))
set_option maxRecDepth 20000 in
set_option maxHeartbeats 4000000 in
theorem k_X4_readSource (l : Launch) (M : St) (L : Nat → Nat → Int64) (hI : InvK INVC M) : XM l yX4_readSource cX4_readSource 1 (some .int) R_X4_readSource LAY [.ref 12] (M, L) (P_X4_readSource (f_X4_readSource M) L) := by
  refine XM.of (by decide) (Nat.le_of_ble_eq_true rfl) LAY_in cl_ok fl_X4_ok kc_X4_ok (fun V C => ?_)
  obtain ⟨r, h⟩ : ∃ r, f_X4_readSource M = r := ⟨_, rfl⟩
  rw [h] at C
  change C_X4_readSource l r L V at C
  unfold f_X4_readSource at h
  show V 0 0 0 [(0, .ref 12)] [] LAY (M, L)
  refine x_run C e_X4_readSource_1 e_X4_readSource_1_k (pc' := 18) (lv' := [(0, .ref 12)]) (st' := [.int (M 11 1), .int (M 11 2), .ref 10]) (σ' := (M, L)) rfl ⟨trivial, trivial, trivial, trivial, trivial, trivial, trivial, trivial, trivial⟩ ?_
  refine x_callV C (k := 10) (ci := 4) (rest := []) (avs := [.int (M 11 2), .int (M 11 1)]) (k_X6_find l (M 11 2) (M 11 1) M L hI) yoX6_find ml_X4_241 rfl rfl rfl rfl ⟨Nat.zero_le _, Nat.zero_le _⟩ (show decode cX4_readSource 18 = .ok (.invokevirtual 241, 3) from by decide +kernel) rfl (fun v σ' hPo => ?_)
  obtain ⟨⟨rfl, rfl⟩, hI3⟩ := hPo
  generalize hq1 : f_X6_find (M 11 2) (M 11 1) M = q1 at h hI3 ⊢
  have h := xb_eq h
  show V 0 0 21 [(0, .ref 12)] [] LAY (q1, L)
  refine x_run C e_X4_readSource_2 e_X4_readSource_2_k (pc' := 32) (lv' := [(0, .ref 12)]) (st' := [.int (q1 11 1), .ref 10]) (σ' := (q1, L)) rfl ⟨trivial, trivial, trivial, trivial, trivial, trivial⟩ ?_
  refine x_callV C (k := 10) (ci := 4) (rest := []) (avs := [.int (q1 11 1)]) (k_X6_read l (q1 11 1) q1 L hI3) yoX6_read ml_X4_244 rfl rfl rfl rfl ⟨Nat.zero_le _, Nat.zero_le _⟩ (show decode cX4_readSource 32 = .ok (.invokevirtual 244, 3) from by decide +kernel) rfl (fun v σ' hPo => ?_)
  obtain ⟨⟨rfl, rfl⟩, g5, hI6⟩ := hPo
  generalize hq4 : f_X6_read (q1 11 1) q1 = q4 at h g5 hI6 ⊢
  obtain ⟨r4, M4⟩ := q4
  have h := xb_eq h
  try dsimp only at h g5 hI6
  show V 0 0 35 [(0, .ref 12)] [.int r4] LAY (M4, L)
  subst h
  exact x_iret C (show decode cX4_readSource 35 = .ok (.ireturn, 1) from by decide +kernel) (x_finI rfl ⟨⟨rfl, rfl⟩, trivial, hI6⟩) (Nat.le_refl 0) (Nat.le_refl 0)
-- X1_signs
def e_X1_signs_1 : List xI := [(0, .iload_n 0, 1, .null), (1, .iload_n 1, 1, .null)]
theorem e_X1_signs_1_k : e_X1_signs_1.all (fun q => xokB cX1_signs q && xokL q) = true := by decide +kernel
def e_X1_signs_2 : List xI := [(5, .istore_n 2, 1, .null), (6, .iload_n 2, 1, .null)]
theorem e_X1_signs_2_k : e_X1_signs_2.all (fun q => xokB cX1_signs q && xokL q) = true := by decide +kernel
def e_X1_signs_3 : List xI := [(15, .iconst 0, 1, .int 0)]
theorem e_X1_signs_3_k : e_X1_signs_3.all (fun q => xokB cX1_signs q && xokL q) = true := by decide +kernel
def e_X1_signs_4 : List xI := [(10, .bipush 8, 2, .int 8)]
theorem e_X1_signs_4_k : e_X1_signs_4.all (fun q => xokB cX1_signs q && xokL q) = true := by decide +kernel
def e_X1_signs_5 : List xI := [(16, .iload_n 2, 1, .null)]
theorem e_X1_signs_5_k : e_X1_signs_5.all (fun q => xokB cX1_signs q && xokL q) = true := by decide +kernel
def e_X1_signs_6 : List xI := [(24, .iconst 0, 1, .int 0), (25, .ior, 1, .null)]
theorem e_X1_signs_6_k : e_X1_signs_6.all (fun q => xokB cX1_signs q && xokL q) = true := by decide +kernel
def e_X1_signs_7 : List xI := [(20, .iconst 4, 1, .int 4)]
theorem e_X1_signs_7_k : e_X1_signs_7.all (fun q => xokB cX1_signs q && xokL q) = true := by decide +kernel
def e_X1_signs_8 : List xI := [(25, .ior, 1, .null)]
theorem e_X1_signs_8_k : e_X1_signs_8.all (fun q => xokB cX1_signs q && xokL q) = true := by decide +kernel
abbrev P_X1_signs (r : Int32) (M0 : St) (L : Nat → Nat → Int64) : Option Value → xG → Prop := fun v σ' => PoI r M0 L v σ' ∧ xrg 0 15 r ∧ True
abbrev R_X1_signs : Room := { frames := 1, cells := 0, slots := 0, locals := 21 }
abbrev C_X1_signs (l : Launch) (r : Int32) (M0 : St) (L : Nat → Nat → Int64) (V : XJ) : Prop := XC l yX1_signs.cls yX1_signs.name cX1_signs 3 R_X1_signs 0 0 fl_X1 kc_X1 LAY.length (xfin (some .int) LAY (P_X1_signs r M0 L)) V
def f_X1_signs_16 (x2 : Int32) (s0 : Int32) : Int32 := (if x2 = 0 then (s0 ||| 4) else (s0 ||| 0))
def f_X1_signs (a1 : Int32) (a2 : Int32) : Int32 := (if 0 ≤ (f_X10_extended a1 a2) then f_X1_signs_16 (f_X10_extended a1 a2) 0 else f_X1_signs_16 (f_X10_extended a1 a2) 8)
set_option maxRecDepth 20000 in
set_option maxHeartbeats 4000000 in
theorem b_X1_signs_16 {l : Launch} {L : Nat → Nat → Int64} {V : XJ} (r : Int32) {M : St} (C : C_X1_signs l r M L V) (x2 : Int32) (s0 : Int32) (ws0 : xrg 0 8 s0) (h : f_X1_signs_16 x2 s0 = r) : V 0 0 16 [(2, .int x2)] [.int s0] LAY (M, L) := by
  unfold f_X1_signs_16 at h
  refine x_run C e_X1_signs_5 e_X1_signs_5_k (pc' := 17) (lv' := [(2, .int x2)]) (st' := [.int x2, .int s0]) (σ' := (M, L)) rfl ⟨trivial, trivial⟩ ?_
  refine x_if_ne C (show decode cX1_signs 17 = .ok (.ifCond .ne 7, 3) from by decide +kernel) (tgt := 24) (by decide) (fun c7 => ?_) (fun c7 => ?_)
  · rw [if_neg c7] at h
    refine x_run C e_X1_signs_6 e_X1_signs_6_k (pc' := 26) (lv' := [(2, .int x2)]) (st' := [.int (s0 ||| 0)]) (σ' := (M, L)) rfl ⟨trivial, trivial, trivial⟩ ?_
    subst h
    exact x_iret C (show decode cX1_signs 26 = .ok (.ireturn, 1) from by decide +kernel) (x_finI rfl ⟨⟨rfl, rfl⟩, (x_rg_or 4 (by decide) ws0 (x_rgc (x := 0) (k := 0) (by decide)) (by decide) (by decide)), trivial⟩) (Nat.le_refl 0) (Nat.le_refl 0)
  · rw [if_pos c7] at h
    have g8 : xrg 0 0 x2 := (x_c_eq (x_rgt x2) (x_rgc (x := 0) (k := 0) (by decide)) c7).1
    refine x_run C e_X1_signs_7 e_X1_signs_7_k (pc' := 21) (lv' := [(2, .int x2)]) (st' := [.int 4, .int s0]) (σ' := (M, L)) rfl ⟨trivial, trivial⟩ ?_
    refine x_goto C (show decode cX1_signs 21 = .ok (.goto 4, 3) from by decide +kernel) (tgt := 25) (by decide) ?_
    refine x_run C e_X1_signs_8 e_X1_signs_8_k (pc' := 26) (lv' := [(2, .int x2)]) (st' := [.int (s0 ||| 4)]) (σ' := (M, L)) rfl ⟨trivial, trivial⟩ ?_
    subst h
    exact x_iret C (show decode cX1_signs 26 = .ok (.ireturn, 1) from by decide +kernel) (x_finI rfl ⟨⟨rfl, rfl⟩, (x_rg_or 4 (by decide) ws0 (x_rgw (x_rgc (x := 4) (k := 4) (by decide)) (lo' := 0) (hi' := 4) (by decide) (by decide)) (by decide) (by decide)), trivial⟩) (Nat.le_refl 0) (Nat.le_refl 0)
set_option maxRecDepth 20000 in
set_option maxHeartbeats 4000000 in
theorem k_X1_signs (l : Launch) (a1 : Int32) (a2 : Int32) (M : St) (L : Nat → Nat → Int64) : XM l yX1_signs cX1_signs 3 (some .int) R_X1_signs LAY [.int a1, .int a2] (M, L) (P_X1_signs (f_X1_signs a1 a2) M L) := by
  refine XM.of (by decide) (Nat.le_of_ble_eq_true rfl) LAY_in cl_ok fl_X1_ok kc_X1_ok (fun V C => ?_)
  obtain ⟨r, h⟩ : ∃ r, f_X1_signs a1 a2 = r := ⟨_, rfl⟩
  rw [h] at C
  change C_X1_signs l r M L V at C
  unfold f_X1_signs at h
  show V 0 0 0 [(0, .int a1), (1, .int a2)] [] LAY (M, L)
  refine x_run C e_X1_signs_1 e_X1_signs_1_k (pc' := 2) (lv' := [(0, .int a1), (1, .int a2)]) (st' := [.int a2, .int a1]) (σ' := (M, L)) rfl ⟨trivial, trivial, trivial⟩ ?_
  refine x_callSN C (rest := []) (avs := [.int a1, .int a2]) (k_X10_extended l a1 a2 M L) yoX10_extended ml_X1_60 rfl ⟨Nat.zero_le _, Nat.zero_le _⟩ (show decode cX1_signs 2 = .ok (.invokestatic 60, 3) from by decide +kernel) rfl (fun v σ' hPo => ?_)
  obtain ⟨⟨rfl, rfl⟩, g2, -⟩ := hPo
  show V 0 0 5 [(0, .int a1), (1, .int a2)] [.int (f_X10_extended a1 a2)] LAY (M, L)
  refine x_run C e_X1_signs_2 e_X1_signs_2_k (pc' := 7) (lv' := [(2, .int (f_X10_extended a1 a2)), (0, .int a1), (1, .int a2)]) (st' := [.int (f_X10_extended a1 a2)]) (σ' := (M, L)) rfl ⟨trivial, trivial, trivial⟩ ?_
  refine x_if_ge C (show decode cX1_signs 7 = .ok (.ifCond .ge 8, 3) from by decide +kernel) (tgt := 15) (by decide) (fun c4 => ?_) (fun c4 => ?_)
  · rw [if_pos c4] at h
    have g5 : xrg 0 2147483647 (f_X10_extended a1 a2) := (x_c_le (x_rgc (x := 0) (k := 0) (by decide)) (x_rgt (f_X10_extended a1 a2)) c4).2
    refine x_run C e_X1_signs_3 e_X1_signs_3_k (pc' := 16) (lv' := [(2, .int (f_X10_extended a1 a2)), (0, .int a1), (1, .int a2)]) (st' := [.int 0]) (σ' := (M, L)) rfl ⟨trivial, trivial⟩ ?_
    refine x_lv C [0] rfl ?_
    exact b_X1_signs_16 r C (f_X10_extended a1 a2) 0  (x_rgw (x_rgc (x := 0) (k := 0) (by decide)) (lo' := 0) (hi' := 8) (by decide) (by decide)) h
  · rw [if_neg c4] at h
    have g6 : xrg (-2147483648) (-1) (f_X10_extended a1 a2) := (x_c_nle (x_rgc (x := 0) (k := 0) (by decide)) (x_rgt (f_X10_extended a1 a2)) c4).2
    refine x_run C e_X1_signs_4 e_X1_signs_4_k (pc' := 12) (lv' := [(2, .int (f_X10_extended a1 a2)), (0, .int a1), (1, .int a2)]) (st' := [.int 8]) (σ' := (M, L)) rfl ⟨trivial, trivial⟩ ?_
    refine x_goto C (show decode cX1_signs 12 = .ok (.goto 4, 3) from by decide +kernel) (tgt := 16) (by decide) ?_
    refine x_lv C [0] rfl ?_
    exact b_X1_signs_16 r C (f_X10_extended a1 a2) 8  (x_rgw (x_rgc (x := 8) (k := 8) (by decide)) (lo' := 0) (hi' := 8) (by decide) (by decide)) h
-- X8_changeFlags
def e_X8_changeFlags_1 : List xI := [(0, .aload_n 0, 1, .null), (1, .getfield 9, 3, .null), (4, .bipush 18, 2, .int 18), (6, .aload_n 0, 1, .null), (7, .getfield 9, 3, .null), (10, .bipush 18, 2, .int 18), (12, .iaload, 1, .null), (13, .iload_n 1, 1, .null), (14, .iconst (-1), 1, .int (-1)), (15, .ixor, 1, .null), (16, .iand, 1, .null), (17, .iload_n 2, 1, .null), (18, .iload_n 1, 1, .null), (19, .iand, 1, .null), (20, .ior, 1, .null), (21, .iastore, 1, .null)]
theorem e_X8_changeFlags_1_k : e_X8_changeFlags_1.all (fun q => xokB cX8_changeFlags q && xokL q) = true := by decide +kernel
abbrev P_X8_changeFlags (r : St) (L : Nat → Nat → Int64) : Option Value → xG → Prop := fun v σ' => PoV r L v σ' ∧ InvK INVC r
abbrev R_X8_changeFlags : Room := { frames := 0, cells := 0, slots := 0, locals := 0 }
abbrev C_X8_changeFlags (l : Launch) (r : St) (L : Nat → Nat → Int64) (V : XJ) : Prop := XC l yX8_changeFlags.cls yX8_changeFlags.name cX8_changeFlags 3 R_X8_changeFlags 0 0 fl_X8 kc_X8 LAY.length (xfin none LAY (P_X8_changeFlags r L)) V
def f_X8_changeFlags (a1 : Int32) (a2 : Int32) (M : St) : St := (xup M 2 18 (((M 2 18) &&& (a1 ^^^ (-1))) ||| (a2 &&& a1)))
set_option maxRecDepth 20000 in
set_option maxHeartbeats 4000000 in
theorem k_X8_changeFlags (l : Launch) (a1 : Int32) (a2 : Int32) (M : St) (L : Nat → Nat → Int64) (hI : InvK INVC M) : XM l yX8_changeFlags cX8_changeFlags 3 none R_X8_changeFlags LAY [.ref 1, .int a1, .int a2] (M, L) (P_X8_changeFlags (f_X8_changeFlags a1 a2 M) L) := by
  refine XM.of (by decide) (Nat.le_of_ble_eq_true rfl) LAY_in cl_ok fl_X8_ok kc_X8_ok (fun V C => ?_)
  obtain ⟨r, h⟩ : ∃ r, f_X8_changeFlags a1 a2 M = r := ⟨_, rfl⟩
  rw [h] at C
  change C_X8_changeFlags l r L V at C
  unfold f_X8_changeFlags at h
  show V 0 0 0 [(0, .ref 1), (1, .int a1), (2, .int a2)] [] LAY (M, L)
  refine x_run C e_X8_changeFlags_1 e_X8_changeFlags_1_k (pc' := 22) (lv' := [(0, .ref 1), (1, .int a1), (2, .int a2)]) (st' := []) (σ' := ((xup M 2 18 (((M 2 18) &&& (a1 ^^^ (-1))) ||| (a2 &&& a1))), L)) rfl ⟨trivial, trivial, trivial, trivial, trivial, trivial, (x_rgv (x_rgc (x := 18) (k := 18) (by decide)) (by decide) (by decide)), trivial, trivial, trivial, trivial, trivial, trivial, trivial, trivial, (x_rgv (x_rgc (x := 18) (k := 18) (by decide)) (by decide) (by decide)), trivial⟩ ?_
  have hI1 : InvK INVC (xup M 2 18 (((M 2 18) &&& (a1 ^^^ (-1))) ||| (a2 &&& a1))) := (hI.arr 2 18 (((M 2 18) &&& (a1 ^^^ (-1))) ||| (a2 &&& a1)) (by decide))
  subst h
  exact x_vret C (show decode cX8_changeFlags 22 = .ok (.return_, 1) from by decide +kernel) (x_finV ⟨⟨rfl, rfl⟩, hI1⟩) (Nat.le_refl 0) (Nat.le_refl 0)
-- X1_tested
def e_X1_tested_1 : List xI := [(0, .aload_n 0, 1, .null), (1, .getfield 9, 3, .null), (4, .bipush 15, 2, .int 15), (6, .iload_n 1, 1, .null), (7, .iload_n 2, 1, .null)]
theorem e_X1_tested_1_k : e_X1_tested_1.all (fun q => xokB cX1_tested q && xokL q) = true := by decide +kernel
def e_X1_tested_2 : List xI := [(14, .iload_n 1, 1, .null)]
theorem e_X1_tested_2_k : e_X1_tested_2.all (fun q => xokB cX1_tested q && xokL q) = true := by decide +kernel
abbrev P_X1_tested (r : Int32 × St) (L : Nat → Nat → Int64) : Option Value → xG → Prop := fun v σ' => PoI r.1 r.2 L v σ' ∧ True ∧ InvK INVC r.2
abbrev R_X1_tested : Room := { frames := 2, cells := 0, slots := 0, locals := 43 }
abbrev C_X1_tested (l : Launch) (r : Int32 × St) (L : Nat → Nat → Int64) (V : XJ) : Prop := XC l yX1_tested.cls yX1_tested.name cX1_tested 3 R_X1_tested 0 0 fl_X1 kc_X1 LAY.length (xfin (some .int) LAY (P_X1_tested r L)) V
def f_X1_tested (a1 : Int32) (a2 : Int32) (M : St) : Int32 × St := (xb (f_X8_changeFlags 15 (f_X1_signs a1 a2) M) fun q4 => (a1, q4))
set_option maxRecDepth 20000 in
set_option maxHeartbeats 4000000 in
theorem k_X1_tested (l : Launch) (a1 : Int32) (a2 : Int32) (M : St) (L : Nat → Nat → Int64) (hI : InvK INVC M) : XM l yX1_tested cX1_tested 3 (some .int) R_X1_tested LAY [.ref 13, .int a1, .int a2] (M, L) (P_X1_tested (f_X1_tested a1 a2 M) L) := by
  refine XM.of (by decide) (Nat.le_of_ble_eq_true rfl) LAY_in cl_ok fl_X1_ok kc_X1_ok (fun V C => ?_)
  obtain ⟨r, h⟩ : ∃ r, f_X1_tested a1 a2 M = r := ⟨_, rfl⟩
  rw [h] at C
  change C_X1_tested l r L V at C
  unfold f_X1_tested at h
  show V 0 0 0 [(0, .ref 13), (1, .int a1), (2, .int a2)] [] LAY (M, L)
  refine x_run C e_X1_tested_1 e_X1_tested_1_k (pc' := 8) (lv' := [(0, .ref 13), (1, .int a1), (2, .int a2)]) (st' := [.int a2, .int a1, .int 15, .ref 1]) (σ' := (M, L)) rfl ⟨trivial, trivial, trivial, trivial, trivial, trivial⟩ ?_
  refine x_callS C (rest := [.int 15, .ref 1]) (avs := [.int a1, .int a2]) (k_X1_signs l a1 a2 M L) yoX1_signs ml_X1_15 rfl ⟨Nat.zero_le _, Nat.zero_le _⟩ (show decode cX1_tested 8 = .ok (.invokestatic 15, 3) from by decide +kernel) rfl (fun v σ' hPo => ?_)
  obtain ⟨⟨rfl, rfl⟩, g2, -⟩ := hPo
  show V 0 0 11 [(0, .ref 13), (1, .int a1), (2, .int a2)] [.int (f_X1_signs a1 a2), .int 15, .ref 1] LAY (M, L)
  refine x_callV C (k := 1) (ci := 6) (rest := []) (avs := [.int 15, .int (f_X1_signs a1 a2)]) (k_X8_changeFlags l 15 (f_X1_signs a1 a2) M L hI) yoX8_changeFlags ml_X1_19 rfl rfl rfl rfl ⟨Nat.zero_le _, Nat.zero_le _⟩ (show decode cX1_tested 11 = .ok (.invokevirtual 19, 3) from by decide +kernel) rfl (fun v σ' hPo => ?_)
  obtain ⟨⟨rfl, rfl⟩, hI6⟩ := hPo
  generalize hq4 : f_X8_changeFlags 15 (f_X1_signs a1 a2) M = q4 at h hI6 ⊢
  have h := xb_eq h
  show V 0 0 14 [(0, .ref 13), (1, .int a1), (2, .int a2)] [] LAY (q4, L)
  refine x_run C e_X1_tested_2 e_X1_tested_2_k (pc' := 15) (lv' := [(0, .ref 13), (1, .int a1), (2, .int a2)]) (st' := [.int a1]) (σ' := (q4, L)) rfl ⟨trivial, trivial⟩ ?_
  subst h
  exact x_iret C (show decode cX1_tested 15 = .ok (.ireturn, 1) from by decide +kernel) (x_finI rfl ⟨⟨rfl, rfl⟩, trivial, hI6⟩) (Nat.le_refl 0) (Nat.le_refl 0)
-- X6_write
def e_X6_write_1 : List xI := [(0, .aload_n 0, 1, .null)]
theorem e_X6_write_1_k : e_X6_write_1.all (fun q => xokB cX6_write q && xokL q) = true := by decide +kernel
def e_X6_write_2 : List xI := [(47, .aload_n 0, 1, .null), (48, .getfield 18, 3, .null), (51, .aload_n 0, 1, .null), (52, .getfield 38, 3, .null), (55, .iload_n 1, 1, .null), (56, .iload_n 2, 1, .null)]
theorem e_X6_write_2_k : e_X6_write_2.all (fun q => xokB cX6_write q && xokL q) = true := by decide +kernel
def e_X6_write_3 : List xI := [(7, .iload_n 1, 1, .null)]
theorem e_X6_write_3_k : e_X6_write_3.all (fun q => xokB cX6_write q && xokL q) = true := by decide +kernel
def e_X6_write_4 : List xI := [(11, .istore_n 3, 1, .null), (12, .aload_n 0, 1, .null), (13, .getfield 15, 3, .null), (16, .aload_n 0, 1, .null), (17, .getfield 38, 3, .null), (20, .bipush 15, 2, .int 15), (22, .iand, 1, .null), (23, .aload_n 0, 1, .null), (24, .getfield 15, 3, .null), (27, .aload_n 0, 1, .null), (28, .getfield 38, 3, .null), (31, .bipush 15, 2, .int 15), (33, .iand, 1, .null), (34, .iaload, 1, .null), (35, .iload_n 3, 1, .null), (36, .iconst (-1), 1, .int (-1)), (37, .ixor, 1, .null), (38, .iand, 1, .null), (39, .iload_n 2, 1, .null), (40, .iload_n 3, 1, .null), (41, .iand, 1, .null), (42, .ior, 1, .null), (43, .iastore, 1, .null)]
theorem e_X6_write_4_k : e_X6_write_4.all (fun q => xokB cX6_write q && xokL q) = true := by decide +kernel
abbrev P_X6_write (r : St) (L : Nat → Nat → Int64) : Option Value → xG → Prop := fun v σ' => PoV r L v σ' ∧ InvK INVC r
abbrev R_X6_write : Room := { frames := 2, cells := 0, slots := 0, locals := 53 }
abbrev C_X6_write (l : Launch) (r : St) (L : Nat → Nat → Int64) (V : XJ) : Prop := XC l yX6_write.cls yX6_write.name cX6_write 4 R_X6_write 0 0 fl_X6 kc_X6 LAY.length (xfin none LAY (P_X6_write r L)) V
def f_X6_write (a1 : Int32) (a2 : Int32) (M : St) : St := (if (f_X6_isRegister  M) = 0 then (xb (f_X2_write (M 10 3) a1 a2 M) fun q6 => q6) else (xup M 2 ((M 10 3) &&& 15).toNatClampNeg (((M 2 ((M 10 3) &&& 15).toNatClampNeg) &&& ((f_X10_maskOf a1) ^^^ (-1))) ||| (a2 &&& (f_X10_maskOf a1)))))
set_option maxRecDepth 20000 in
set_option maxHeartbeats 4000000 in
theorem k_X6_write (l : Launch) (a1 : Int32) (a2 : Int32) (M : St) (L : Nat → Nat → Int64) (hI : InvK INVC M) : XM l yX6_write cX6_write 4 none R_X6_write LAY [.ref 10, .int a1, .int a2] (M, L) (P_X6_write (f_X6_write a1 a2 M) L) := by
  refine XM.of (by decide) (Nat.le_of_ble_eq_true rfl) LAY_in cl_ok fl_X6_ok kc_X6_ok (fun V C => ?_)
  obtain ⟨r, h⟩ : ∃ r, f_X6_write a1 a2 M = r := ⟨_, rfl⟩
  rw [h] at C
  change C_X6_write l r L V at C
  unfold f_X6_write at h
  show V 0 0 0 [(0, .ref 10), (1, .int a1), (2, .int a2)] [] LAY (M, L)
  refine x_run C e_X6_write_1 e_X6_write_1_k (pc' := 1) (lv' := [(0, .ref 10), (1, .int a1), (2, .int a2)]) (st' := [.ref 10]) (σ' := (M, L)) rfl ⟨trivial, trivial⟩ ?_
  refine x_callV C (k := 10) (ci := 4) (rest := []) (avs := []) (k_X6_isRegister l  M L hI) yoX6_isRegister ml_X6_54 rfl rfl rfl rfl ⟨Nat.zero_le _, Nat.zero_le _⟩ (show decode cX6_write 1 = .ok (.invokevirtual 54, 3) from by decide +kernel) rfl (fun v σ' hPo => ?_)
  obtain ⟨⟨rfl, rfl⟩, g2, hI3⟩ := hPo
  show V 0 0 4 [(0, .ref 10), (1, .int a1), (2, .int a2)] [.int (f_X6_isRegister  M)] LAY (M, L)
  refine x_if_eq C (show decode cX6_write 4 = .ok (.ifCond .eq 43, 3) from by decide +kernel) (tgt := 47) (by decide) (fun c4 => ?_) (fun c4 => ?_)
  · rw [if_pos c4] at h
    have g5 : xrg 0 0 (f_X6_isRegister  M) := (x_c_eq g2 (x_rgc (x := 0) (k := 0) (by decide)) c4).1
    refine x_run C e_X6_write_2 e_X6_write_2_k (pc' := 57) (lv' := [(0, .ref 10), (1, .int a1), (2, .int a2)]) (st' := [.int a2, .int a1, .int (M 10 3), .ref 4]) (σ' := (M, L)) rfl ⟨trivial, trivial, trivial, trivial, trivial, trivial, trivial⟩ ?_
    refine x_callV C (k := 4) (ci := 1) (rest := []) (avs := [.int (M 10 3), .int a1, .int a2]) (k_X2_write l (M 10 3) a1 a2 M L hI) yoX2_write ml_X6_61 rfl rfl rfl rfl ⟨Nat.zero_le _, Nat.zero_le _⟩ (show decode cX6_write 57 = .ok (.invokevirtual 61, 3) from by decide +kernel) rfl (fun v σ' hPo => ?_)
    obtain ⟨⟨rfl, rfl⟩, hI8⟩ := hPo
    generalize hq6 : f_X2_write (M 10 3) a1 a2 M = q6 at h hI8 ⊢
    have h := xb_eq h
    show V 0 0 60 [(0, .ref 10), (1, .int a1), (2, .int a2)] [] LAY (q6, L)
    subst h
    exact x_vret C (show decode cX6_write 60 = .ok (.return_, 1) from by decide +kernel) (x_finV ⟨⟨rfl, rfl⟩, hI8⟩) (Nat.le_refl 0) (Nat.le_refl 0)
  · rw [if_neg c4] at h
    have g9 : xrg 1 1 (f_X6_isRegister  M) := (x_c_ne g2 (by decide) c4)
    refine x_run C e_X6_write_3 e_X6_write_3_k (pc' := 8) (lv' := [(0, .ref 10), (1, .int a1), (2, .int a2)]) (st' := [.int a1]) (σ' := (M, L)) rfl ⟨trivial, trivial⟩ ?_
    refine x_callSN C (rest := []) (avs := [.int a1]) (k_X10_maskOf l a1 M L) yoX10_maskOf ml_X6_58 rfl ⟨Nat.zero_le _, Nat.zero_le _⟩ (show decode cX6_write 8 = .ok (.invokestatic 58, 3) from by decide +kernel) rfl (fun v σ' hPo => ?_)
    obtain ⟨⟨rfl, rfl⟩, g11, -⟩ := hPo
    show V 0 0 11 [(0, .ref 10), (1, .int a1), (2, .int a2)] [.int (f_X10_maskOf a1)] LAY (M, L)
    refine x_run C e_X6_write_4 e_X6_write_4_k (pc' := 44) (lv' := [(3, .int (f_X10_maskOf a1)), (0, .ref 10), (1, .int a1), (2, .int a2)]) (st' := []) (σ' := ((xup M 2 ((M 10 3) &&& 15).toNatClampNeg (((M 2 ((M 10 3) &&& 15).toNatClampNeg) &&& ((f_X10_maskOf a1) ^^^ (-1))) ||| (a2 &&& (f_X10_maskOf a1)))), L)) rfl ⟨trivial, trivial, trivial, trivial, trivial, trivial, trivial, trivial, trivial, trivial, trivial, trivial, trivial, (x_rgv (x_rg_and (x := (M 10 3)) (m := 15) (k := 15) (by decide) (by decide)) (by decide) (by decide)), trivial, trivial, trivial, trivial, trivial, trivial, trivial, trivial, (x_rgv (x_rg_and (x := (M 10 3)) (m := 15) (k := 15) (by decide) (by decide)) (by decide) (by decide)), trivial⟩ ?_
    have hI13 : InvK INVC (xup M 2 ((M 10 3) &&& 15).toNatClampNeg (((M 2 ((M 10 3) &&& 15).toNatClampNeg) &&& ((f_X10_maskOf a1) ^^^ (-1))) ||| (a2 &&& (f_X10_maskOf a1)))) := (hI.arr 2 (((M 10 3) &&& 15).toNatClampNeg) (((M 2 ((M 10 3) &&& 15).toNatClampNeg) &&& ((f_X10_maskOf a1) ^^^ (-1))) ||| (a2 &&& (f_X10_maskOf a1))) (by decide))
    refine x_goto C (show decode cX6_write 44 = .ok (.goto 16, 3) from by decide +kernel) (tgt := 60) (by decide) ?_
    subst h
    exact x_vret C (show decode cX6_write 60 = .ok (.return_, 1) from by decide +kernel) (x_finV ⟨⟨rfl, rfl⟩, hI13⟩) (Nat.le_refl 0) (Nat.le_refl 0)
-- X4_overwrite
def e_X4_overwrite_1 : List xI := [(0, .aload_n 0, 1, .null), (1, .getfield 26, 3, .null), (4, .aload_n 0, 1, .null), (5, .getfield 30, 3, .null), (8, .getfield 250, 3, .null), (11, .aload_n 0, 1, .null), (12, .getfield 30, 3, .null), (15, .getfield 65, 3, .null)]
theorem e_X4_overwrite_1_k : e_X4_overwrite_1.all (fun q => xokB cX4_overwrite q && xokL q) = true := by decide +kernel
def e_X4_overwrite_2 : List xI := [(21, .aload_n 0, 1, .null), (22, .getfield 26, 3, .null), (25, .aload_n 0, 1, .null), (26, .getfield 30, 3, .null), (29, .getfield 65, 3, .null), (32, .iload_n 1, 1, .null)]
theorem e_X4_overwrite_2_k : e_X4_overwrite_2.all (fun q => xokB cX4_overwrite q && xokL q) = true := by decide +kernel
abbrev P_X4_overwrite (r : St) (L : Nat → Nat → Int64) : Option Value → xG → Prop := fun v σ' => PoV r L v σ' ∧ InvK INVC r
abbrev R_X4_overwrite : Room := { frames := 4, cells := 0, slots := 0, locals := 102 }
abbrev C_X4_overwrite (l : Launch) (r : St) (L : Nat → Nat → Int64) (V : XJ) : Prop := XC l yX4_overwrite.cls yX4_overwrite.name cX4_overwrite 2 R_X4_overwrite 0 0 fl_X4 kc_X4 LAY.length (xfin none LAY (P_X4_overwrite r L)) V
def f_X4_overwrite (a1 : Int32) (M : St) : St := (xb (f_X6_find (M 11 3) (M 11 1) M) fun q1 => (xb (f_X6_write (q1 11 1) a1 q1) fun q4 => q4))
set_option maxRecDepth 20000 in
set_option maxHeartbeats 4000000 in
theorem k_X4_overwrite (l : Launch) (a1 : Int32) (M : St) (L : Nat → Nat → Int64) (hI : InvK INVC M) : XM l yX4_overwrite cX4_overwrite 2 none R_X4_overwrite LAY [.ref 12, .int a1] (M, L) (P_X4_overwrite (f_X4_overwrite a1 M) L) := by
  refine XM.of (by decide) (Nat.le_of_ble_eq_true rfl) LAY_in cl_ok fl_X4_ok kc_X4_ok (fun V C => ?_)
  obtain ⟨r, h⟩ : ∃ r, f_X4_overwrite a1 M = r := ⟨_, rfl⟩
  rw [h] at C
  change C_X4_overwrite l r L V at C
  unfold f_X4_overwrite at h
  show V 0 0 0 [(0, .ref 12), (1, .int a1)] [] LAY (M, L)
  refine x_run C e_X4_overwrite_1 e_X4_overwrite_1_k (pc' := 18) (lv' := [(0, .ref 12), (1, .int a1)]) (st' := [.int (M 11 1), .int (M 11 3), .ref 10]) (σ' := (M, L)) rfl ⟨trivial, trivial, trivial, trivial, trivial, trivial, trivial, trivial, trivial⟩ ?_
  refine x_callV C (k := 10) (ci := 4) (rest := []) (avs := [.int (M 11 3), .int (M 11 1)]) (k_X6_find l (M 11 3) (M 11 1) M L hI) yoX6_find ml_X4_241 rfl rfl rfl rfl ⟨Nat.zero_le _, Nat.zero_le _⟩ (show decode cX4_overwrite 18 = .ok (.invokevirtual 241, 3) from by decide +kernel) rfl (fun v σ' hPo => ?_)
  obtain ⟨⟨rfl, rfl⟩, hI3⟩ := hPo
  generalize hq1 : f_X6_find (M 11 3) (M 11 1) M = q1 at h hI3 ⊢
  have h := xb_eq h
  show V 0 0 21 [(0, .ref 12), (1, .int a1)] [] LAY (q1, L)
  refine x_run C e_X4_overwrite_2 e_X4_overwrite_2_k (pc' := 33) (lv' := [(0, .ref 12), (1, .int a1)]) (st' := [.int a1, .int (q1 11 1), .ref 10]) (σ' := (q1, L)) rfl ⟨trivial, trivial, trivial, trivial, trivial, trivial, trivial⟩ ?_
  refine x_callV C (k := 10) (ci := 4) (rest := []) (avs := [.int (q1 11 1), .int a1]) (k_X6_write l (q1 11 1) a1 q1 L hI3) yoX6_write ml_X4_253 rfl rfl rfl rfl ⟨Nat.zero_le _, Nat.zero_le _⟩ (show decode cX4_overwrite 33 = .ok (.invokevirtual 253, 3) from by decide +kernel) rfl (fun v σ' hPo => ?_)
  obtain ⟨⟨rfl, rfl⟩, hI6⟩ := hPo
  generalize hq4 : f_X6_write (q1 11 1) a1 q1 = q4 at h hI6 ⊢
  have h := xb_eq h
  show V 0 0 36 [(0, .ref 12), (1, .int a1)] [] LAY (q4, L)
  subst h
  exact x_vret C (show decode cX4_overwrite 36 = .ok (.return_, 1) from by decide +kernel) (x_finV ⟨⟨rfl, rfl⟩, hI6⟩) (Nat.le_refl 0) (Nat.le_refl 0)
