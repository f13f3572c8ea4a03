-- X11_mask
def e_X11_mask_1 : List xI := [(0, .iload_n 0, 1, .null)]
theorem e_X11_mask_1_k : e_X11_mask_1.all (fun q => xokB cX11_mask q && xokL q) = true := by decide +kernel
def e_X11_mask_2 : List xI := [(10, .iload_n 0, 1, .null), (11, .iconst 1, 1, .int 1)]
theorem e_X11_mask_2_k : e_X11_mask_2.all (fun q => xokB cX11_mask q && xokL q) = true := by decide +kernel
def e_X11_mask_3 : List xI := [(20, .iconst (-1), 1, .int (-1))]
theorem e_X11_mask_3_k : e_X11_mask_3.all (fun q => xokB cX11_mask q && xokL q) = true := by decide +kernel
def e_X11_mask_4 : List xI := [(15, .ldc 45, 2, .null)]
theorem e_X11_mask_4_k : e_X11_mask_4.all (fun q => xokB cX11_mask q && xokL q) = true := by decide +kernel
def e_X11_mask_5 : List xI := [(4, .sipush 255, 3, .int 255)]
theorem e_X11_mask_5_k : e_X11_mask_5.all (fun q => xokB cX11_mask q && xokL q) = true := by decide +kernel
abbrev P_X11_mask (r : Int32) (M0 : St) (L : Nat → Nat → Int64) : Option Value → xG → Prop := fun v σ' => PoI r M0 L v σ' ∧ xrg (-1) 65535 r ∧ True
abbrev R_X11_mask : Room := { frames := 0, cells := 0, slots := 0, locals := 0 }
abbrev C_X11_mask (l : Launch) (r : Int32) (M0 : St) (L : Nat → Nat → Int64) (V : XJ) : Prop := XC l yX11_mask.cls yX11_mask.name cX11_mask 1 R_X11_mask 0 0 fl_X11 kc_X11 LAY.length (xfin (some .int) LAY (P_X11_mask r M0 L)) V
def f_X11_mask (a1 : Int32) : Int32 := (if a1 = 0 then 255 else (if a1 = 1 then 65535 else (-1)))
set_option maxRecDepth 20000 in
set_option maxHeartbeats 4000000 in
theorem k_X11_mask (l : Launch) (a1 : Int32) (M : St) (L : Nat → Nat → Int64) : XM l yX11_mask cX11_mask 1 (some .int) R_X11_mask LAY [.int a1] (M, L) (P_X11_mask (f_X11_mask a1) M L) := by
  refine XM.of (by decide) (Nat.le_of_ble_eq_true rfl) LAY_in cl_ok fl_X11_ok kc_X11_ok (fun V C => ?_)
  obtain ⟨r, h⟩ : ∃ r, f_X11_mask a1 = r := ⟨_, rfl⟩
  rw [h] at C
  change C_X11_mask l r M L V at C
  unfold f_X11_mask at h
  show V 0 0 0 [(0, .int a1)] [] LAY (M, L)
  refine x_run C e_X11_mask_1 e_X11_mask_1_k (pc' := 1) (lv' := [(0, .int a1)]) (st' := [.int a1]) (σ' := (M, L)) rfl ⟨trivial, trivial⟩ ?_
  refine x_if_ne C (show decode cX11_mask 1 = .ok (.ifCond .ne 9, 3) from by decide +kernel) (tgt := 10) (by decide) (fun c1 => ?_) (fun c1 => ?_)
  · rw [if_neg c1] at h
    refine x_run C e_X11_mask_2 e_X11_mask_2_k (pc' := 12) (lv' := [(0, .int a1)]) (st' := [.int 1, .int a1]) (σ' := (M, L)) rfl ⟨trivial, trivial, trivial⟩ ?_
    refine x_icmp_ne C (show decode cX11_mask 12 = .ok (.if_icmp .ne 8, 3) from by decide +kernel) (tgt := 20) (by decide) (fun c2 => ?_) (fun c2 => ?_)
    · rw [if_neg c2] at h
      refine x_run C e_X11_mask_3 e_X11_mask_3_k (pc' := 21) (lv' := [(0, .int a1)]) (st' := [.int (-1)]) (σ' := (M, L)) rfl ⟨trivial, trivial⟩ ?_
      subst h
      exact x_iret C (show decode cX11_mask 21 = .ok (.ireturn, 1) from by decide +kernel) (x_finI rfl ⟨⟨rfl, rfl⟩, (x_rgw (x_rgc (x := (-1)) (k := (-1)) (by decide)) (lo' := (-1)) (hi' := 65535) (by decide) (by decide)), trivial⟩) (Nat.le_refl 0) (Nat.le_refl 0)
    · rw [if_pos c2] at h
      have g3 : xrg 1 1 a1 := (x_c_eq (x_rgt a1) (x_rgc (x := 1) (k := 1) (by decide)) c2).1
      refine x_run C e_X11_mask_4 e_X11_mask_4_k (pc' := 17) (lv' := [(0, .int a1)]) (st' := [.int 65535]) (σ' := (M, L)) rfl ⟨trivial, trivial⟩ ?_
      refine x_goto C (show decode cX11_mask 17 = .ok (.goto 4, 3) from by decide +kernel) (tgt := 21) (by decide) ?_
      subst h
      exact x_iret C (show decode cX11_mask 21 = .ok (.ireturn, 1) from by decide +kernel) (x_finI rfl ⟨⟨rfl, rfl⟩, (x_rgw (x_rgc (x := 65535) (k := 65535) (by decide)) (lo' := (-1)) (hi' := 65535) (by decide) (by decide)), trivial⟩) (Nat.le_refl 0) (Nat.le_refl 0)
  · rw [if_pos c1] at h
    have g4 : xrg 0 0 a1 := (x_c_eq (x_rgt a1) (x_rgc (x := 0) (k := 0) (by decide)) c1).1
    refine x_run C e_X11_mask_5 e_X11_mask_5_k (pc' := 7) (lv' := [(0, .int a1)]) (st' := [.int 255]) (σ' := (M, L)) rfl ⟨trivial, trivial⟩ ?_
    refine x_goto C (show decode cX11_mask 7 = .ok (.goto 14, 3) from by decide +kernel) (tgt := 21) (by decide) ?_
    subst h
    exact x_iret C (show decode cX11_mask 21 = .ok (.ireturn, 1) from by decide +kernel) (x_finI rfl ⟨⟨rfl, rfl⟩, (x_rgw (x_rgc (x := 255) (k := 255) (by decide)) (lo' := (-1)) (hi' := 65535) (by decide) (by decide)), trivial⟩) (Nat.le_refl 0) (Nat.le_refl 0)
-- X11_number
def e_X11_number_1 : List xI := [(0, .aload_n 0, 1, .null)]
theorem e_X11_number_1_k : e_X11_number_1.all (fun q => xokB cX11_number q && xokL q) = true := by decide +kernel
def e_X11_number_2 : List xI := [(4, .istore_n 2, 1, .null), (5, .iload_n 1, 1, .null), (6, .iconst 2, 1, .int 2)]
theorem e_X11_number_2_k : e_X11_number_2.all (fun q => xokB cX11_number q && xokL q) = true := by decide +kernel
def e_X11_number_3 : List xI := [(17, .iload_n 2, 1, .null), (18, .bipush 16, 2, .int 16), (20, .ishl, 1, .null), (21, .aload_n 0, 1, .null)]
theorem e_X11_number_3_k : e_X11_number_3.all (fun q => xokB cX11_number q && xokL q) = true := by decide +kernel
def e_X11_number_4 : List xI := [(25, .ior, 1, .null)]
theorem e_X11_number_4_k : e_X11_number_4.all (fun q => xokB cX11_number q && xokL q) = true := by decide +kernel
def e_X11_number_5 : List xI := [(10, .iload_n 2, 1, .null), (11, .iload_n 1, 1, .null)]
theorem e_X11_number_5_k : e_X11_number_5.all (fun q => xokB cX11_number q && xokL q) = true := by decide +kernel
def e_X11_number_6 : List xI := [(15, .iand, 1, .null)]
theorem e_X11_number_6_k : e_X11_number_6.all (fun q => xokB cX11_number q && xokL q) = true := by decide +kernel
abbrev P_X11_number (r : Int32 × St) (L : Nat → Nat → Int64) : Option Value → xG → Prop := fun v σ' => PoI r.1 r.2 L v σ' ∧ True ∧ Inv INVM r.2
abbrev R_X11_number : Room := { frames := 4, cells := 0, slots := 0, locals := 95 }
abbrev C_X11_number (l : Launch) (r : Int32 × St) (L : Nat → Nat → Int64) (V : XJ) : Prop := XC l yX11_number.cls yX11_number.name cX11_number 3 R_X11_number 0 0 fl_X11 kc_X11 LAY.length (xfin (some .int) LAY (P_X11_number r L)) V
def f_X11_number (a1 : Int32) (M : St) : Int32 × St := (xb (f_X11_fetch  M) fun q1 => (if 2 ≤ a1 then (xb (f_X11_fetch  q1.2) fun q6 => (((q1.1 <<< ((16 : Int32) &&& 31)) ||| q6.1), q6.2)) else ((q1.1 &&& (f_X11_mask a1)), q1.2)))
set_option maxRecDepth 20000 in
set_option maxHeartbeats 4000000 in
theorem k_X11_number (l : Launch) (a1 : Int32) (M : St) (L : Nat → Nat → Int64) (hI : Inv INVM M) : XM l yX11_number cX11_number 3 (some .int) R_X11_number LAY [.ref 14, .int a1] (M, L) (P_X11_number (f_X11_number a1 M) L) := by
  refine XM.of (by decide) (Nat.le_of_ble_eq_true rfl) LAY_in cl_ok fl_X11_ok kc_X11_ok (fun V C => ?_)
  obtain ⟨r, h⟩ : ∃ r, f_X11_number a1 M = r := ⟨_, rfl⟩
  rw [h] at C
  change C_X11_number l r L V at C
  unfold f_X11_number at h
  show V 0 0 0 [(0, .ref 14), (1, .int a1)] [] LAY (M, L)
  refine x_run C e_X11_number_1 e_X11_number_1_k (pc' := 1) (lv' := [(0, .ref 14), (1, .int a1)]) (st' := [.ref 14]) (σ' := (M, L)) rfl ⟨trivial, trivial⟩ ?_
  refine x_callV C (k := 14) (ci := 8) (rest := []) (avs := []) (k_X11_fetch l  M L hI) yoX11_fetch ml_X11_103 rfl rfl rfl rfl ⟨Nat.zero_le _, Nat.zero_le _⟩ (show decode cX11_number 1 = .ok (.invokevirtual 103, 3) from by decide +kernel) rfl (fun v σ' hPo => ?_)
  obtain ⟨⟨rfl, rfl⟩, g2, hI3⟩ := hPo
  generalize hq1 : f_X11_fetch  M = q1 at h g2 hI3 ⊢
  obtain ⟨r1, M1⟩ := q1
  have h := xb_eq h
  try dsimp only at h g2 hI3
  show V 0 0 4 [(0, .ref 14), (1, .int a1)] [.int r1] LAY (M1, L)
  refine x_run C e_X11_number_2 e_X11_number_2_k (pc' := 7) (lv' := [(2, .int r1), (0, .ref 14), (1, .int a1)]) (st' := [.int 2, .int a1]) (σ' := (M1, L)) rfl ⟨trivial, trivial, trivial, trivial⟩ ?_
  refine x_icmp_ge C (show decode cX11_number 7 = .ok (.if_icmp .ge 10, 3) from by decide +kernel) (tgt := 17) (by decide) (fun c4 => ?_) (fun c4 => ?_)
  · rw [if_pos c4] at h
    have g5 : xrg 2 2147483647 a1 := (x_c_le (x_rgc (x := 2) (k := 2) (by decide)) (x_rgt a1) c4).2
    refine x_run C e_X11_number_3 e_X11_number_3_k (pc' := 22) (lv' := [(2, .int r1), (0, .ref 14), (1, .int a1)]) (st' := [.ref 14, .int (r1 <<< ((16 : Int32) &&& 31))]) (σ' := (M1, L)) rfl ⟨trivial, trivial, trivial, trivial, trivial⟩ ?_
    refine x_callV C (k := 14) (ci := 8) (rest := [.int (r1 <<< ((16 : Int32) &&& 31))]) (avs := []) (k_X11_fetch l  M1 L hI3) yoX11_fetch ml_X11_103 rfl rfl rfl rfl ⟨Nat.zero_le _, Nat.zero_le _⟩ (show decode cX11_number 22 = .ok (.invokevirtual 103, 3) from by decide +kernel) rfl (fun v σ' hPo => ?_)
    obtain ⟨⟨rfl, rfl⟩, g7, hI8⟩ := hPo
    generalize hq6 : f_X11_fetch  M1 = q6 at h g7 hI8 ⊢
    obtain ⟨r6, M6⟩ := q6
    have h := xb_eq h
    try dsimp only at h g7 hI8
    show V 0 0 25 [(2, .int r1), (0, .ref 14), (1, .int a1)] [.int r6, .int (r1 <<< ((16 : Int32) &&& 31))] LAY (M6, L)
    refine x_run C e_X11_number_4 e_X11_number_4_k (pc' := 26) (lv' := [(2, .int r1), (0, .ref 14), (1, .int a1)]) (st' := [.int ((r1 <<< ((16 : Int32) &&& 31)) ||| r6)]) (σ' := (M6, L)) rfl ⟨trivial, trivial⟩ ?_
    subst h
    exact x_iret C (show decode cX11_number 26 = .ok (.ireturn, 1) from by decide +kernel) (x_finI rfl ⟨⟨rfl, rfl⟩, trivial, hI8⟩) (Nat.le_refl 0) (Nat.le_refl 0)
  · rw [if_neg c4] at h
    have g9 : xrg (-2147483648) 1 a1 := (x_c_nle (x_rgc (x := 2) (k := 2) (by decide)) (x_rgt a1) c4).2
    refine x_run C e_X11_number_5 e_X11_number_5_k (pc' := 12) (lv' := [(2, .int r1), (0, .ref 14), (1, .int a1)]) (st' := [.int a1, .int r1]) (σ' := (M1, L)) rfl ⟨trivial, trivial, trivial⟩ ?_
    refine x_callS C (rest := [.int r1]) (avs := [.int a1]) (k_X11_mask l a1 M1 L) yoX11_mask ml_X11_122 rfl ⟨Nat.zero_le _, Nat.zero_le _⟩ (show decode cX11_number 12 = .ok (.invokestatic 122, 3) from by decide +kernel) rfl (fun v σ' hPo => ?_)
    obtain ⟨⟨rfl, rfl⟩, g11, -⟩ := hPo
    show V 0 0 15 [(2, .int r1), (0, .ref 14), (1, .int a1)] [.int (f_X11_mask a1), .int r1] LAY (M1, L)
    refine x_run C e_X11_number_6 e_X11_number_6_k (pc' := 16) (lv' := [(2, .int r1), (0, .ref 14), (1, .int a1)]) (st' := [.int (r1 &&& (f_X11_mask a1))]) (σ' := (M1, L)) rfl ⟨trivial, trivial⟩ ?_
    subst h
    exact x_iret C (show decode cX11_number 16 = .ok (.ireturn, 1) from by decide +kernel) (x_finI rfl ⟨⟨rfl, rfl⟩, trivial, hI3⟩) (Nat.le_refl 0) (Nat.le_refl 0)
-- X11_findMore
def e_X11_findMore_1 : List xI := [(0, .aload_n 0, 1, .null), (1, .getfield 7, 3, .null), (4, .bipush 17, 2, .int 17), (6, .iaload, 1, .null), (7, .istore_n 3, 1, .null), (8, .iload_n 1, 1, .null)]
theorem e_X11_findMore_1_k : e_X11_findMore_1.all (fun q => xokB cX11_findMore q && xokL q) = true := by decide +kernel
def e_X11_findMore_2 : List xI := [(12, .aload_n 0, 1, .null), (13, .aload_n 0, 1, .null)]
theorem e_X11_findMore_2_k : e_X11_findMore_2.all (fun q => xokB cX11_findMore q && xokL q) = true := by decide +kernel
def e_X11_findMore_3 : List xI := [(17, .i2s, 1, .null), (18, .putfield 110, 3, .null)]
theorem e_X11_findMore_3_k : e_X11_findMore_3.all (fun q => xokB cX11_findMore q && xokL q) = true := by decide +kernel
def e_X11_findMore_4 : List xI := [(21, .iload_n 1, 1, .null), (22, .iconst 1, 1, .int 1)]
theorem e_X11_findMore_4_k : e_X11_findMore_4.all (fun q => xokB cX11_findMore q && xokL q) = true := by decide +kernel
def e_X11_findMore_5 : List xI := [(26, .aload_n 0, 1, .null), (27, .aload_n 0, 1, .null), (28, .iconst 2, 1, .int 2)]
theorem e_X11_findMore_5_k : e_X11_findMore_5.all (fun q => xokB cX11_findMore q && xokL q) = true := by decide +kernel
def e_X11_findMore_6 : List xI := [(32, .putfield 110, 3, .null)]
theorem e_X11_findMore_6_k : e_X11_findMore_6.all (fun q => xokB cX11_findMore q && xokL q) = true := by decide +kernel
def e_X11_findMore_7 : List xI := [(35, .iload_n 1, 1, .null), (36, .iconst 2, 1, .int 2)]
theorem e_X11_findMore_7_k : e_X11_findMore_7.all (fun q => xokB cX11_findMore q && xokL q) = true := by decide +kernel
def e_X11_findMore_8 : List xI := [(40, .aload_n 0, 1, .null), (41, .iload_n 3, 1, .null), (42, .aload_n 0, 1, .null)]
theorem e_X11_findMore_8_k : e_X11_findMore_8.all (fun q => xokB cX11_findMore q && xokL q) = true := by decide +kernel
def e_X11_findMore_9 : List xI := [(46, .i2s, 1, .null), (47, .iadd, 1, .null), (48, .putfield 110, 3, .null)]
theorem e_X11_findMore_9_k : e_X11_findMore_9.all (fun q => xokB cX11_findMore q && xokL q) = true := by decide +kernel
def e_X11_findMore_10 : List xI := [(51, .iload_n 1, 1, .null), (52, .iconst 3, 1, .int 3)]
theorem e_X11_findMore_10_k : e_X11_findMore_10.all (fun q => xokB cX11_findMore q && xokL q) = true := by decide +kernel
def e_X11_findMore_11 : List xI := [(56, .aload_n 0, 1, .null), (57, .iload_n 3, 1, .null), (58, .aload_n 0, 1, .null)]
theorem e_X11_findMore_11_k : e_X11_findMore_11.all (fun q => xokB cX11_findMore q && xokL q) = true := by decide +kernel
def e_X11_findMore_12 : List xI := [(62, .iadd, 1, .null), (63, .putfield 110, 3, .null)]
theorem e_X11_findMore_12_k : e_X11_findMore_12.all (fun q => xokB cX11_findMore q && xokL q) = true := by decide +kernel
def e_X11_findMore_13 : List xI := [(66, .iload_n 1, 1, .null), (67, .iconst 4, 1, .int 4)]
theorem e_X11_findMore_13_k : e_X11_findMore_13.all (fun q => xokB cX11_findMore q && xokL q) = true := by decide +kernel
def e_X11_findMore_14 : List xI := [(71, .aload_n 0, 1, .null), (72, .bipush 17, 2, .int 17), (74, .putfield 107, 3, .null), (77, .aload_n 0, 1, .null), (78, .aload_n 0, 1, .null), (79, .iload_n 2, 1, .null)]
theorem e_X11_findMore_14_k : e_X11_findMore_14.all (fun q => xokB cX11_findMore q && xokL q) = true := by decide +kernel
def e_X11_findMore_15 : List xI := [(83, .putfield 110, 3, .null)]
theorem e_X11_findMore_15_k : e_X11_findMore_15.all (fun q => xokB cX11_findMore q && xokL q) = true := by decide +kernel
abbrev P_X11_findMore (r : St) (L : Nat → Nat → Int64) : Option Value → xG → Prop := fun v σ' => PoV r L v σ' ∧ Inv INVM r
abbrev R_X11_findMore : Room := { frames := 5, cells := 0, slots := 0, locals := 117 }
abbrev C_X11_findMore (l : Launch) (r : St) (L : Nat → Nat → Int64) (V : XJ) : Prop := XC l yX11_findMore.cls yX11_findMore.name cX11_findMore 4 R_X11_findMore 0 0 fl_X11 kc_X11 LAY.length (xfin none LAY (P_X11_findMore r L)) V
def f_X11_findMore_66 (x1 : Int32) (x2 : Int32) (M : St) : St := (if x1 = 4 then (xb (f_X11_number x2 (xup M 14 25 17)) fun q28 => (xup q28.2 14 26 q28.1)) else M)
def f_X11_findMore_51 (x1 : Int32) (x2 : Int32) (x3 : Int32) (M : St) : St := (if x1 = 3 then (xb (f_X11_index  M) fun q21 => f_X11_findMore_66 x1 x2 (xup q21.2 14 26 (x3 + q21.1))) else f_X11_findMore_66 x1 x2 M)
def f_X11_findMore_35 (x1 : Int32) (x2 : Int32) (x3 : Int32) (M : St) : St := (if x1 = 2 then (xb (f_X11_fetch  M) fun q15 => f_X11_findMore_51 x1 x2 x3 (xup q15.2 14 26 (x3 + q15.1.toInt16.toInt32))) else f_X11_findMore_51 x1 x2 x3 M)
def f_X11_findMore_21 (x1 : Int32) (x2 : Int32) (x3 : Int32) (M : St) : St := (if x1 = 1 then (xb (f_X11_number 2 M) fun q9 => f_X11_findMore_35 x1 x2 x3 (xup q9.2 14 26 q9.1)) else f_X11_findMore_35 x1 x2 x3 M)
def f_X11_findMore (a1 : Int32) (a2 : Int32) (M : St) : St := (if a1 = 0 then (xb (f_X11_fetch  M) fun q3 => f_X11_findMore_21 a1 a2 (M 15 17) (xup q3.2 14 26 q3.1.toInt16.toInt32)) else f_X11_findMore_21 a1 a2 (M 15 17) M)
set_option maxRecDepth 20000 in
set_option maxHeartbeats 4000000 in
theorem b_X11_findMore_66 {l : Launch} {L : Nat → Nat → Int64} {V : XJ} (r : St) (C : C_X11_findMore l r L V) (x1 : Int32) (x2 : Int32) (M : St) (hI : Inv INVM M) (h : f_X11_findMore_66 x1 x2 M = r) : V 0 0 66 [(0, .ref 14), (1, .int x1), (2, .int x2)] [] LAY (M, L) := by
  unfold f_X11_findMore_66 at h
  refine x_run C e_X11_findMore_13 e_X11_findMore_13_k (pc' := 68) (lv' := [(0, .ref 14), (1, .int x1), (2, .int x2)]) (st' := [.int 4, .int x1]) (σ' := (M, L)) rfl ⟨trivial, trivial, trivial⟩ ?_
  refine x_icmp_ne C (show decode cX11_findMore 68 = .ok (.if_icmp .ne 18, 3) from by decide +kernel) (tgt := 86) (by decide) (fun c25 => ?_) (fun c25 => ?_)
  · rw [if_neg c25] at h
    subst h
    exact x_vret C (show decode cX11_findMore 86 = .ok (.return_, 1) from by decide +kernel) (x_finV ⟨⟨rfl, rfl⟩, hI⟩) (Nat.le_refl 0) (Nat.le_refl 0)
  · rw [if_pos c25] at h
    have g26 : xrg 4 4 x1 := (x_c_eq (x_rgt x1) (x_rgc (x := 4) (k := 4) (by decide)) c25).1
    refine x_run C e_X11_findMore_14 e_X11_findMore_14_k (pc' := 80) (lv' := [(0, .ref 14), (1, .int x1), (2, .int x2)]) (st' := [.int x2, .ref 14, .ref 14]) (σ' := ((xup M 14 25 17), L)) rfl ⟨trivial, trivial, trivial, trivial, trivial, trivial, trivial⟩ ?_
    have hI27 : Inv INVM (xup M 14 25 17) := (hI.set 14 25 (x_rgc (x := 17) (k := 17) (by decide)) (by decide))
    refine x_callV C (k := 14) (ci := 8) (rest := [.ref 14]) (avs := [.int x2]) (k_X11_number l x2 (xup M 14 25 17) L hI27) yoX11_number ml_X11_119 rfl rfl rfl rfl ⟨Nat.zero_le _, Nat.zero_le _⟩ (show decode cX11_findMore 80 = .ok (.invokevirtual 119, 3) from by decide +kernel) rfl (fun v σ' hPo => ?_)
    obtain ⟨⟨rfl, rfl⟩, g29, hI30⟩ := hPo
    generalize hq28 : f_X11_number x2 (xup M 14 25 17) = q28 at h g29 hI30 ⊢
    obtain ⟨r28, M28⟩ := q28
    have h := xb_eq h
    try dsimp only at h g29 hI30
    show V 0 0 83 [(0, .ref 14), (1, .int x1), (2, .int x2)] [.int r28, .ref 14] LAY (M28, L)
    refine x_run C e_X11_findMore_15 e_X11_findMore_15_k (pc' := 86) (lv' := [(0, .ref 14), (1, .int x1), (2, .int x2)]) (st' := []) (σ' := ((xup M28 14 26 r28), L)) rfl ⟨trivial, trivial⟩ ?_
    have hI31 : Inv INVM (xup M28 14 26 r28) := (hI30.fld 14 26 r28 (by decide))
    subst h
    exact x_vret C (show decode cX11_findMore 86 = .ok (.return_, 1) from by decide +kernel) (x_finV ⟨⟨rfl, rfl⟩, hI31⟩) (Nat.le_refl 0) (Nat.le_refl 0)
set_option maxRecDepth 20000 in
set_option maxHeartbeats 4000000 in
theorem b_X11_findMore_51 {l : Launch} {L : Nat → Nat → Int64} {V : XJ} (r : St) (C : C_X11_findMore l r L V) (x1 : Int32) (x2 : Int32) (x3 : Int32) (M : St) (hI : Inv INVM M) (h : f_X11_findMore_51 x1 x2 x3 M = r) : V 0 0 51 [(0, .ref 14), (1, .int x1), (2, .int x2), (3, .int x3)] [] LAY (M, L) := by
  unfold f_X11_findMore_51 at h
  refine x_run C e_X11_findMore_10 e_X11_findMore_10_k (pc' := 53) (lv' := [(0, .ref 14), (1, .int x1), (2, .int x2), (3, .int x3)]) (st' := [.int 3, .int x1]) (σ' := (M, L)) rfl ⟨trivial, trivial, trivial⟩ ?_
  refine x_icmp_ne C (show decode cX11_findMore 53 = .ok (.if_icmp .ne 13, 3) from by decide +kernel) (tgt := 66) (by decide) (fun c19 => ?_) (fun c19 => ?_)
  · rw [if_neg c19] at h
    refine x_lv C [0, 1, 2] rfl ?_
    exact b_X11_findMore_66 r C x1 x2 M hI h
  · rw [if_pos c19] at h
    have g20 : xrg 3 3 x1 := (x_c_eq (x_rgt x1) (x_rgc (x := 3) (k := 3) (by decide)) c19).1
    refine x_run C e_X11_findMore_11 e_X11_findMore_11_k (pc' := 59) (lv' := [(0, .ref 14), (1, .int x1), (2, .int x2), (3, .int x3)]) (st' := [.ref 14, .int x3, .ref 14]) (σ' := (M, L)) rfl ⟨trivial, trivial, trivial, trivial⟩ ?_
    refine x_callV C (k := 14) (ci := 8) (rest := [.int x3, .ref 14]) (avs := []) (k_X11_index l  M L hI) yoX11_index ml_X11_113 rfl rfl rfl rfl ⟨Nat.zero_le _, Nat.zero_le _⟩ (show decode cX11_findMore 59 = .ok (.invokevirtual 113, 3) from by decide +kernel) rfl (fun v σ' hPo => ?_)
    obtain ⟨⟨rfl, rfl⟩, g22, hI23⟩ := hPo
    generalize hq21 : f_X11_index  M = q21 at h g22 hI23 ⊢
    obtain ⟨r21, M21⟩ := q21
    have h := xb_eq h
    try dsimp only at h g22 hI23
    show V 0 0 62 [(0, .ref 14), (1, .int x1), (2, .int x2), (3, .int x3)] [.int r21, .int x3, .ref 14] LAY (M21, L)
    refine x_run C e_X11_findMore_12 e_X11_findMore_12_k (pc' := 66) (lv' := [(0, .ref 14), (1, .int x1), (2, .int x2), (3, .int x3)]) (st' := []) (σ' := ((xup M21 14 26 (x3 + r21)), L)) rfl ⟨trivial, trivial, trivial⟩ ?_
    have hI24 : Inv INVM (xup M21 14 26 (x3 + r21)) := (hI23.fld 14 26 (x3 + r21) (by decide))
    refine x_lv C [0, 1, 2] rfl ?_
    exact b_X11_findMore_66 r C x1 x2 (xup M21 14 26 (x3 + r21)) hI24 h
set_option maxRecDepth 20000 in
set_option maxHeartbeats 4000000 in
theorem b_X11_findMore_35 {l : Launch} {L : Nat → Nat → Int64} {V : XJ} (r : St) (C : C_X11_findMore l r L V) (x1 : Int32) (x2 : Int32) (x3 : Int32) (M : St) (hI : Inv INVM M) (h : f_X11_findMore_35 x1 x2 x3 M = r) : V 0 0 35 [(0, .ref 14), (1, .int x1), (2, .int x2), (3, .int x3)] [] LAY (M, L) := by
  unfold f_X11_findMore_35 at h
  refine x_run C e_X11_findMore_7 e_X11_findMore_7_k (pc' := 37) (lv' := [(0, .ref 14), (1, .int x1), (2, .int x2), (3, .int x3)]) (st' := [.int 2, .int x1]) (σ' := (M, L)) rfl ⟨trivial, trivial, trivial⟩ ?_
  refine x_icmp_ne C (show decode cX11_findMore 37 = .ok (.if_icmp .ne 14, 3) from by decide +kernel) (tgt := 51) (by decide) (fun c13 => ?_) (fun c13 => ?_)
  · rw [if_neg c13] at h
    exact b_X11_findMore_51 r C x1 x2 x3 M hI h
  · rw [if_pos c13] at h
    have g14 : xrg 2 2 x1 := (x_c_eq (x_rgt x1) (x_rgc (x := 2) (k := 2) (by decide)) c13).1
    refine x_run C e_X11_findMore_8 e_X11_findMore_8_k (pc' := 43) (lv' := [(0, .ref 14), (1, .int x1), (2, .int x2), (3, .int x3)]) (st' := [.ref 14, .int x3, .ref 14]) (σ' := (M, L)) rfl ⟨trivial, trivial, trivial, trivial⟩ ?_
    refine x_callV C (k := 14) (ci := 8) (rest := [.int x3, .ref 14]) (avs := []) (k_X11_fetch l  M L hI) yoX11_fetch ml_X11_103 rfl rfl rfl rfl ⟨Nat.zero_le _, Nat.zero_le _⟩ (show decode cX11_findMore 43 = .ok (.invokevirtual 103, 3) from by decide +kernel) rfl (fun v σ' hPo => ?_)
    obtain ⟨⟨rfl, rfl⟩, g16, hI17⟩ := hPo
    generalize hq15 : f_X11_fetch  M = q15 at h g16 hI17 ⊢
    obtain ⟨r15, M15⟩ := q15
    have h := xb_eq h
    try dsimp only at h g16 hI17
    show V 0 0 46 [(0, .ref 14), (1, .int x1), (2, .int x2), (3, .int x3)] [.int r15, .int x3, .ref 14] LAY (M15, L)
    refine x_run C e_X11_findMore_9 e_X11_findMore_9_k (pc' := 51) (lv' := [(0, .ref 14), (1, .int x1), (2, .int x2), (3, .int x3)]) (st' := []) (σ' := ((xup M15 14 26 (x3 + r15.toInt16.toInt32)), L)) rfl ⟨trivial, trivial, trivial, trivial⟩ ?_
    have hI18 : Inv INVM (xup M15 14 26 (x3 + r15.toInt16.toInt32)) := (hI17.fld 14 26 (x3 + r15.toInt16.toInt32) (by decide))
    exact b_X11_findMore_51 r C x1 x2 x3 (xup M15 14 26 (x3 + r15.toInt16.toInt32)) hI18 h
set_option maxRecDepth 20000 in
set_option maxHeartbeats 4000000 in
theorem b_X11_findMore_21 {l : Launch} {L : Nat → Nat → Int64} {V : XJ} (r : St) (C : C_X11_findMore l r L V) (x1 : Int32) (x2 : Int32) (x3 : Int32) (M : St) (hI : Inv INVM M) (h : f_X11_findMore_21 x1 x2 x3 M = r) : V 0 0 21 [(0, .ref 14), (1, .int x1), (2, .int x2), (3, .int x3)] [] LAY (M, L) := by
  unfold f_X11_findMore_21 at h
  refine x_run C e_X11_findMore_4 e_X11_findMore_4_k (pc' := 23) (lv' := [(0, .ref 14), (1, .int x1), (2, .int x2), (3, .int x3)]) (st' := [.int 1, .int x1]) (σ' := (M, L)) rfl ⟨trivial, trivial, trivial⟩ ?_
  refine x_icmp_ne C (show decode cX11_findMore 23 = .ok (.if_icmp .ne 12, 3) from by decide +kernel) (tgt := 35) (by decide) (fun c7 => ?_) (fun c7 => ?_)
  · rw [if_neg c7] at h
    exact b_X11_findMore_35 r C x1 x2 x3 M hI h
  · rw [if_pos c7] at h
    have g8 : xrg 1 1 x1 := (x_c_eq (x_rgt x1) (x_rgc (x := 1) (k := 1) (by decide)) c7).1
    refine x_run C e_X11_findMore_5 e_X11_findMore_5_k (pc' := 29) (lv' := [(0, .ref 14), (1, .int x1), (2, .int x2), (3, .int x3)]) (st' := [.int 2, .ref 14, .ref 14]) (σ' := (M, L)) rfl ⟨trivial, trivial, trivial, trivial⟩ ?_
    refine x_callV C (k := 14) (ci := 8) (rest := [.ref 14]) (avs := [.int 2]) (k_X11_number l 2 M L hI) yoX11_number ml_X11_119 rfl rfl rfl rfl ⟨Nat.zero_le _, Nat.zero_le _⟩ (show decode cX11_findMore 29 = .ok (.invokevirtual 119, 3) from by decide +kernel) rfl (fun v σ' hPo => ?_)
    obtain ⟨⟨rfl, rfl⟩, g10, hI11⟩ := hPo
    generalize hq9 : f_X11_number 2 M = q9 at h g10 hI11 ⊢
    obtain ⟨r9, M9⟩ := q9
    have h := xb_eq h
    try dsimp only at h g10 hI11
    show V 0 0 32 [(0, .ref 14), (1, .int x1), (2, .int x2), (3, .int x3)] [.int r9, .ref 14] LAY (M9, L)
    refine x_run C e_X11_findMore_6 e_X11_findMore_6_k (pc' := 35) (lv' := [(0, .ref 14), (1, .int x1), (2, .int x2), (3, .int x3)]) (st' := []) (σ' := ((xup M9 14 26 r9), L)) rfl ⟨trivial, trivial⟩ ?_
    have hI12 : Inv INVM (xup M9 14 26 r9) := (hI11.fld 14 26 r9 (by decide))
    exact b_X11_findMore_35 r C x1 x2 x3 (xup M9 14 26 r9) hI12 h
set_option maxRecDepth 20000 in
set_option maxHeartbeats 4000000 in
theorem k_X11_findMore (l : Launch) (a1 : Int32) (a2 : Int32) (M : St) (L : Nat → Nat → Int64) (hI : Inv INVM M) : XM l yX11_findMore cX11_findMore 4 none R_X11_findMore LAY [.ref 14, .int a1, .int a2] (M, L) (P_X11_findMore (f_X11_findMore a1 a2 M) L) := by
  refine XM.of (by decide) (Nat.le_of_ble_eq_true rfl) LAY_in cl_ok fl_X11_ok kc_X11_ok (fun V C => ?_)
  obtain ⟨r, h⟩ : ∃ r, f_X11_findMore a1 a2 M = r := ⟨_, rfl⟩
  rw [h] at C
  change C_X11_findMore l r L V at C
  unfold f_X11_findMore at h
  show V 0 0 0 [(0, .ref 14), (1, .int a1), (2, .int a2)] [] LAY (M, L)
  refine x_run C e_X11_findMore_1 e_X11_findMore_1_k (pc' := 9) (lv' := [(3, .int (M 15 17)), (0, .ref 14), (1, .int a1), (2, .int a2)]) (st' := [.int a1]) (σ' := (M, L)) rfl ⟨trivial, trivial, trivial, (x_rgv (x_rgc (x := 17) (k := 17) (by decide)) (by decide) (by decide)), trivial, trivial, trivial⟩ ?_
  refine x_if_ne C (show decode cX11_findMore 9 = .ok (.ifCond .ne 12, 3) from by decide +kernel) (tgt := 21) (by decide) (fun c1 => ?_) (fun c1 => ?_)
  · rw [if_neg c1] at h
    refine x_lv C [1, 2, 3, 0] rfl ?_
    exact b_X11_findMore_21 r C a1 a2 (M 15 17) M hI h
  · rw [if_pos c1] at h
    have g2 : xrg 0 0 a1 := (x_c_eq (x_rgt a1) (x_rgc (x := 0) (k := 0) (by decide)) c1).1
    refine x_run C e_X11_findMore_2 e_X11_findMore_2_k (pc' := 14) (lv' := [(3, .int (M 15 17)), (0, .ref 14), (1, .int a1), (2, .int a2)]) (st' := [.ref 14, .ref 14]) (σ' := (M, L)) rfl ⟨trivial, trivial, trivial⟩ ?_
    refine x_callV C (k := 14) (ci := 8) (rest := [.ref 14]) (avs := []) (k_X11_fetch l  M L hI) yoX11_fetch ml_X11_103 rfl rfl rfl rfl ⟨Nat.zero_le _, Nat.zero_le _⟩ (show decode cX11_findMore 14 = .ok (.invokevirtual 103, 3) from by decide +kernel) rfl (fun v σ' hPo => ?_)
    obtain ⟨⟨rfl, rfl⟩, g4, hI5⟩ := hPo
    generalize hq3 : f_X11_fetch  M = q3 at h g4 hI5 ⊢
    obtain ⟨r3, M3⟩ := q3
    have h := xb_eq h
    try dsimp only at h g4 hI5
    show V 0 0 17 [(3, .int (M 15 17)), (0, .ref 14), (1, .int a1), (2, .int a2)] [.int r3, .ref 14] LAY (M3, L)
    refine x_run C e_X11_findMore_3 e_X11_findMore_3_k (pc' := 21) (lv' := [(3, .int (M 15 17)), (0, .ref 14), (1, .int a1), (2, .int a2)]) (st' := []) (σ' := ((xup M3 14 26 r3.toInt16.toInt32), L)) rfl ⟨trivial, trivial, trivial⟩ ?_
    have hI6 : Inv INVM (xup M3 14 26 r3.toInt16.toInt32) := (hI5.fld 14 26 r3.toInt16.toInt32 (by decide))
    refine x_lv C [1, 2, 3, 0] rfl ?_
    exact b_X11_findMore_21 r C a1 a2 (M 15 17) (xup M3 14 26 r3.toInt16.toInt32) hI6 h
-- X11_find
def e_X11_find_1 : List xI := [(0, .iload_n 1, 1, .null), (1, .iconst 3, 1, .int 3), (2, .ishr, 1, .null), (3, .istore_n 3, 1, .null), (4, .iload_n 1, 1, .null), (5, .bipush 7, 2, .int 7), (7, .iand, 1, .null), (8, .istore 4, 2, .null), (10, .bipush 8, 2, .int 8), (12, .iload 4, 2, .null), (14, .iadd, 1, .null), (15, .istore 5, 2, .null), (17, .iload_n 2, 1, .null)]
theorem e_X11_find_1_k : e_X11_find_1.all (fun q => xokB cX11_find q && xokL q) = true := by decide +kernel
def e_X11_find_2 : List xI := [(21, .iload 4, 2, .null), (23, .bipush 7, 2, .int 7)]
theorem e_X11_find_2_k : e_X11_find_2.all (fun q => xokB cX11_find q && xokL q) = true := by decide +kernel
def e_X11_find_3 : List xI := [(28, .iconst 2, 1, .int 2)]
theorem e_X11_find_3_k : e_X11_find_3.all (fun q => xokB cX11_find q && xokL q) = true := by decide +kernel
def e_X11_find_4 : List xI := [(32, .iconst 1, 1, .int 1), (33, .iload_n 2, 1, .null), (34, .ishl, 1, .null)]
theorem e_X11_find_4_k : e_X11_find_4.all (fun q => xokB cX11_find q && xokL q) = true := by decide +kernel
def e_X11_find_5 : List xI := [(35, .istore 6, 2, .null), (37, .aload_n 0, 1, .null), (38, .iload_n 3, 1, .null)]
theorem e_X11_find_5_k : e_X11_find_5.all (fun q => xokB cX11_find q && xokL q) = true := by decide +kernel
def e_X11_find_6 : List xI := [(47, .iload_n 3, 1, .null), (48, .iconst 1, 1, .int 1)]
theorem e_X11_find_6_k : e_X11_find_6.all (fun q => xokB cX11_find q && xokL q) = true := by decide +kernel
def e_X11_find_7 : List xI := [(57, .bipush 16, 2, .int 16)]
theorem e_X11_find_7_k : e_X11_find_7.all (fun q => xokB cX11_find q && xokL q) = true := by decide +kernel
def e_X11_find_8 : List xI := [(52, .iload 5, 2, .null)]
theorem e_X11_find_8_k : e_X11_find_8.all (fun q => xokB cX11_find q && xokL q) = true := by decide +kernel
def e_X11_find_9 : List xI := [(42, .iload 4, 2, .null)]
theorem e_X11_find_9_k : e_X11_find_9.all (fun q => xokB cX11_find q && xokL q) = true := by decide +kernel
def e_X11_find_10 : List xI := [(59, .putfield 107, 3, .null), (62, .iload_n 3, 1, .null), (63, .iconst 4, 1, .int 4)]
theorem e_X11_find_10_k : e_X11_find_10.all (fun q => xokB cX11_find q && xokL q) = true := by decide +kernel
def e_X11_find_11 : List xI := [(67, .aload_n 0, 1, .null), (68, .getfield 7, 3, .null), (71, .iload 5, 2, .null), (73, .dup2, 1, .null), (74, .iaload, 1, .null), (75, .iload 6, 2, .null), (77, .isub, 1, .null), (78, .iastore, 1, .null)]
theorem e_X11_find_11_k : e_X11_find_11.all (fun q => xokB cX11_find q && xokL q) = true := by decide +kernel
def e_X11_find_12 : List xI := [(79, .iload_n 3, 1, .null), (80, .iconst 5, 1, .int 5)]
theorem e_X11_find_12_k : e_X11_find_12.all (fun q => xokB cX11_find q && xokL q) = true := by decide +kernel
def e_X11_find_13 : List xI := [(84, .aload_n 0, 1, .null), (85, .aload_n 0, 1, .null), (86, .getfield 7, 3, .null), (89, .iload 5, 2, .null), (91, .iaload, 1, .null), (92, .putfield 110, 3, .null)]
theorem e_X11_find_13_k : e_X11_find_13.all (fun q => xokB cX11_find q && xokL q) = true := by decide +kernel
def e_X11_find_14 : List xI := [(95, .iload_n 3, 1, .null), (96, .iconst 3, 1, .int 3)]
theorem e_X11_find_14_k : e_X11_find_14.all (fun q => xokB cX11_find q && xokL q) = true := by decide +kernel
def e_X11_find_15 : List xI := [(100, .aload_n 0, 1, .null), (101, .getfield 7, 3, .null), (104, .iload 5, 2, .null), (106, .dup2, 1, .null), (107, .iaload, 1, .null), (108, .iload 6, 2, .null), (110, .iadd, 1, .null), (111, .iastore, 1, .null)]
theorem e_X11_find_15_k : e_X11_find_15.all (fun q => xokB cX11_find q && xokL q) = true := by decide +kernel
def e_X11_find_16 : List xI := [(112, .iload_n 3, 1, .null), (113, .iconst 5, 1, .int 5)]
theorem e_X11_find_16_k : e_X11_find_16.all (fun q => xokB cX11_find q && xokL q) = true := by decide +kernel
def e_X11_find_17 : List xI := [(117, .aload_n 0, 1, .null), (118, .aload_n 0, 1, .null), (119, .getfield 7, 3, .null), (122, .iload 5, 2, .null), (124, .iaload, 1, .null), (125, .aload_n 0, 1, .null)]
theorem e_X11_find_17_k : e_X11_find_17.all (fun q => xokB cX11_find q && xokL q) = true := by decide +kernel
def e_X11_find_18 : List xI := [(129, .i2s, 1, .null), (130, .iadd, 1, .null), (131, .putfield 110, 3, .null)]
theorem e_X11_find_18_k : e_X11_find_18.all (fun q => xokB cX11_find q && xokL q) = true := by decide +kernel
def e_X11_find_19 : List xI := [(134, .iload_n 3, 1, .null), (135, .bipush 6, 2, .int 6)]
theorem e_X11_find_19_k : e_X11_find_19.all (fun q => xokB cX11_find q && xokL q) = true := by decide +kernel
def e_X11_find_20 : List xI := [(140, .aload_n 0, 1, .null), (141, .aload_n 0, 1, .null), (142, .getfield 7, 3, .null), (145, .iload 5, 2, .null), (147, .iaload, 1, .null), (148, .aload_n 0, 1, .null)]
theorem e_X11_find_20_k : e_X11_find_20.all (fun q => xokB cX11_find q && xokL q) = true := by decide +kernel
def e_X11_find_21 : List xI := [(152, .iadd, 1, .null), (153, .putfield 110, 3, .null)]
theorem e_X11_find_21_k : e_X11_find_21.all (fun q => xokB cX11_find q && xokL q) = true := by decide +kernel
def e_X11_find_22 : List xI := [(156, .iload_n 3, 1, .null), (157, .bipush 7, 2, .int 7)]
theorem e_X11_find_22_k : e_X11_find_22.all (fun q => xokB cX11_find q && xokL q) = true := by decide +kernel
def e_X11_find_23 : List xI := [(162, .aload_n 0, 1, .null), (163, .iload 4, 2, .null), (165, .iload_n 2, 1, .null)]
theorem e_X11_find_23_k : e_X11_find_23.all (fun q => xokB cX11_find q && xokL q) = true := by decide +kernel
abbrev P_X11_find (r : St) (L : Nat → Nat → Int64) : Option Value → xG → Prop := fun v σ' => PoV r L v σ' ∧ Inv INVM r
abbrev R_X11_find : Room := { frames := 6, cells := 0, slots := 0, locals := 140 }
abbrev C_X11_find (l : Launch) (r : St) (L : Nat → Nat → Int64) (V : XJ) : Prop := XC l yX11_find.cls yX11_find.name cX11_find 7 R_X11_find 0 0 fl_X11 kc_X11 LAY.length (xfin none LAY (P_X11_find r L)) V
def f_X11_find_156 (x2 : Int32) (x3 : Int32) (x4 : Int32) (M : St) : St := (if x3 = 7 then (xb (f_X11_findMore x4 x2 M) fun q35 => q35) else M)
def f_X11_find_134 (x2 : Int32) (x3 : Int32) (x4 : Int32) (x5 : Int32) (M : St) : St := (if x3 = 6 then (xb (f_X11_index  M) fun q29 => f_X11_find_156 x2 x3 x4 (xup q29.2 14 26 ((M 15 x5.toNatClampNeg) + q29.1))) else f_X11_find_156 x2 x3 x4 M)
def f_X11_find_112 (x2 : Int32) (x3 : Int32) (x4 : Int32) (x5 : Int32) (M : St) : St := (if x3 = 5 then (xb (f_X11_fetch  M) fun q23 => f_X11_find_134 x2 x3 x4 x5 (xup q23.2 14 26 ((M 15 x5.toNatClampNeg) + q23.1.toInt16.toInt32))) else f_X11_find_134 x2 x3 x4 x5 M)
def f_X11_find_95 (x2 : Int32) (x3 : Int32) (x4 : Int32) (x5 : Int32) (x6 : Int32) (M : St) : St := (if x3 = 3 then f_X11_find_112 x2 x3 x4 x5 (xup M 15 x5.toNatClampNeg ((M 15 x5.toNatClampNeg) + x6)) else f_X11_find_112 x2 x3 x4 x5 M)
def f_X11_find_79 (x2 : Int32) (x3 : Int32) (x4 : Int32) (x5 : Int32) (x6 : Int32) (M : St) : St := (if 5 ≤ x3 then f_X11_find_95 x2 x3 x4 x5 x6 M else f_X11_find_95 x2 x3 x4 x5 x6 (xup M 14 26 (M 15 x5.toNatClampNeg)))
def f_X11_find_59 (x2 : Int32) (x3 : Int32) (x4 : Int32) (x5 : Int32) (x6 : Int32) (s0 : Int32) (M : St) : St := (if x3 = 4 then f_X11_find_79 x2 x3 x4 x5 x6 (xup (xup M 14 25 s0) 15 x5.toNatClampNeg ((M 15 x5.toNatClampNeg) - x6)) else f_X11_find_79 x2 x3 x4 x5 x6 (xup M 14 25 s0))
def f_X11_find_35 (x2 : Int32) (x3 : Int32) (x4 : Int32) (x5 : Int32) (s0 : Int32) (M : St) : St := (if x3 = 0 then f_X11_find_59 x2 x3 x4 x5 s0 x4 M else (if x3 = 1 then f_X11_find_59 x2 x3 x4 x5 s0 x5 M else f_X11_find_59 x2 x3 x4 x5 s0 16 M))
def f_X11_find_32 (x2 : Int32) (x3 : Int32) (x4 : Int32) (x5 : Int32) (M : St) : St := f_X11_find_35 x2 x3 x4 x5 ((1 : Int32) <<< (x2 &&& 31)) M
def f_X11_find (a1 : Int32) (a2 : Int32) (M : St) : St := (if a2 = 0 then (if (a1 &&& 7) = 7 then f_X11_find_35 a2 (a1 >>> ((3 : Int32) &&& 31)) (a1 &&& 7) (8 + (a1 &&& 7)) 2 M else f_X11_find_32 a2 (a1 >>> ((3 : Int32) &&& 31)) (a1 &&& 7) (8 + (a1 &&& 7)) M) else f_X11_find_32 a2 (a1 >>> ((3 : Int32) &&& 31)) (a1 &&& 7) (8 + (a1 &&& 7)) M)
set_option maxRecDepth 20000 in
set_option maxHeartbeats 4000000 in
theorem b_X11_find_156 {l : Launch} {L : Nat → Nat → Int64} {V : XJ} (r : St) (C : C_X11_find l r L V) (x2 : Int32) (x3 : Int32) (x4 : Int32) (M : St) (wx4 : xrg 0 7 x4) (hI : Inv INVM M) (h : f_X11_find_156 x2 x3 x4 M = r) : V 0 0 156 [(0, .ref 14), (2, .int x2), (3, .int x3), (4, .int x4)] [] LAY (M, L) := by
  unfold f_X11_find_156 at h
  refine x_run C e_X11_find_22 e_X11_find_22_k (pc' := 159) (lv' := [(0, .ref 14), (2, .int x2), (3, .int x3), (4, .int x4)]) (st' := [.int 7, .int x3]) (σ' := (M, L)) rfl ⟨trivial, trivial, trivial⟩ ?_
  refine x_icmp_ne C (show decode cX11_find 159 = .ok (.if_icmp .ne 10, 3) from by decide +kernel) (tgt := 169) (by decide) (fun c33 => ?_) (fun c33 => ?_)
  · rw [if_neg c33] at h
    subst h
    exact x_vret C (show decode cX11_find 169 = .ok (.return_, 1) from by decide +kernel) (x_finV ⟨⟨rfl, rfl⟩, hI⟩) (Nat.le_refl 0) (Nat.le_refl 0)
  · rw [if_pos c33] at h
    have g34 : xrg 7 7 x3 := (x_c_eq (x_rgt x3) (x_rgc (x := 7) (k := 7) (by decide)) c33).1
    refine x_run C e_X11_find_23 e_X11_find_23_k (pc' := 166) (lv' := [(0, .ref 14), (2, .int x2), (3, .int x3), (4, .int x4)]) (st' := [.int x2, .int x4, .ref 14]) (σ' := (M, L)) rfl ⟨trivial, trivial, trivial, trivial⟩ ?_
    refine x_callV C (k := 14) (ci := 8) (rest := []) (avs := [.int x4, .int x2]) (k_X11_findMore l x4 x2 M L hI) yoX11_findMore ml_X11_116 rfl rfl rfl rfl ⟨Nat.zero_le _, Nat.zero_le _⟩ (show decode cX11_find 166 = .ok (.invokevirtual 116, 3) from by decide +kernel) rfl (fun v σ' hPo => ?_)
    obtain ⟨⟨rfl, rfl⟩, hI37⟩ := hPo
    generalize hq35 : f_X11_findMore x4 x2 M = q35 at h hI37 ⊢
    have h := xb_eq h
    show V 0 0 169 [(0, .ref 14), (2, .int x2), (3, .int x3), (4, .int x4)] [] LAY (q35, L)
    subst h
    exact x_vret C (show decode cX11_find 169 = .ok (.return_, 1) from by decide +kernel) (x_finV ⟨⟨rfl, rfl⟩, hI37⟩) (Nat.le_refl 0) (Nat.le_refl 0)
set_option maxRecDepth 20000 in
set_option maxHeartbeats 4000000 in
theorem b_X11_find_134 {l : Launch} {L : Nat → Nat → Int64} {V : XJ} (r : St) (C : C_X11_find l r L V) (x2 : Int32) (x3 : Int32) (x4 : Int32) (x5 : Int32) (M : St) (wx4 : xrg 0 7 x4) (wx5 : xrg 8 15 x5) (hI : Inv INVM M) (h : f_X11_find_134 x2 x3 x4 x5 M = r) : V 0 0 134 [(0, .ref 14), (2, .int x2), (3, .int x3), (4, .int x4), (5, .int x5)] [] LAY (M, L) := by
  unfold f_X11_find_134 at h
  refine x_run C e_X11_find_19 e_X11_find_19_k (pc' := 137) (lv' := [(0, .ref 14), (2, .int x2), (3, .int x3), (4, .int x4), (5, .int x5)]) (st' := [.int 6, .int x3]) (σ' := (M, L)) rfl ⟨trivial, trivial, trivial⟩ ?_
  refine x_icmp_ne C (show decode cX11_find 137 = .ok (.if_icmp .ne 19, 3) from by decide +kernel) (tgt := 156) (by decide) (fun c27 => ?_) (fun c27 => ?_)
  · rw [if_neg c27] at h
    refine x_lv C [0, 1, 2, 3] rfl ?_
    exact b_X11_find_156 r C x2 x3 x4 M wx4 hI h
  · rw [if_pos c27] at h
    have g28 : xrg 6 6 x3 := (x_c_eq (x_rgt x3) (x_rgc (x := 6) (k := 6) (by decide)) c27).1
    refine x_run C e_X11_find_20 e_X11_find_20_k (pc' := 149) (lv' := [(0, .ref 14), (2, .int x2), (3, .int x3), (4, .int x4), (5, .int x5)]) (st' := [.ref 14, .int (M 15 x5.toNatClampNeg), .ref 14]) (σ' := (M, L)) rfl ⟨trivial, trivial, trivial, trivial, (x_rgv wx5 (by decide) (by decide)), trivial, trivial⟩ ?_
    refine x_callV C (k := 14) (ci := 8) (rest := [.int (M 15 x5.toNatClampNeg), .ref 14]) (avs := []) (k_X11_index l  M L hI) yoX11_index ml_X11_113 rfl rfl rfl rfl ⟨Nat.zero_le _, Nat.zero_le _⟩ (show decode cX11_find 149 = .ok (.invokevirtual 113, 3) from by decide +kernel) rfl (fun v σ' hPo => ?_)
    obtain ⟨⟨rfl, rfl⟩, g30, hI31⟩ := hPo
    generalize hq29 : f_X11_index  M = q29 at h g30 hI31 ⊢
    obtain ⟨r29, M29⟩ := q29
    have h := xb_eq h
    try dsimp only at h g30 hI31
    show V 0 0 152 [(0, .ref 14), (2, .int x2), (3, .int x3), (4, .int x4), (5, .int x5)] [.int r29, .int (M 15 x5.toNatClampNeg), .ref 14] LAY (M29, L)
    refine x_run C e_X11_find_21 e_X11_find_21_k (pc' := 156) (lv' := [(0, .ref 14), (2, .int x2), (3, .int x3), (4, .int x4), (5, .int x5)]) (st' := []) (σ' := ((xup M29 14 26 ((M 15 x5.toNatClampNeg) + r29)), L)) rfl ⟨trivial, trivial, trivial⟩ ?_
    have hI32 : Inv INVM (xup M29 14 26 ((M 15 x5.toNatClampNeg) + r29)) := (hI31.fld 14 26 ((M 15 x5.toNatClampNeg) + r29) (by decide))
    refine x_lv C [0, 1, 2, 3] rfl ?_
    exact b_X11_find_156 r C x2 x3 x4 (xup M29 14 26 ((M 15 x5.toNatClampNeg) + r29)) wx4 hI32 h
set_option maxRecDepth 20000 in
set_option maxHeartbeats 4000000 in
theorem b_X11_find_112 {l : Launch} {L : Nat → Nat → Int64} {V : XJ} (r : St) (C : C_X11_find l r L V) (x2 : Int32) (x3 : Int32) (x4 : Int32) (x5 : Int32) (M : St) (wx4 : xrg 0 7 x4) (wx5 : xrg 8 15 x5) (hI : Inv INVM M) (h : f_X11_find_112 x2 x3 x4 x5 M = r) : V 0 0 112 [(0, .ref 14), (2, .int x2), (3, .int x3), (4, .int x4), (5, .int x5)] [] LAY (M, L) := by
  unfold f_X11_find_112 at h
  refine x_run C e_X11_find_16 e_X11_find_16_k (pc' := 114) (lv' := [(0, .ref 14), (2, .int x2), (3, .int x3), (4, .int x4), (5, .int x5)]) (st' := [.int 5, .int x3]) (σ' := (M, L)) rfl ⟨trivial, trivial, trivial⟩ ?_
  refine x_icmp_ne C (show decode cX11_find 114 = .ok (.if_icmp .ne 20, 3) from by decide +kernel) (tgt := 134) (by decide) (fun c21 => ?_) (fun c21 => ?_)
  · rw [if_neg c21] at h
    exact b_X11_find_134 r C x2 x3 x4 x5 M wx4 wx5 hI h
  · rw [if_pos c21] at h
    have g22 : xrg 5 5 x3 := (x_c_eq (x_rgt x3) (x_rgc (x := 5) (k := 5) (by decide)) c21).1
    refine x_run C e_X11_find_17 e_X11_find_17_k (pc' := 126) (lv' := [(0, .ref 14), (2, .int x2), (3, .int x3), (4, .int x4), (5, .int x5)]) (st' := [.ref 14, .int (M 15 x5.toNatClampNeg), .ref 14]) (σ' := (M, L)) rfl ⟨trivial, trivial, trivial, trivial, (x_rgv wx5 (by decide) (by decide)), trivial, trivial⟩ ?_
    refine x_callV C (k := 14) (ci := 8) (rest := [.int (M 15 x5.toNatClampNeg), .ref 14]) (avs := []) (k_X11_fetch l  M L hI) yoX11_fetch ml_X11_103 rfl rfl rfl rfl ⟨Nat.zero_le _, Nat.zero_le _⟩ (show decode cX11_find 126 = .ok (.invokevirtual 103, 3) from by decide +kernel) rfl (fun v σ' hPo => ?_)
    obtain ⟨⟨rfl, rfl⟩, g24, hI25⟩ := hPo
    generalize hq23 : f_X11_fetch  M = q23 at h g24 hI25 ⊢
    obtain ⟨r23, M23⟩ := q23
    have h := xb_eq h
    try dsimp only at h g24 hI25
    show V 0 0 129 [(0, .ref 14), (2, .int x2), (3, .int x3), (4, .int x4), (5, .int x5)] [.int r23, .int (M 15 x5.toNatClampNeg), .ref 14] LAY (M23, L)
    refine x_run C e_X11_find_18 e_X11_find_18_k (pc' := 134) (lv' := [(0, .ref 14), (2, .int x2), (3, .int x3), (4, .int x4), (5, .int x5)]) (st' := []) (σ' := ((xup M23 14 26 ((M 15 x5.toNatClampNeg) + r23.toInt16.toInt32)), L)) rfl ⟨trivial, trivial, trivial, trivial⟩ ?_
    have hI26 : Inv INVM (xup M23 14 26 ((M 15 x5.toNatClampNeg) + r23.toInt16.toInt32)) := (hI25.fld 14 26 ((M 15 x5.toNatClampNeg) + r23.toInt16.toInt32) (by decide))
    exact b_X11_find_134 r C x2 x3 x4 x5 (xup M23 14 26 ((M 15 x5.toNatClampNeg) + r23.toInt16.toInt32)) wx4 wx5 hI26 h
set_option maxRecDepth 20000 in
set_option maxHeartbeats 4000000 in
theorem b_X11_find_95 {l : Launch} {L : Nat → Nat → Int64} {V : XJ} (r : St) (C : C_X11_find l r L V) (x2 : Int32) (x3 : Int32) (x4 : Int32) (x5 : Int32) (x6 : Int32) (M : St) (wx4 : xrg 0 7 x4) (wx5 : xrg 8 15 x5) (hI : Inv INVM M) (h : f_X11_find_95 x2 x3 x4 x5 x6 M = r) : V 0 0 95 [(0, .ref 14), (2, .int x2), (3, .int x3), (4, .int x4), (5, .int x5), (6, .int x6)] [] LAY (M, L) := by
  unfold f_X11_find_95 at h
  refine x_run C e_X11_find_14 e_X11_find_14_k (pc' := 97) (lv' := [(0, .ref 14), (2, .int x2), (3, .int x3), (4, .int x4), (5, .int x5), (6, .int x6)]) (st' := [.int 3, .int x3]) (σ' := (M, L)) rfl ⟨trivial, trivial, trivial⟩ ?_
  refine x_icmp_ne C (show decode cX11_find 97 = .ok (.if_icmp .ne 15, 3) from by decide +kernel) (tgt := 112) (by decide) (fun c18 => ?_) (fun c18 => ?_)
  · rw [if_neg c18] at h
    refine x_lv C [0, 1, 2, 3, 4] rfl ?_
    exact b_X11_find_112 r C x2 x3 x4 x5 M wx4 wx5 hI h
  · rw [if_pos c18] at h
    have g19 : xrg 3 3 x3 := (x_c_eq (x_rgt x3) (x_rgc (x := 3) (k := 3) (by decide)) c18).1
    refine x_run C e_X11_find_15 e_X11_find_15_k (pc' := 112) (lv' := [(0, .ref 14), (2, .int x2), (3, .int x3), (4, .int x4), (5, .int x5), (6, .int x6)]) (st' := []) (σ' := ((xup M 15 x5.toNatClampNeg ((M 15 x5.toNatClampNeg) + x6)), L)) rfl ⟨trivial, trivial, trivial, trivial, (x_rgv wx5 (by decide) (by decide)), trivial, trivial, (x_rgv wx5 (by decide) (by decide)), trivial⟩ ?_
    have hI20 : Inv INVM (xup M 15 x5.toNatClampNeg ((M 15 x5.toNatClampNeg) + x6)) := (hI.arr 15 (x5.toNatClampNeg) ((M 15 x5.toNatClampNeg) + x6) (by decide))
    refine x_lv C [0, 1, 2, 3, 4] rfl ?_
    exact b_X11_find_112 r C x2 x3 x4 x5 (xup M 15 x5.toNatClampNeg ((M 15 x5.toNatClampNeg) + x6)) wx4 wx5 hI20 h
set_option maxRecDepth 20000 in
set_option maxHeartbeats 4000000 in
theorem b_X11_find_79 {l : Launch} {L : Nat → Nat → Int64} {V : XJ} (r : St) (C : C_X11_find l r L V) (x2 : Int32) (x3 : Int32) (x4 : Int32) (x5 : Int32) (x6 : Int32) (M : St) (wx4 : xrg 0 7 x4) (wx5 : xrg 8 15 x5) (hI : Inv INVM M) (h : f_X11_find_79 x2 x3 x4 x5 x6 M = r) : V 0 0 79 [(0, .ref 14), (2, .int x2), (3, .int x3), (4, .int x4), (5, .int x5), (6, .int x6)] [] LAY (M, L) := by
  unfold f_X11_find_79 at h
  refine x_run C e_X11_find_12 e_X11_find_12_k (pc' := 81) (lv' := [(0, .ref 14), (2, .int x2), (3, .int x3), (4, .int x4), (5, .int x5), (6, .int x6)]) (st' := [.int 5, .int x3]) (σ' := (M, L)) rfl ⟨trivial, trivial, trivial⟩ ?_
  refine x_icmp_ge C (show decode cX11_find 81 = .ok (.if_icmp .ge 14, 3) from by decide +kernel) (tgt := 95) (by decide) (fun c14 => ?_) (fun c14 => ?_)
  · rw [if_pos c14] at h
    have g15 : xrg 5 2147483647 x3 := (x_c_le (x_rgc (x := 5) (k := 5) (by decide)) (x_rgt x3) c14).2
    exact b_X11_find_95 r C x2 x3 x4 x5 x6 M wx4 wx5 hI h
  · rw [if_neg c14] at h
    have g16 : xrg (-2147483648) 4 x3 := (x_c_nle (x_rgc (x := 5) (k := 5) (by decide)) (x_rgt x3) c14).2
    refine x_run C e_X11_find_13 e_X11_find_13_k (pc' := 95) (lv' := [(0, .ref 14), (2, .int x2), (3, .int x3), (4, .int x4), (5, .int x5), (6, .int x6)]) (st' := []) (σ' := ((xup M 14 26 (M 15 x5.toNatClampNeg)), L)) rfl ⟨trivial, trivial, trivial, trivial, (x_rgv wx5 (by decide) (by decide)), trivial, trivial⟩ ?_
    have hI17 : Inv INVM (xup M 14 26 (M 15 x5.toNatClampNeg)) := (hI.fld 14 26 (M 15 x5.toNatClampNeg) (by decide))
    exact b_X11_find_95 r C x2 x3 x4 x5 x6 (xup M 14 26 (M 15 x5.toNatClampNeg)) wx4 wx5 hI17 h
set_option maxRecDepth 20000 in
set_option maxHeartbeats 4000000 in
theorem b_X11_find_59 {l : Launch} {L : Nat → Nat → Int64} {V : XJ} (r : St) (C : C_X11_find l r L V) (x2 : Int32) (x3 : Int32) (x4 : Int32) (x5 : Int32) (x6 : Int32) (s0 : Int32) (M : St) (wx4 : xrg 0 7 x4) (wx5 : xrg 8 15 x5) (ws0 : xrg 0 16 s0) (hI : Inv INVM M) (h : f_X11_find_59 x2 x3 x4 x5 x6 s0 M = r) : V 0 0 59 [(0, .ref 14), (2, .int x2), (3, .int x3), (4, .int x4), (5, .int x5), (6, .int x6)] [.int s0, .ref 14] LAY (M, L) := by
  unfold f_X11_find_59 at h
  refine x_run C e_X11_find_10 e_X11_find_10_k (pc' := 64) (lv' := [(0, .ref 14), (2, .int x2), (3, .int x3), (4, .int x4), (5, .int x5), (6, .int x6)]) (st' := [.int 4, .int x3]) (σ' := ((xup M 14 25 s0), L)) rfl ⟨trivial, trivial, trivial, trivial⟩ ?_
  have hI10 : Inv INVM (xup M 14 25 s0) := (hI.set 14 25 ws0 (by decide))
  refine x_icmp_ne C (show decode cX11_find 64 = .ok (.if_icmp .ne 15, 3) from by decide +kernel) (tgt := 79) (by decide) (fun c11 => ?_) (fun c11 => ?_)
  · rw [if_neg c11] at h
    exact b_X11_find_79 r C x2 x3 x4 x5 x6 (xup M 14 25 s0) wx4 wx5 hI10 h
  · rw [if_pos c11] at h
    have g12 : xrg 4 4 x3 := (x_c_eq (x_rgt x3) (x_rgc (x := 4) (k := 4) (by decide)) c11).1
    refine x_run C e_X11_find_11 e_X11_find_11_k (pc' := 79) (lv' := [(0, .ref 14), (2, .int x2), (3, .int x3), (4, .int x4), (5, .int x5), (6, .int x6)]) (st' := []) (σ' := ((xup (xup M 14 25 s0) 15 x5.toNatClampNeg ((M 15 x5.toNatClampNeg) - x6)), L)) rfl ⟨trivial, trivial, trivial, trivial, (x_rgv wx5 (by decide) (by decide)), trivial, trivial, (x_rgv wx5 (by decide) (by decide)), trivial⟩ ?_
    have hI13 : Inv INVM (xup (xup M 14 25 s0) 15 x5.toNatClampNeg ((M 15 x5.toNatClampNeg) - x6)) := (hI10.arr 15 (x5.toNatClampNeg) ((M 15 x5.toNatClampNeg) - x6) (by decide))
    exact b_X11_find_79 r C x2 x3 x4 x5 x6 (xup (xup M 14 25 s0) 15 x5.toNatClampNeg ((M 15 x5.toNatClampNeg) - x6)) wx4 wx5 hI13 h
set_option maxRecDepth 20000 in
set_option maxHeartbeats 4000000 in
theorem b_X11_find_35 {l : Launch} {L : Nat → Nat → Int64} {V : XJ} (r : St) (C : C_X11_find l r L V) (x2 : Int32) (x3 : Int32) (x4 : Int32) (x5 : Int32) (s0 : Int32) (M : St) (wx4 : xrg 0 7 x4) (wx5 : xrg 8 15 x5) (hI : Inv INVM M) (h : f_X11_find_35 x2 x3 x4 x5 s0 M = r) : V 0 0 35 [(0, .ref 14), (2, .int x2), (3, .int x3), (4, .int x4), (5, .int x5)] [.int s0] LAY (M, L) := by
  unfold f_X11_find_35 at h
  refine x_run C e_X11_find_5 e_X11_find_5_k (pc' := 39) (lv' := [(6, .int s0), (0, .ref 14), (2, .int x2), (3, .int x3), (4, .int x4), (5, .int x5)]) (st' := [.int x3, .ref 14]) (σ' := (M, L)) rfl ⟨trivial, trivial, trivial, trivial⟩ ?_
  refine x_if_ne C (show decode cX11_find 39 = .ok (.ifCond .ne 8, 3) from by decide +kernel) (tgt := 47) (by decide) (fun c6 => ?_) (fun c6 => ?_)
  · rw [if_neg c6] at h
    refine x_run C e_X11_find_6 e_X11_find_6_k (pc' := 49) (lv' := [(6, .int s0), (0, .ref 14), (2, .int x2), (3, .int x3), (4, .int x4), (5, .int x5)]) (st' := [.int 1, .int x3, .ref 14]) (σ' := (M, L)) rfl ⟨trivial, trivial, trivial⟩ ?_
    refine x_icmp_ne C (show decode cX11_find 49 = .ok (.if_icmp .ne 8, 3) from by decide +kernel) (tgt := 57) (by decide) (fun c7 => ?_) (fun c7 => ?_)
    · rw [if_neg c7] at h
      refine x_run C e_X11_find_7 e_X11_find_7_k (pc' := 59) (lv' := [(6, .int s0), (0, .ref 14), (2, .int x2), (3, .int x3), (4, .int x4), (5, .int x5)]) (st' := [.int 16, .ref 14]) (σ' := (M, L)) rfl ⟨trivial, trivial⟩ ?_
      refine x_lv C [1, 2, 3, 4, 5, 0] rfl ?_
      exact b_X11_find_59 r C x2 x3 x4 x5 s0 16 M wx4 wx5 (x_rgw (x_rgc (x := 16) (k := 16) (by decide)) (lo' := 0) (hi' := 16) (by decide) (by decide)) hI h
    · rw [if_pos c7] at h
      have g8 : xrg 1 1 x3 := (x_c_eq (x_rgt x3) (x_rgc (x := 1) (k := 1) (by decide)) c7).1
      refine x_run C e_X11_find_8 e_X11_find_8_k (pc' := 54) (lv' := [(6, .int s0), (0, .ref 14), (2, .int x2), (3, .int x3), (4, .int x4), (5, .int x5)]) (st' := [.int x5, .ref 14]) (σ' := (M, L)) rfl ⟨trivial, trivial⟩ ?_
      refine x_goto C (show decode cX11_find 54 = .ok (.goto 5, 3) from by decide +kernel) (tgt := 59) (by decide) ?_
      refine x_lv C [1, 2, 3, 4, 5, 0] rfl ?_
      exact b_X11_find_59 r C x2 x3 x4 x5 s0 x5 M wx4 wx5 (x_rgw wx5 (lo' := 0) (hi' := 16) (by decide) (by decide)) hI h
  · rw [if_pos c6] at h
    have g9 : xrg 0 0 x3 := (x_c_eq (x_rgt x3) (x_rgc (x := 0) (k := 0) (by decide)) c6).1
    refine x_run C e_X11_find_9 e_X11_find_9_k (pc' := 44) (lv' := [(6, .int s0), (0, .ref 14), (2, .int x2), (3, .int x3), (4, .int x4), (5, .int x5)]) (st' := [.int x4, .ref 14]) (σ' := (M, L)) rfl ⟨trivial, trivial⟩ ?_
    refine x_goto C (show decode cX11_find 44 = .ok (.goto 15, 3) from by decide +kernel) (tgt := 59) (by decide) ?_
    refine x_lv C [1, 2, 3, 4, 5, 0] rfl ?_
    exact b_X11_find_59 r C x2 x3 x4 x5 s0 x4 M wx4 wx5 (x_rgw wx4 (lo' := 0) (hi' := 16) (by decide) (by decide)) hI h
set_option maxRecDepth 20000 in
set_option maxHeartbeats 4000000 in
theorem b_X11_find_32 {l : Launch} {L : Nat → Nat → Int64} {V : XJ} (r : St) (C : C_X11_find l r L V) (x2 : Int32) (x3 : Int32) (x4 : Int32) (x5 : Int32) (M : St) (wx4 : xrg 0 7 x4) (wx5 : xrg 8 15 x5) (hI : Inv INVM M) (h : f_X11_find_32 x2 x3 x4 x5 M = r) : V 0 0 32 [(0, .ref 14), (2, .int x2), (3, .int x3), (4, .int x4), (5, .int x5)] [] LAY (M, L) := by
  unfold f_X11_find_32 at h
  refine x_run C e_X11_find_4 e_X11_find_4_k (pc' := 35) (lv' := [(0, .ref 14), (2, .int x2), (3, .int x3), (4, .int x4), (5, .int x5)]) (st' := [.int ((1 : Int32) <<< (x2 &&& 31))]) (σ' := (M, L)) rfl ⟨trivial, trivial, trivial, trivial⟩ ?_
  exact b_X11_find_35 r C x2 x3 x4 x5 ((1 : Int32) <<< (x2 &&& 31)) M wx4 wx5 hI h
set_option maxRecDepth 20000 in
set_option maxHeartbeats 4000000 in
theorem k_X11_find (l : Launch) (a1 : Int32) (a2 : Int32) (M : St) (L : Nat → Nat → Int64) (hI : Inv INVM M) : XM l yX11_find cX11_find 7 none R_X11_find LAY [.ref 14, .int a1, .int a2] (M, L) (P_X11_find (f_X11_find a1 a2 M) L) := by
  refine XM.of (by decide) (Nat.le_of_ble_eq_true rfl) LAY_in cl_ok fl_X11_ok kc_X11_ok (fun V C => ?_)
  obtain ⟨r, h⟩ : ∃ r, f_X11_find a1 a2 M = r := ⟨_, rfl⟩
  rw [h] at C
  change C_X11_find l r L V at C
  unfold f_X11_find at h
  show V 0 0 0 [(0, .ref 14), (1, .int a1), (2, .int a2)] [] LAY (M, L)
  refine x_run C e_X11_find_1 e_X11_find_1_k (pc' := 18) (lv' := [(5, .int (8 + (a1 &&& 7))), (4, .int (a1 &&& 7)), (3, .int (a1 >>> ((3 : Int32) &&& 31))), (0, .ref 14), (1, .int a1), (2, .int a2)]) (st' := [.int a2]) (σ' := (M, L)) rfl ⟨trivial, trivial, trivial, trivial, trivial, trivial, trivial, trivial, trivial, trivial, trivial, trivial, trivial, trivial⟩ ?_
  refine x_if_ne C (show decode cX11_find 18 = .ok (.ifCond .ne 14, 3) from by decide +kernel) (tgt := 32) (by decide) (fun c1 => ?_) (fun c1 => ?_)
  · rw [if_neg c1] at h
    refine x_lv C [3, 5, 2, 1, 0] rfl ?_
    exact b_X11_find_32 r C a2 (a1 >>> ((3 : Int32) &&& 31)) (a1 &&& 7) (8 + (a1 &&& 7)) M (x_rg_and (x := a1) (m := 7) (k := 7) (by decide) (by decide)) (x_rg_add (x_rgc (x := 8) (k := 8) (by decide)) (x_rg_and (x := a1) (m := 7) (k := 7) (by decide) (by decide)) (by decide) (by decide)) hI h
  · rw [if_pos c1] at h
    have g2 : xrg 0 0 a2 := (x_c_eq (x_rgt a2) (x_rgc (x := 0) (k := 0) (by decide)) c1).1
    refine x_run C e_X11_find_2 e_X11_find_2_k (pc' := 25) (lv' := [(5, .int (8 + (a1 &&& 7))), (4, .int (a1 &&& 7)), (3, .int (a1 >>> ((3 : Int32) &&& 31))), (0, .ref 14), (1, .int a1), (2, .int a2)]) (st' := [.int 7, .int (a1 &&& 7)]) (σ' := (M, L)) rfl ⟨trivial, trivial, trivial⟩ ?_
    refine x_icmp_ne C (show decode cX11_find 25 = .ok (.if_icmp .ne 7, 3) from by decide +kernel) (tgt := 32) (by decide) (fun c3 => ?_) (fun c3 => ?_)
    · rw [if_neg c3] at h
      have g4 : xrg 0 6 (a1 &&& 7) := (x_c_neh (x_rg_and (x := a1) (m := 7) (k := 7) (by decide) (by decide)) (by decide) c3)
      refine x_lv C [3, 5, 2, 1, 0] rfl ?_
      exact b_X11_find_32 r C a2 (a1 >>> ((3 : Int32) &&& 31)) (a1 &&& 7) (8 + (a1 &&& 7)) M (x_rgw g4 (lo' := 0) (hi' := 7) (by decide) (by decide)) (x_rg_add (x_rgc (x := 8) (k := 8) (by decide)) (x_rg_and (x := a1) (m := 7) (k := 7) (by decide) (by decide)) (by decide) (by decide)) hI h
    · rw [if_pos c3] at h
      have g5 : xrg 7 7 (a1 &&& 7) := (x_c_eq (x_rg_and (x := a1) (m := 7) (k := 7) (by decide) (by decide)) (x_rgc (x := 7) (k := 7) (by decide)) c3).1
      refine x_run C e_X11_find_3 e_X11_find_3_k (pc' := 29) (lv' := [(5, .int (8 + (a1 &&& 7))), (4, .int (a1 &&& 7)), (3, .int (a1 >>> ((3 : Int32) &&& 31))), (0, .ref 14), (1, .int a1), (2, .int a2)]) (st' := [.int 2]) (σ' := (M, L)) rfl ⟨trivial, trivial⟩ ?_
      refine x_goto C (show decode cX11_find 29 = .ok (.goto 6, 3) from by decide +kernel) (tgt := 35) (by decide) ?_
      refine x_lv C [3, 5, 2, 1, 0] rfl ?_
      exact b_X11_find_35 r C a2 (a1 >>> ((3 : Int32) &&& 31)) (a1 &&& 7) (8 + (a1 &&& 7)) 2 M (x_rgw g5 (lo' := 0) (hi' := 7) (by decide) (by decide)) (x_rg_add (x_rgc (x := 8) (k := 8) (by decide)) (x_rg_and (x := a1) (m := 7) (k := 7) (by decide) (by decide)) (by decide) (by decide)) hI h
-- X11_load
def e_X11_load_1 : List xI := [(0, .aload_n 0, 1, .null), (1, .getfield 107, 3, .null), (4, .bipush 16, 2, .int 16)]
theorem e_X11_load_1_k : e_X11_load_1.all (fun q => xokB cX11_load q && xokL q) = true := by decide +kernel
def e_X11_load_2 : List xI := [(22, .aload_n 0, 1, .null), (23, .getfield 107, 3, .null), (26, .bipush 17, 2, .int 17)]
theorem e_X11_load_2_k : e_X11_load_2.all (fun q => xokB cX11_load q && xokL q) = true := by decide +kernel
def e_X11_load_3 : List xI := [(38, .aload_n 0, 1, .null), (39, .getfield 7, 3, .null), (42, .aload_n 0, 1, .null), (43, .getfield 107, 3, .null), (46, .iaload, 1, .null)]
theorem e_X11_load_3_k : e_X11_load_3.all (fun q => xokB cX11_load q && xokL q) = true := by decide +kernel
def e_X11_load_4 : List xI := [(31, .aload_n 0, 1, .null), (32, .getfield 110, 3, .null)]
theorem e_X11_load_4_k : e_X11_load_4.all (fun q => xokB cX11_load q && xokL q) = true := by decide +kernel
def e_X11_load_5 : List xI := [(9, .aload_n 0, 1, .null), (10, .aload_n 0, 1, .null), (11, .getfield 110, 3, .null), (14, .iload_n 1, 1, .null), (15, .iconst 1, 1, .int 1)]
theorem e_X11_load_5_k : e_X11_load_5.all (fun q => xokB cX11_load q && xokL q) = true := by decide +kernel
def e_X11_load_6 : List xI := [(47, .iload_n 1, 1, .null)]
theorem e_X11_load_6_k : e_X11_load_6.all (fun q => xokB cX11_load q && xokL q) = true := by decide +kernel
def e_X11_load_7 : List xI := [(51, .iand, 1, .null)]
theorem e_X11_load_7_k : e_X11_load_7.all (fun q => xokB cX11_load q && xokL q) = true := by decide +kernel
abbrev P_X11_load (r : Int32 × St) (L : Nat → Nat → Int64) : Option Value → xG → Prop := fun v σ' => PoI r.1 r.2 L v σ' ∧ True ∧ Inv INVM r.2
abbrev R_X11_load : Room := { frames := 3, cells := 0, slots := 0, locals := 74 }
abbrev C_X11_load (l : Launch) (r : Int32 × St) (L : Nat → Nat → Int64) (V : XJ) : Prop := XC l yX11_load.cls yX11_load.name cX11_load 2 R_X11_load 0 0 fl_X11 kc_X11 LAY.length (xfin (some .int) LAY (P_X11_load r L)) V
def f_X11_load_47 (x1 : Int32) (s0 : Int32) (M : St) : Int32 × St := ((s0 &&& (f_X11_mask x1)), M)
def f_X11_load (a1 : Int32) (M : St) : Int32 × St := (if (M 14 25) = 16 then (xb (f_X11_read (M 14 26) a1 1 M) fun q6 => (q6.1, q6.2)) else (if (M 14 25) = 17 then f_X11_load_47 a1 (M 14 26) M else f_X11_load_47 a1 (M 15 (M 14 25).toNatClampNeg) M))
set_option maxRecDepth 20000 in
set_option maxHeartbeats 4000000 in
theorem b_X11_load_47 {l : Launch} {L : Nat → Nat → Int64} {V : XJ} (r : Int32 × St) (C : C_X11_load l r L V) (x1 : Int32) (s0 : Int32) (M : St) (hI : Inv INVM M) (h : f_X11_load_47 x1 s0 M = r) : V 0 0 47 [(1, .int x1)] [.int s0] LAY (M, L) := by
  unfold f_X11_load_47 at h
  refine x_run C e_X11_load_6 e_X11_load_6_k (pc' := 48) (lv' := [(1, .int x1)]) (st' := [.int x1, .int s0]) (σ' := (M, L)) rfl ⟨trivial, trivial⟩ ?_
  refine x_callS C (rest := [.int s0]) (avs := [.int x1]) (k_X11_mask l x1 M L) yoX11_mask ml_X11_122 rfl ⟨Nat.zero_le _, Nat.zero_le _⟩ (show decode cX11_load 48 = .ok (.invokestatic 122, 3) from by decide +kernel) rfl (fun v σ' hPo => ?_)
  obtain ⟨⟨rfl, rfl⟩, g10, -⟩ := hPo
  show V 0 0 51 [(1, .int x1)] [.int (f_X11_mask x1), .int s0] LAY (M, L)
  refine x_run C e_X11_load_7 e_X11_load_7_k (pc' := 52) (lv' := [(1, .int x1)]) (st' := [.int (s0 &&& (f_X11_mask x1))]) (σ' := (M, L)) rfl ⟨trivial, trivial⟩ ?_
  subst h
  exact x_iret C (show decode cX11_load 52 = .ok (.ireturn, 1) from by decide +kernel) (x_finI rfl ⟨⟨rfl, rfl⟩, trivial, hI⟩) (Nat.le_refl 0) (Nat.le_refl 0)
set_option maxRecDepth 20000 in
set_option maxHeartbeats 4000000 in
theorem k_X11_load (l : Launch) (a1 : Int32) (M : St) (L : Nat → Nat → Int64) (hI : Inv INVM M) : XM l yX11_load cX11_load 2 (some .int) R_X11_load LAY [.ref 14, .int a1] (M, L) (P_X11_load (f_X11_load a1 M) L) := by
  refine XM.of (by decide) (Nat.le_of_ble_eq_true rfl) LAY_in cl_ok fl_X11_ok kc_X11_ok (fun V C => ?_)
  obtain ⟨r, h⟩ : ∃ r, f_X11_load a1 M = r := ⟨_, rfl⟩
  rw [h] at C
  change C_X11_load l r L V at C
  unfold f_X11_load at h
  show V 0 0 0 [(0, .ref 14), (1, .int a1)] [] LAY (M, L)
  refine x_run C e_X11_load_1 e_X11_load_1_k (pc' := 6) (lv' := [(0, .ref 14), (1, .int a1)]) (st' := [.int 16, .int (M 14 25)]) (σ' := (M, L)) rfl ⟨trivial, trivial, trivial, trivial⟩ ?_
  refine x_icmp_ne C (show decode cX11_load 6 = .ok (.if_icmp .ne 16, 3) from by decide +kernel) (tgt := 22) (by decide) (fun c1 => ?_) (fun c1 => ?_)
  · rw [if_neg c1] at h
    refine x_run C e_X11_load_2 e_X11_load_2_k (pc' := 28) (lv' := [(0, .ref 14), (1, .int a1)]) (st' := [.int 17, .int (M 14 25)]) (σ' := (M, L)) rfl ⟨trivial, trivial, trivial, trivial⟩ ?_
    refine x_icmp_ne C (show decode cX11_load 28 = .ok (.if_icmp .ne 10, 3) from by decide +kernel) (tgt := 38) (by decide) (fun c2 => ?_) (fun c2 => ?_)
    · rw [if_neg c2] at h
      have g3 : xrg 0 16 (M 14 25) := (x_c_neh (hI.at 2 rfl) (by decide) c2)
      refine x_run C e_X11_load_3 e_X11_load_3_k (pc' := 47) (lv' := [(0, .ref 14), (1, .int a1)]) (st' := [.int (M 15 (M 14 25).toNatClampNeg)]) (σ' := (M, L)) rfl ⟨trivial, trivial, trivial, trivial, (x_rgv g3 (by decide) (by decide)), trivial⟩ ?_
      refine x_lv C [1] rfl ?_
      exact b_X11_load_47 r C a1 (M 15 (M 14 25).toNatClampNeg) M hI h
    · rw [if_pos c2] at h
      have g4 : xrg 17 17 (M 14 25) := (x_c_eq (hI.at 2 rfl) (x_rgc (x := 17) (k := 17) (by decide)) c2).1
      refine x_run C e_X11_load_4 e_X11_load_4_k (pc' := 35) (lv' := [(0, .ref 14), (1, .int a1)]) (st' := [.int (M 14 26)]) (σ' := (M, L)) rfl ⟨trivial, trivial, trivial⟩ ?_
      refine x_goto C (show decode cX11_load 35 = .ok (.goto 12, 3) from by decide +kernel) (tgt := 47) (by decide) ?_
      refine x_lv C [1] rfl ?_
      exact b_X11_load_47 r C a1 (M 14 26) M hI h
  · rw [if_pos c1] at h
    have g5 : xrg 16 16 (M 14 25) := (x_c_eq (hI.at 2 rfl) (x_rgc (x := 16) (k := 16) (by decide)) c1).1
    refine x_run C e_X11_load_5 e_X11_load_5_k (pc' := 16) (lv' := [(0, .ref 14), (1, .int a1)]) (st' := [.int 1, .int a1, .int (M 14 26), .ref 14]) (σ' := (M, L)) rfl ⟨trivial, trivial, trivial, trivial, trivial, trivial⟩ ?_
    refine x_callV C (k := 14) (ci := 8) (rest := []) (avs := [.int (M 14 26), .int a1, .int 1]) (k_X11_read l (M 14 26) a1 1 M L hI) yoX11_read ml_X11_95 rfl rfl rfl rfl ⟨Nat.zero_le _, Nat.zero_le _⟩ (show decode cX11_load 16 = .ok (.invokevirtual 95, 3) from by decide +kernel) rfl (fun v σ' hPo => ?_)
    obtain ⟨⟨rfl, rfl⟩, g7, hI8⟩ := hPo
    generalize hq6 : f_X11_read (M 14 26) a1 1 M = q6 at h g7 hI8 ⊢
    obtain ⟨r6, M6⟩ := q6
    have h := xb_eq h
    try dsimp only at h g7 hI8
    show V 0 0 19 [(0, .ref 14), (1, .int a1)] [.int r6] LAY (M6, L)
    refine x_goto C (show decode cX11_load 19 = .ok (.goto 33, 3) from by decide +kernel) (tgt := 52) (by decide) ?_
    subst h
    exact x_iret C (show decode cX11_load 52 = .ok (.ireturn, 1) from by decide +kernel) (x_finI rfl ⟨⟨rfl, rfl⟩, trivial, hI8⟩) (Nat.le_refl 0) (Nat.le_refl 0)
-- X11_loadAt
def e_X11_loadAt_1 : List xI := [(0, .aload_n 0, 1, .null), (1, .iload_n 1, 1, .null), (2, .iload_n 2, 1, .null)]
theorem e_X11_loadAt_1_k : e_X11_loadAt_1.all (fun q => xokB cX11_loadAt q && xokL q) = true := by decide +kernel
def e_X11_loadAt_2 : List xI := [(6, .aload_n 0, 1, .null), (7, .iload_n 2, 1, .null)]
theorem e_X11_loadAt_2_k : e_X11_loadAt_2.all (fun q => xokB cX11_loadAt q && xokL q) = true := by decide +kernel
abbrev P_X11_loadAt (r : Int32 × St) (L : Nat → Nat → Int64) : Option Value → xG → Prop := fun v σ' => PoI r.1 r.2 L v σ' ∧ True ∧ Inv INVM r.2
abbrev R_X11_loadAt : Room := { frames := 7, cells := 0, slots := 0, locals := 166 }
abbrev C_X11_loadAt (l : Launch) (r : Int32 × St) (L : Nat → Nat → Int64) (V : XJ) : Prop := XC l yX11_loadAt.cls yX11_loadAt.name cX11_loadAt 3 R_X11_loadAt 0 0 fl_X11 kc_X11 LAY.length (xfin (some .int) LAY (P_X11_loadAt r L)) V
def f_X11_loadAt (a1 : Int32) (a2 : Int32) (M : St) : Int32 × St := (xb (f_X11_find a1 a2 M) fun q1 => (xb (f_X11_load a2 q1) fun q4 => (q4.1, q4.2)))
set_option maxRecDepth 20000 in
set_option maxHeartbeats 4000000 in
theorem k_X11_loadAt (l : Launch) (a1 : Int32) (a2 : Int32) (M : St) (L : Nat → Nat → Int64) (hI : Inv INVM M) : XM l yX11_loadAt cX11_loadAt 3 (some .int) R_X11_loadAt LAY [.ref 14, .int a1, .int a2] (M, L) (P_X11_loadAt (f_X11_loadAt a1 a2 M) L) := by
  refine XM.of (by decide) (Nat.le_of_ble_eq_true rfl) LAY_in cl_ok fl_X11_ok kc_X11_ok (fun V C => ?_)
  obtain ⟨r, h⟩ : ∃ r, f_X11_loadAt a1 a2 M = r := ⟨_, rfl⟩
  rw [h] at C
  change C_X11_loadAt l r L V at C
  unfold f_X11_loadAt at h
  show V 0 0 0 [(0, .ref 14), (1, .int a1), (2, .int a2)] [] LAY (M, L)
  refine x_run C e_X11_loadAt_1 e_X11_loadAt_1_k (pc' := 3) (lv' := [(0, .ref 14), (1, .int a1), (2, .int a2)]) (st' := [.int a2, .int a1, .ref 14]) (σ' := (M, L)) rfl ⟨trivial, trivial, trivial, trivial⟩ ?_
  refine x_callV C (k := 14) (ci := 8) (rest := []) (avs := [.int a1, .int a2]) (k_X11_find l a1 a2 M L hI) yoX11_find ml_X11_125 rfl rfl rfl rfl ⟨Nat.zero_le _, Nat.zero_le _⟩ (show decode cX11_loadAt 3 = .ok (.invokevirtual 125, 3) from by decide +kernel) rfl (fun v σ' hPo => ?_)
  obtain ⟨⟨rfl, rfl⟩, hI3⟩ := hPo
  generalize hq1 : f_X11_find a1 a2 M = q1 at h hI3 ⊢
  have h := xb_eq h
  show V 0 0 6 [(0, .ref 14), (1, .int a1), (2, .int a2)] [] LAY (q1, L)
  refine x_run C e_X11_loadAt_2 e_X11_loadAt_2_k (pc' := 8) (lv' := [(0, .ref 14), (1, .int a1), (2, .int a2)]) (st' := [.int a2, .ref 14]) (σ' := (q1, L)) rfl ⟨trivial, trivial, trivial⟩ ?_
  refine x_callV C (k := 14) (ci := 8) (rest := []) (avs := [.int a2]) (k_X11_load l a2 q1 L hI3) yoX11_load ml_X11_128 rfl rfl rfl rfl ⟨Nat.zero_le _, Nat.zero_le _⟩ (show decode cX11_loadAt 8 = .ok (.invokevirtual 128, 3) from by decide +kernel) rfl (fun v σ' hPo => ?_)
  obtain ⟨⟨rfl, rfl⟩, g5, hI6⟩ := hPo
  generalize hq4 : f_X11_load a2 q1 = q4 at h g5 hI6 ⊢
  obtain ⟨r4, M4⟩ := q4
  have h := xb_eq h
  try dsimp only at h g5 hI6
  show V 0 0 11 [(0, .ref 14), (1, .int a1), (2, .int a2)] [.int r4] LAY (M4, L)
  subst h
  exact x_iret C (show decode cX11_loadAt 11 = .ok (.ireturn, 1) from by decide +kernel) (x_finI rfl ⟨⟨rfl, rfl⟩, trivial, hI6⟩) (Nat.le_refl 0) (Nat.le_refl 0)
-- X11_extend
def e_X11_extend_1 : List xI := [(0, .iload_n 1, 1, .null)]
theorem e_X11_extend_1_k : e_X11_extend_1.all (fun q => xokB cX11_extend q && xokL q) = true := by decide +kernel
def e_X11_extend_2 : List xI := [(9, .iload_n 1, 1, .null), (10, .iconst 1, 1, .int 1)]
theorem e_X11_extend_2_k : e_X11_extend_2.all (fun q => xokB cX11_extend q && xokL q) = true := by decide +kernel
def e_X11_extend_3 : List xI := [(19, .iload_n 0, 1, .null)]
theorem e_X11_extend_3_k : e_X11_extend_3.all (fun q => xokB cX11_extend q && xokL q) = true := by decide +kernel
def e_X11_extend_4 : List xI := [(14, .iload_n 0, 1, .null), (15, .i2s, 1, .null)]
theorem e_X11_extend_4_k : e_X11_extend_4.all (fun q => xokB cX11_extend q && xokL q) = true := by decide +kernel
def e_X11_extend_5 : List xI := [(4, .iload_n 0, 1, .null), (5, .i2b, 1, .null)]
theorem e_X11_extend_5_k : e_X11_extend_5.all (fun q => xokB cX11_extend q && xokL q) = true := by decide +kernel
abbrev P_X11_extend (r : Int32) (M0 : St) (L : Nat → Nat → Int64) : Option Value → xG → Prop := fun v σ' => PoI r M0 L v σ' ∧ True ∧ True
abbrev R_X11_extend : Room := { frames := 0, cells := 0, slots := 0, locals := 0 }
abbrev C_X11_extend (l : Launch) (r : Int32) (M0 : St) (L : Nat → Nat → Int64) (V : XJ) : Prop := XC l yX11_extend.cls yX11_extend.name cX11_extend 2 R_X11_extend 0 0 fl_X11 kc_X11 LAY.length (xfin (some .int) LAY (P_X11_extend r M0 L)) V
def f_X11_extend (a1 : Int32) (a2 : Int32) : Int32 := (if a2 = 0 then a1.toInt8.toInt32 else (if a2 = 1 then a1.toInt16.toInt32 else a1))
set_option maxRecDepth 20000 in
set_option maxHeartbeats 4000000 in
theorem k_X11_extend (l : Launch) (a1 : Int32) (a2 : Int32) (M : St) (L : Nat → Nat → Int64) : XM l yX11_extend cX11_extend 2 (some .int) R_X11_extend LAY [.int a1, .int a2] (M, L) (P_X11_extend (f_X11_extend a1 a2) M L) := by
  refine XM.of (by decide) (Nat.le_of_ble_eq_true rfl) LAY_in cl_ok fl_X11_ok kc_X11_ok (fun V C => ?_)
  obtain ⟨r, h⟩ : ∃ r, f_X11_extend a1 a2 = r := ⟨_, rfl⟩
  rw [h] at C
  change C_X11_extend l r M L V at C
  unfold f_X11_extend at h
  show V 0 0 0 [(0, .int a1), (1, .int a2)] [] LAY (M, L)
  refine x_run C e_X11_extend_1 e_X11_extend_1_k (pc' := 1) (lv' := [(0, .int a1), (1, .int a2)]) (st' := [.int a2]) (σ' := (M, L)) rfl ⟨trivial, trivial⟩ ?_
  refine x_if_ne C (show decode cX11_extend 1 = .ok (.ifCond .ne 8, 3) from by decide +kernel) (tgt := 9) (by decide) (fun c1 => ?_) (fun c1 => ?_)
  · rw [if_neg c1] at h
    refine x_run C e_X11_extend_2 e_X11_extend_2_k (pc' := 11) (lv' := [(0, .int a1), (1, .int a2)]) (st' := [.int 1, .int a2]) (σ' := (M, L)) rfl ⟨trivial, trivial, trivial⟩ ?_
    refine x_icmp_ne C (show decode cX11_extend 11 = .ok (.if_icmp .ne 8, 3) from by decide +kernel) (tgt := 19) (by decide) (fun c2 => ?_) (fun c2 => ?_)
    · rw [if_neg c2] at h
      refine x_run C e_X11_extend_3 e_X11_extend_3_k (pc' := 20) (lv' := [(0, .int a1), (1, .int a2)]) (st' := [.int a1]) (σ' := (M, L)) rfl ⟨trivial, trivial⟩ ?_
      subst h
      exact x_iret C (show decode cX11_extend 20 = .ok (.ireturn, 1) from by decide +kernel) (x_finI rfl ⟨⟨rfl, rfl⟩, trivial, trivial⟩) (Nat.le_refl 0) (Nat.le_refl 0)
    · rw [if_pos c2] at h
      have g3 : xrg 1 1 a2 := (x_c_eq (x_rgt a2) (x_rgc (x := 1) (k := 1) (by decide)) c2).1
      refine x_run C e_X11_extend_4 e_X11_extend_4_k (pc' := 16) (lv' := [(0, .int a1), (1, .int a2)]) (st' := [.int a1.toInt16.toInt32]) (σ' := (M, L)) rfl ⟨trivial, trivial, trivial⟩ ?_
      refine x_goto C (show decode cX11_extend 16 = .ok (.goto 4, 3) from by decide +kernel) (tgt := 20) (by decide) ?_
      subst h
      exact x_iret C (show decode cX11_extend 20 = .ok (.ireturn, 1) from by decide +kernel) (x_finI rfl ⟨⟨rfl, rfl⟩, trivial, trivial⟩) (Nat.le_refl 0) (Nat.le_refl 0)
  · rw [if_pos c1] at h
    have g4 : xrg 0 0 a2 := (x_c_eq (x_rgt a2) (x_rgc (x := 0) (k := 0) (by decide)) c1).1
    refine x_run C e_X11_extend_5 e_X11_extend_5_k (pc' := 6) (lv' := [(0, .int a1), (1, .int a2)]) (st' := [.int a1.toInt8.toInt32]) (σ' := (M, L)) rfl ⟨trivial, trivial, trivial⟩ ?_
    refine x_goto C (show decode cX11_extend 6 = .ok (.goto 14, 3) from by decide +kernel) (tgt := 20) (by decide) ?_
    subst h
    exact x_iret C (show decode cX11_extend 20 = .ok (.ireturn, 1) from by decide +kernel) (x_finI rfl ⟨⟨rfl, rfl⟩, trivial, trivial⟩) (Nat.le_refl 0) (Nat.le_refl 0)
-- X11_store
def e_X11_store_1 : List xI := [(0, .aload_n 0, 1, .null), (1, .getfield 107, 3, .null), (4, .bipush 16, 2, .int 16)]
theorem e_X11_store_1_k : e_X11_store_1.all (fun q => xokB cX11_store q && xokL q) = true := by decide +kernel
def e_X11_store_2 : List xI := [(27, .aload_n 0, 1, .null), (28, .getfield 107, 3, .null), (31, .bipush 8, 2, .int 8)]
theorem e_X11_store_2_k : e_X11_store_2.all (fun q => xokB cX11_store q && xokL q) = true := by decide +kernel
def e_X11_store_3 : List xI := [(36, .aload_n 0, 1, .null), (37, .getfield 7, 3, .null), (40, .aload_n 0, 1, .null), (41, .getfield 107, 3, .null), (44, .aload_n 0, 1, .null), (45, .getfield 7, 3, .null), (48, .aload_n 0, 1, .null), (49, .getfield 107, 3, .null), (52, .iaload, 1, .null), (53, .iload_n 1, 1, .null)]
theorem e_X11_store_3_k : e_X11_store_3.all (fun q => xokB cX11_store q && xokL q) = true := by decide +kernel
def e_X11_store_4 : List xI := [(57, .iconst (-1), 1, .int (-1)), (58, .ixor, 1, .null), (59, .iand, 1, .null), (60, .iload_n 2, 1, .null), (61, .iload_n 1, 1, .null)]
theorem e_X11_store_4_k : e_X11_store_4.all (fun q => xokB cX11_store q && xokL q) = true := by decide +kernel
def e_X11_store_5 : List xI := [(65, .iand, 1, .null), (66, .ior, 1, .null), (67, .iastore, 1, .null)]
theorem e_X11_store_5_k : e_X11_store_5.all (fun q => xokB cX11_store q && xokL q) = true := by decide +kernel
def e_X11_store_6 : List xI := [(9, .aload_n 0, 1, .null), (10, .aload_n 0, 1, .null), (11, .getfield 110, 3, .null), (14, .iload_n 1, 1, .null), (15, .iload_n 2, 1, .null), (16, .iload_n 1, 1, .null)]
theorem e_X11_store_6_k : e_X11_store_6.all (fun q => xokB cX11_store q && xokL q) = true := by decide +kernel
def e_X11_store_7 : List xI := [(20, .iand, 1, .null)]
theorem e_X11_store_7_k : e_X11_store_7.all (fun q => xokB cX11_store q && xokL q) = true := by decide +kernel
abbrev P_X11_store (r : St) (L : Nat → Nat → Int64) : Option Value → xG → Prop := fun v σ' => PoV r L v σ' ∧ Inv INVM r
abbrev R_X11_store : Room := { frames := 3, cells := 0, slots := 0, locals := 74 }
abbrev C_X11_store (l : Launch) (r : St) (L : Nat → Nat → Int64) (V : XJ) : Prop := XC l yX11_store.cls yX11_store.name cX11_store 3 R_X11_store 0 0 fl_X11 kc_X11 LAY.length (xfin none LAY (P_X11_store r L)) V
def f_X11_store (a1 : Int32) (a2 : Int32) (M : St) : St := (if (M 14 25) = 16 then (xb (f_X11_write (M 14 26) a1 (a2 &&& (f_X11_mask a1)) M) fun q16 => q16) else (if 8 ≤ (M 14 25) then M else (xup M 15 (M 14 25).toNatClampNeg (((M 15 (M 14 25).toNatClampNeg) &&& ((f_X11_mask a1) ^^^ (-1))) ||| (a2 &&& (f_X11_mask a1))))))
set_option maxRecDepth 20000 in
set_option maxHeartbeats 4000000 in
theorem k_X11_store (l : Launch) (a1 : Int32) (a2 : Int32) (M : St) (L : Nat → Nat → Int64) (hI : Inv INVM M) : XM l yX11_store cX11_store 3 none R_X11_store LAY [.ref 14, .int a1, .int a2] (M, L) (P_X11_store (f_X11_store a1 a2 M) L) := by
  refine XM.of (by decide) (Nat.le_of_ble_eq_true rfl) LAY_in cl_ok fl_X11_ok kc_X11_ok (fun V C => ?_)
  obtain ⟨r, h⟩ : ∃ r, f_X11_store a1 a2 M = r := ⟨_, rfl⟩
  rw [h] at C
  change C_X11_store l r L V at C
  unfold f_X11_store at h
  show V 0 0 0 [(0, .ref 14), (1, .int a1), (2, .int a2)] [] LAY (M, L)
  refine x_run C e_X11_store_1 e_X11_store_1_k (pc' := 6) (lv' := [(0, .ref 14), (1, .int a1), (2, .int a2)]) (st' := [.int 16, .int (M 14 25)]) (σ' := (M, L)) rfl ⟨trivial, trivial, trivial, trivial⟩ ?_
  refine x_icmp_ne C (show decode cX11_store 6 = .ok (.if_icmp .ne 21, 3) from by decide +kernel) (tgt := 27) (by decide) (fun c1 => ?_) (fun c1 => ?_)
  · rw [if_neg c1] at h
    refine x_run C e_X11_store_2 e_X11_store_2_k (pc' := 33) (lv' := [(0, .ref 14), (1, .int a1), (2, .int a2)]) (st' := [.int 8, .int (M 14 25)]) (σ' := (M, L)) rfl ⟨trivial, trivial, trivial, trivial⟩ ?_
    refine x_icmp_ge C (show decode cX11_store 33 = .ok (.if_icmp .ge 35, 3) from by decide +kernel) (tgt := 68) (by decide) (fun c2 => ?_) (fun c2 => ?_)
    · rw [if_pos c2] at h
      have g3 : xrg 8 17 (M 14 25) := (x_c_le (x_rgc (x := 8) (k := 8) (by decide)) (hI.at 2 rfl) c2).2
      subst h
      exact x_vret C (show decode cX11_store 68 = .ok (.return_, 1) from by decide +kernel) (x_finV ⟨⟨rfl, rfl⟩, hI⟩) (Nat.le_refl 0) (Nat.le_refl 0)
    · rw [if_neg c2] at h
      have g4 : xrg 0 7 (M 14 25) := (x_c_nle (x_rgc (x := 8) (k := 8) (by decide)) (hI.at 2 rfl) c2).2
      refine x_run C e_X11_store_3 e_X11_store_3_k (pc' := 54) (lv' := [(0, .ref 14), (1, .int a1), (2, .int a2)]) (st' := [.int a1, .int (M 15 (M 14 25).toNatClampNeg), .int (M 14 25), .ref 15]) (σ' := (M, L)) rfl ⟨trivial, trivial, trivial, trivial, trivial, trivial, trivial, trivial, (x_rgv g4 (by decide) (by decide)), trivial, trivial⟩ ?_
      refine x_callS C (rest := [.int (M 15 (M 14 25).toNatClampNeg), .int (M 14 25), .ref 15]) (avs := [.int a1]) (k_X11_mask l a1 M L) yoX11_mask ml_X11_122 rfl ⟨Nat.zero_le _, Nat.zero_le _⟩ (show decode cX11_store 54 = .ok (.invokestatic 122, 3) from by decide +kernel) rfl (fun v σ' hPo => ?_)
      obtain ⟨⟨rfl, rfl⟩, g6, -⟩ := hPo
      show V 0 0 57 [(0, .ref 14), (1, .int a1), (2, .int a2)] [.int (f_X11_mask a1), .int (M 15 (M 14 25).toNatClampNeg), .int (M 14 25), .ref 15] LAY (M, L)
      refine x_run C e_X11_store_4 e_X11_store_4_k (pc' := 62) (lv' := [(0, .ref 14), (1, .int a1), (2, .int a2)]) (st' := [.int a1, .int a2, .int ((M 15 (M 14 25).toNatClampNeg) &&& ((f_X11_mask a1) ^^^ (-1))), .int (M 14 25), .ref 15]) (σ' := (M, L)) rfl ⟨trivial, trivial, trivial, trivial, trivial, trivial⟩ ?_
      refine x_callS C (rest := [.int a2, .int ((M 15 (M 14 25).toNatClampNeg) &&& ((f_X11_mask a1) ^^^ (-1))), .int (M 14 25), .ref 15]) (avs := [.int a1]) (k_X11_mask l a1 M L) yoX11_mask ml_X11_122 rfl ⟨Nat.zero_le _, Nat.zero_le _⟩ (show decode cX11_store 62 = .ok (.invokestatic 122, 3) from by decide +kernel) rfl (fun v σ' hPo => ?_)
      obtain ⟨⟨rfl, rfl⟩, g9, -⟩ := hPo
      show V 0 0 65 [(0, .ref 14), (1, .int a1), (2, .int a2)] [.int (f_X11_mask a1), .int a2, .int ((M 15 (M 14 25).toNatClampNeg) &&& ((f_X11_mask a1) ^^^ (-1))), .int (M 14 25), .ref 15] LAY (M, L)
      refine x_run C e_X11_store_5 e_X11_store_5_k (pc' := 68) (lv' := [(0, .ref 14), (1, .int a1), (2, .int a2)]) (st' := []) (σ' := ((xup M 15 (M 14 25).toNatClampNeg (((M 15 (M 14 25).toNatClampNeg) &&& ((f_X11_mask a1) ^^^ (-1))) ||| (a2 &&& (f_X11_mask a1)))), L)) rfl ⟨trivial, trivial, (x_rgv g4 (by decide) (by decide)), trivial⟩ ?_
      have hI11 : Inv INVM (xup M 15 (M 14 25).toNatClampNeg (((M 15 (M 14 25).toNatClampNeg) &&& ((f_X11_mask a1) ^^^ (-1))) ||| (a2 &&& (f_X11_mask a1)))) := (hI.arr 15 ((M 14 25).toNatClampNeg) (((M 15 (M 14 25).toNatClampNeg) &&& ((f_X11_mask a1) ^^^ (-1))) ||| (a2 &&& (f_X11_mask a1))) (by decide))
      subst h
      exact x_vret C (show decode cX11_store 68 = .ok (.return_, 1) from by decide +kernel) (x_finV ⟨⟨rfl, rfl⟩, hI11⟩) (Nat.le_refl 0) (Nat.le_refl 0)
  · rw [if_pos c1] at h
    have g12 : xrg 16 16 (M 14 25) := (x_c_eq (hI.at 2 rfl) (x_rgc (x := 16) (k := 16) (by decide)) c1).1
    refine x_run C e_X11_store_6 e_X11_store_6_k (pc' := 17) (lv' := [(0, .ref 14), (1, .int a1), (2, .int a2)]) (st' := [.int a1, .int a2, .int a1, .int (M 14 26), .ref 14]) (σ' := (M, L)) rfl ⟨trivial, trivial, trivial, trivial, trivial, trivial, trivial⟩ ?_
    refine x_callS C (rest := [.int a2, .int a1, .int (M 14 26), .ref 14]) (avs := [.int a1]) (k_X11_mask l a1 M L) yoX11_mask ml_X11_122 rfl ⟨Nat.zero_le _, Nat.zero_le _⟩ (show decode cX11_store 17 = .ok (.invokestatic 122, 3) from by decide +kernel) rfl (fun v σ' hPo => ?_)
    obtain ⟨⟨rfl, rfl⟩, g14, -⟩ := hPo
    show V 0 0 20 [(0, .ref 14), (1, .int a1), (2, .int a2)] [.int (f_X11_mask a1), .int a2, .int a1, .int (M 14 26), .ref 14] LAY (M, L)
    refine x_run C e_X11_store_7 e_X11_store_7_k (pc' := 21) (lv' := [(0, .ref 14), (1, .int a1), (2, .int a2)]) (st' := [.int (a2 &&& (f_X11_mask a1)), .int a1, .int (M 14 26), .ref 14]) (σ' := (M, L)) rfl ⟨trivial, trivial⟩ ?_
    refine x_callV C (k := 14) (ci := 8) (rest := []) (avs := [.int (M 14 26), .int a1, .int (a2 &&& (f_X11_mask a1))]) (k_X11_write l (M 14 26) a1 (a2 &&& (f_X11_mask a1)) M L hI) yoX11_write ml_X11_99 rfl rfl rfl rfl ⟨Nat.zero_le _, Nat.zero_le _⟩ (show decode cX11_store 21 = .ok (.invokevirtual 99, 3) from by decide +kernel) rfl (fun v σ' hPo => ?_)
    obtain ⟨⟨rfl, rfl⟩, hI18⟩ := hPo
    generalize hq16 : f_X11_write (M 14 26) a1 (a2 &&& (f_X11_mask a1)) M = q16 at h hI18 ⊢
    have h := xb_eq h
    show V 0 0 24 [(0, .ref 14), (1, .int a1), (2, .int a2)] [] LAY (q16, L)
    refine x_goto C (show decode cX11_store 24 = .ok (.goto 44, 3) from by decide +kernel) (tgt := 68) (by decide) ?_
    subst h
    exact x_vret C (show decode cX11_store 68 = .ok (.return_, 1) from by decide +kernel) (x_finV ⟨⟨rfl, rfl⟩, hI18⟩) (Nat.le_refl 0) (Nat.le_refl 0)
-- X11_flag
def e_X11_flag_1 : List xI := [(0, .aload_n 0, 1, .null), (1, .iload_n 2, 1, .null)]
theorem e_X11_flag_1_k : e_X11_flag_1.all (fun q => xokB cX11_flag q && xokL q) = true := by decide +kernel
def e_X11_flag_2 : List xI := [(14, .aload_n 0, 1, .null), (15, .getfield 13, 3, .null), (18, .iload_n 1, 1, .null), (19, .iconst (-1), 1, .int (-1)), (20, .ixor, 1, .null), (21, .iand, 1, .null)]
theorem e_X11_flag_2_k : e_X11_flag_2.all (fun q => xokB cX11_flag q && xokL q) = true := by decide +kernel
def e_X11_flag_3 : List xI := [(5, .aload_n 0, 1, .null), (6, .getfield 13, 3, .null), (9, .iload_n 1, 1, .null), (10, .ior, 1, .null)]
theorem e_X11_flag_3_k : e_X11_flag_3.all (fun q => xokB cX11_flag q && xokL q) = true := by decide +kernel
def e_X11_flag_4 : List xI := [(22, .putfield 13, 3, .null)]
theorem e_X11_flag_4_k : e_X11_flag_4.all (fun q => xokB cX11_flag q && xokL q) = true := by decide +kernel
abbrev P_X11_flag (r : St) (L : Nat → Nat → Int64) : Option Value → xG → Prop := fun v σ' => PoV r L v σ' ∧ Inv INVM r
abbrev R_X11_flag : Room := { frames := 0, cells := 0, slots := 0, locals := 0 }
abbrev C_X11_flag (l : Launch) (r : St) (L : Nat → Nat → Int64) (V : XJ) : Prop := XC l yX11_flag.cls yX11_flag.name cX11_flag 3 R_X11_flag 0 0 fl_X11 kc_X11 LAY.length (xfin none LAY (P_X11_flag r L)) V
def f_X11_flag_22 (s0 : Int32) (M : St) : St := (xup M 14 2 s0)
def f_X11_flag (a1 : Int32) (a2 : Int32) (M : St) : St := (if a2 = 0 then f_X11_flag_22 ((M 14 2) &&& (a1 ^^^ (-1))) M else f_X11_flag_22 ((M 14 2) ||| a1) M)
set_option maxRecDepth 20000 in
set_option maxHeartbeats 4000000 in
theorem b_X11_flag_22 {l : Launch} {L : Nat → Nat → Int64} {V : XJ} (r : St) (C : C_X11_flag l r L V) (s0 : Int32) (M : St) (hI : Inv INVM M) (h : f_X11_flag_22 s0 M = r) : V 0 0 22 [] [.int s0, .ref 14] LAY (M, L) := by
  unfold f_X11_flag_22 at h
  refine x_run C e_X11_flag_4 e_X11_flag_4_k (pc' := 25) (lv' := []) (st' := []) (σ' := ((xup M 14 2 s0), L)) rfl ⟨trivial, trivial⟩ ?_
  have hI3 : Inv INVM (xup M 14 2 s0) := (hI.fld 14 2 s0 (by decide))
  subst h
  exact x_vret C (show decode cX11_flag 25 = .ok (.return_, 1) from by decide +kernel) (x_finV ⟨⟨rfl, rfl⟩, hI3⟩) (Nat.le_refl 0) (Nat.le_refl 0)
set_option maxRecDepth 20000 in
set_option maxHeartbeats 4000000 in
theorem k_X11_flag (l : Launch) (a1 : Int32) (a2 : Int32) (M : St) (L : Nat → Nat → Int64) (hI : Inv INVM M) : XM l yX11_flag cX11_flag 3 none R_X11_flag LAY [.ref 14, .int a1, .int a2] (M, L) (P_X11_flag (f_X11_flag a1 a2 M) L) := by
  refine XM.of (by decide) (Nat.le_of_ble_eq_true rfl) LAY_in cl_ok fl_X11_ok kc_X11_ok (fun V C => ?_)
  obtain ⟨r, h⟩ : ∃ r, f_X11_flag a1 a2 M = r := ⟨_, rfl⟩
  rw [h] at C
  change C_X11_flag l r L V at C
  unfold f_X11_flag at h
  show V 0 0 0 [(0, .ref 14), (1, .int a1), (2, .int a2)] [] LAY (M, L)
  refine x_run C e_X11_flag_1 e_X11_flag_1_k (pc' := 2) (lv' := [(0, .ref 14), (1, .int a1), (2, .int a2)]) (st' := [.int a2, .ref 14]) (σ' := (M, L)) rfl ⟨trivial, trivial, trivial⟩ ?_
  refine x_if_eq C (show decode cX11_flag 2 = .ok (.ifCond .eq 12, 3) from by decide +kernel) (tgt := 14) (by decide) (fun c1 => ?_) (fun c1 => ?_)
  · rw [if_pos c1] at h
    have g2 : xrg 0 0 a2 := (x_c_eq (x_rgt a2) (x_rgc (x := 0) (k := 0) (by decide)) c1).1
    refine x_run C e_X11_flag_2 e_X11_flag_2_k (pc' := 22) (lv' := [(0, .ref 14), (1, .int a1), (2, .int a2)]) (st' := [.int ((M 14 2) &&& (a1 ^^^ (-1))), .ref 14]) (σ' := (M, L)) rfl ⟨trivial, trivial, trivial, trivial, trivial, trivial, trivial⟩ ?_
    refine x_lv C [] rfl ?_
    exact b_X11_flag_22 r C ((M 14 2) &&& (a1 ^^^ (-1))) M hI h
  · rw [if_neg c1] at h
    refine x_run C e_X11_flag_3 e_X11_flag_3_k (pc' := 11) (lv' := [(0, .ref 14), (1, .int a1), (2, .int a2)]) (st' := [.int ((M 14 2) ||| a1), .ref 14]) (σ' := (M, L)) rfl ⟨trivial, trivial, trivial, trivial, trivial⟩ ?_
    refine x_goto C (show decode cX11_flag 11 = .ok (.goto 11, 3) from by decide +kernel) (tgt := 22) (by decide) ?_
    refine x_lv C [] rfl ?_
    exact b_X11_flag_22 r C ((M 14 2) ||| a1) M hI h
-- X11_test
def e_X11_test_1 : List xI := [(0, .iload_n 2, 1, .null), (1, .iload_n 1, 1, .null)]
theorem e_X11_test_1_k : e_X11_test_1.all (fun q => xokB cX11_test q && xokL q) = true := by decide +kernel
def e_X11_test_2 : List xI := [(5, .istore_n 3, 1, .null), (6, .aload_n 0, 1, .null), (7, .bipush 8, 2, .int 8), (9, .iload_n 3, 1, .null)]
theorem e_X11_test_2_k : e_X11_test_2.all (fun q => xokB cX11_test q && xokL q) = true := by decide +kernel
def e_X11_test_3 : List xI := [(17, .iconst 0, 1, .int 0)]
theorem e_X11_test_3_k : e_X11_test_3.all (fun q => xokB cX11_test q && xokL q) = true := by decide +kernel
def e_X11_test_4 : List xI := [(13, .iconst 1, 1, .int 1)]
theorem e_X11_test_4_k : e_X11_test_4.all (fun q => xokB cX11_test q && xokL q) = true := by decide +kernel
def e_X11_test_5 : List xI := [(21, .aload_n 0, 1, .null), (22, .iconst 4, 1, .int 4), (23, .iload_n 3, 1, .null)]
theorem e_X11_test_5_k : e_X11_test_5.all (fun q => xokB cX11_test q && xokL q) = true := by decide +kernel
def e_X11_test_6 : List xI := [(31, .iconst 0, 1, .int 0)]
theorem e_X11_test_6_k : e_X11_test_6.all (fun q => xokB cX11_test q && xokL q) = true := by decide +kernel
def e_X11_test_7 : List xI := [(27, .iconst 1, 1, .int 1)]
theorem e_X11_test_7_k : e_X11_test_7.all (fun q => xokB cX11_test q && xokL q) = true := by decide +kernel
def e_X11_test_8 : List xI := [(35, .aload_n 0, 1, .null), (36, .iconst 3, 1, .int 3), (37, .iconst 0, 1, .int 0)]
theorem e_X11_test_8_k : e_X11_test_8.all (fun q => xokB cX11_test q && xokL q) = true := by decide +kernel
abbrev P_X11_test (r : St) (L : Nat → Nat → Int64) : Option Value → xG → Prop := fun v σ' => PoV r L v σ' ∧ Inv INVM r
abbrev R_X11_test : Room := { frames := 1, cells := 0, slots := 0, locals := 22 }
abbrev C_X11_test (l : Launch) (r : St) (L : Nat → Nat → Int64) (V : XJ) : Prop := XC l yX11_test.cls yX11_test.name cX11_test 4 R_X11_test 0 0 fl_X11 kc_X11 LAY.length (xfin none LAY (P_X11_test r L)) V
def f_X11_test_32 (s0 : Int32) (s1 : Int32) (M : St) : St := (xb (f_X11_flag s1 s0 M) fun q12 => (xb (f_X11_flag 3 0 q12) fun q15 => q15))
def f_X11_test_18 (x3 : Int32) (s0 : Int32) (s1 : Int32) (M : St) : St := (xb (f_X11_flag s1 s0 M) fun q7 => (if x3 = 0 then f_X11_test_32 1 4 q7 else f_X11_test_32 0 4 q7))
def f_X11_test (a1 : Int32) (a2 : Int32) (M : St) : St := (if 0 ≤ (f_X11_extend a2 a1) then f_X11_test_18 (f_X11_extend a2 a1) 0 8 M else f_X11_test_18 (f_X11_extend a2 a1) 1 8 M)
set_option maxRecDepth 20000 in
set_option maxHeartbeats 4000000 in
theorem b_X11_test_32 {l : Launch} {L : Nat → Nat → Int64} {V : XJ} (r : St) (C : C_X11_test l r L V) (s0 : Int32) (s1 : Int32) (M : St) (ws0 : xrg 0 1 s0) (ws1 : xrg 4 4 s1) (hI : Inv INVM M) (h : f_X11_test_32 s0 s1 M = r) : V 0 0 32 [(0, .ref 14)] [.int s0, .int s1, .ref 14] LAY (M, L) := by
  unfold f_X11_test_32 at h
  refine x_callV C (k := 14) (ci := 8) (rest := []) (avs := [.int s1, .int s0]) (k_X11_flag l s1 s0 M L hI) yoX11_flag ml_X11_135 rfl rfl rfl rfl ⟨Nat.zero_le _, Nat.zero_le _⟩ (show decode cX11_test 32 = .ok (.invokevirtual 135, 3) from by decide +kernel) rfl (fun v σ' hPo => ?_)
  obtain ⟨⟨rfl, rfl⟩, hI14⟩ := hPo
  generalize hq12 : f_X11_flag s1 s0 M = q12 at h hI14 ⊢
  have h := xb_eq h
  show V 0 0 35 [(0, .ref 14)] [] LAY (q12, L)
  refine x_run C e_X11_test_8 e_X11_test_8_k (pc' := 38) (lv' := [(0, .ref 14)]) (st' := [.int 0, .int 3, .ref 14]) (σ' := (q12, L)) rfl ⟨trivial, trivial, trivial, trivial⟩ ?_
  refine x_callV C (k := 14) (ci := 8) (rest := []) (avs := [.int 3, .int 0]) (k_X11_flag l 3 0 q12 L hI14) yoX11_flag ml_X11_135 rfl rfl rfl rfl ⟨Nat.zero_le _, Nat.zero_le _⟩ (show decode cX11_test 38 = .ok (.invokevirtual 135, 3) from by decide +kernel) rfl (fun v σ' hPo => ?_)
  obtain ⟨⟨rfl, rfl⟩, hI17⟩ := hPo
  generalize hq15 : f_X11_flag 3 0 q12 = q15 at h hI17 ⊢
  have h := xb_eq h
  show V 0 0 41 [(0, .ref 14)] [] LAY (q15, L)
  subst h
  exact x_vret C (show decode cX11_test 41 = .ok (.return_, 1) from by decide +kernel) (x_finV ⟨⟨rfl, rfl⟩, hI17⟩) (Nat.le_refl 0) (Nat.le_refl 0)
set_option maxRecDepth 20000 in
set_option maxHeartbeats 4000000 in
theorem b_X11_test_18 {l : Launch} {L : Nat → Nat → Int64} {V : XJ} (r : St) (C : C_X11_test l r L V) (x3 : Int32) (s0 : Int32) (s1 : Int32) (M : St) (ws0 : xrg 0 1 s0) (ws1 : xrg 8 8 s1) (hI : Inv INVM M) (h : f_X11_test_18 x3 s0 s1 M = r) : V 0 0 18 [(0, .ref 14), (3, .int x3)] [.int s0, .int s1, .ref 14] LAY (M, L) := by
  unfold f_X11_test_18 at h
  refine x_callV C (k := 14) (ci := 8) (rest := []) (avs := [.int s1, .int s0]) (k_X11_flag l s1 s0 M L hI) yoX11_flag ml_X11_135 rfl rfl rfl rfl ⟨Nat.zero_le _, Nat.zero_le _⟩ (show decode cX11_test 18 = .ok (.invokevirtual 135, 3) from by decide +kernel) rfl (fun v σ' hPo => ?_)
  obtain ⟨⟨rfl, rfl⟩, hI9⟩ := hPo
  generalize hq7 : f_X11_flag s1 s0 M = q7 at h hI9 ⊢
  have h := xb_eq h
  show V 0 0 21 [(0, .ref 14), (3, .int x3)] [] LAY (q7, L)
  refine x_run C e_X11_test_5 e_X11_test_5_k (pc' := 24) (lv' := [(0, .ref 14), (3, .int x3)]) (st' := [.int x3, .int 4, .ref 14]) (σ' := (q7, L)) rfl ⟨trivial, trivial, trivial, trivial⟩ ?_
  refine x_if_ne C (show decode cX11_test 24 = .ok (.ifCond .ne 7, 3) from by decide +kernel) (tgt := 31) (by decide) (fun c10 => ?_) (fun c10 => ?_)
  · rw [if_neg c10] at h
    refine x_run C e_X11_test_6 e_X11_test_6_k (pc' := 32) (lv' := [(0, .ref 14), (3, .int x3)]) (st' := [.int 0, .int 4, .ref 14]) (σ' := (q7, L)) rfl ⟨trivial, trivial⟩ ?_
    refine x_lv C [0] rfl ?_
    exact b_X11_test_32 r C 0 4 q7 (x_rgw (x_rgc (x := 0) (k := 0) (by decide)) (lo' := 0) (hi' := 1) (by decide) (by decide)) (x_rgc (x := 4) (k := 4) (by decide)) hI9 h
  · rw [if_pos c10] at h
    have g11 : xrg 0 0 x3 := (x_c_eq (x_rgt x3) (x_rgc (x := 0) (k := 0) (by decide)) c10).1
    refine x_run C e_X11_test_7 e_X11_test_7_k (pc' := 28) (lv' := [(0, .ref 14), (3, .int x3)]) (st' := [.int 1, .int 4, .ref 14]) (σ' := (q7, L)) rfl ⟨trivial, trivial⟩ ?_
    refine x_goto C (show decode cX11_test 28 = .ok (.goto 4, 3) from by decide +kernel) (tgt := 32) (by decide) ?_
    refine x_lv C [0] rfl ?_
    exact b_X11_test_32 r C 1 4 q7 (x_rgw (x_rgc (x := 1) (k := 1) (by decide)) (lo' := 0) (hi' := 1) (by decide) (by decide)) (x_rgc (x := 4) (k := 4) (by decide)) hI9 h
set_option maxRecDepth 20000 in
set_option maxHeartbeats 4000000 in
theorem k_X11_test (l : Launch) (a1 : Int32) (a2 : Int32) (M : St) (L : Nat → Nat → Int64) (hI : Inv INVM M) : XM l yX11_test cX11_test 4 none R_X11_test LAY [.ref 14, .int a1, .int a2] (M, L) (P_X11_test (f_X11_test a1 a2 M) L) := by
  refine XM.of (by decide) (Nat.le_of_ble_eq_true rfl) LAY_in cl_ok fl_X11_ok kc_X11_ok (fun V C => ?_)
  obtain ⟨r, h⟩ : ∃ r, f_X11_test a1 a2 M = r := ⟨_, rfl⟩
  rw [h] at C
  change C_X11_test l r L V at C
  unfold f_X11_test at h
  show V 0 0 0 [(0, .ref 14), (1, .int a1), (2, .int a2)] [] LAY (M, L)
  refine x_run C e_X11_test_1 e_X11_test_1_k (pc' := 2) (lv' := [(0, .ref 14), (1, .int a1), (2, .int a2)]) (st' := [.int a1, .int a2]) (σ' := (M, L)) rfl ⟨trivial, trivial, trivial⟩ ?_
  refine x_callS C (rest := []) (avs := [.int a2, .int a1]) (k_X11_extend l a2 a1 M L) yoX11_extend ml_X11_131 rfl ⟨Nat.zero_le _, Nat.zero_le _⟩ (show decode cX11_test 2 = .ok (.invokestatic 131, 3) from by decide +kernel) rfl (fun v σ' hPo => ?_)
  obtain ⟨⟨rfl, rfl⟩, g2, -⟩ := hPo
  show V 0 0 5 [(0, .ref 14), (1, .int a1), (2, .int a2)] [.int (f_X11_extend a2 a1)] LAY (M, L)
  refine x_run C e_X11_test_2 e_X11_test_2_k (pc' := 10) (lv' := [(3, .int (f_X11_extend a2 a1)), (0, .ref 14), (1, .int a1), (2, .int a2)]) (st' := [.int (f_X11_extend a2 a1), .int 8, .ref 14]) (σ' := (M, L)) rfl ⟨trivial, trivial, trivial, trivial, trivial⟩ ?_
  refine x_if_ge C (show decode cX11_test 10 = .ok (.ifCond .ge 7, 3) from by decide +kernel) (tgt := 17) (by decide) (fun c4 => ?_) (fun c4 => ?_)
  · rw [if_pos c4] at h
    have g5 : xrg 0 2147483647 (f_X11_extend a2 a1) := (x_c_le (x_rgc (x := 0) (k := 0) (by decide)) (x_rgt (f_X11_extend a2 a1)) c4).2
    refine x_run C e_X11_test_3 e_X11_test_3_k (pc' := 18) (lv' := [(3, .int (f_X11_extend a2 a1)), (0, .ref 14), (1, .int a1), (2, .int a2)]) (st' := [.int 0, .int 8, .ref 14]) (σ' := (M, L)) rfl ⟨trivial, trivial⟩ ?_
    refine x_lv C [1, 0] rfl ?_
    exact b_X11_test_18 r C (f_X11_extend a2 a1) 0 8 M (x_rgw (x_rgc (x := 0) (k := 0) (by decide)) (lo' := 0) (hi' := 1) (by decide) (by decide)) (x_rgc (x := 8) (k := 8) (by decide)) hI h
  · rw [if_neg c4] at h
    have g6 : xrg (-2147483648) (-1) (f_X11_extend a2 a1) := (x_c_nle (x_rgc (x := 0) (k := 0) (by decide)) (x_rgt (f_X11_extend a2 a1)) c4).2
    refine x_run C e_X11_test_4 e_X11_test_4_k (pc' := 14) (lv' := [(3, .int (f_X11_extend a2 a1)), (0, .ref 14), (1, .int a1), (2, .int a2)]) (st' := [.int 1, .int 8, .ref 14]) (σ' := (M, L)) rfl ⟨trivial, trivial⟩ ?_
    refine x_goto C (show decode cX11_test 14 = .ok (.goto 4, 3) from by decide +kernel) (tgt := 18) (by decide) ?_
    refine x_lv C [1, 0] rfl ?_
    exact b_X11_test_18 r C (f_X11_extend a2 a1) 1 8 M (x_rgw (x_rgc (x := 1) (k := 1) (by decide)) (lo' := 0) (hi' := 1) (by decide) (by decide)) (x_rgc (x := 8) (k := 8) (by decide)) hI h
-- X11_move
def e_X11_move_1 : List xI := [(0, .aload_n 0, 1, .null), (1, .iload_n 2, 1, .null), (2, .iload_n 1, 1, .null)]
theorem e_X11_move_1_k : e_X11_move_1.all (fun q => xokB cX11_move q && xokL q) = true := by decide +kernel
def e_X11_move_2 : List xI := [(6, .istore 4, 2, .null), (8, .aload_n 0, 1, .null), (9, .iload_n 3, 1, .null), (10, .iload_n 1, 1, .null)]
theorem e_X11_move_2_k : e_X11_move_2.all (fun q => xokB cX11_move q && xokL q) = true := by decide +kernel
def e_X11_move_3 : List xI := [(14, .aload_n 0, 1, .null), (15, .getfield 107, 3, .null), (18, .bipush 7, 2, .int 7)]
theorem e_X11_move_3_k : e_X11_move_3.all (fun q => xokB cX11_move q && xokL q) = true := by decide +kernel
def e_X11_move_4 : List xI := [(23, .aload_n 0, 1, .null), (24, .getfield 107, 3, .null), (27, .bipush 16, 2, .int 16)]
theorem e_X11_move_4_k : e_X11_move_4.all (fun q => xokB cX11_move q && xokL q) = true := by decide +kernel
def e_X11_move_5 : List xI := [(32, .aload_n 0, 1, .null), (33, .getfield 7, 3, .null), (36, .aload_n 0, 1, .null), (37, .getfield 107, 3, .null), (40, .iload 4, 2, .null), (42, .iload_n 1, 1, .null)]
theorem e_X11_move_5_k : e_X11_move_5.all (fun q => xokB cX11_move q && xokL q) = true := by decide +kernel
def e_X11_move_6 : List xI := [(46, .iastore, 1, .null)]
theorem e_X11_move_6_k : e_X11_move_6.all (fun q => xokB cX11_move q && xokL q) = true := by decide +kernel
def e_X11_move_7 : List xI := [(48, .aload_n 0, 1, .null), (49, .iload_n 1, 1, .null), (50, .iload 4, 2, .null)]
theorem e_X11_move_7_k : e_X11_move_7.all (fun q => xokB cX11_move q && xokL q) = true := by decide +kernel
def e_X11_move_8 : List xI := [(55, .aload_n 0, 1, .null), (56, .iload_n 1, 1, .null), (57, .iload 4, 2, .null)]
theorem e_X11_move_8_k : e_X11_move_8.all (fun q => xokB cX11_move q && xokL q) = true := by decide +kernel
abbrev P_X11_move (r : St) (L : Nat → Nat → Int64) : Option Value → xG → Prop := fun v σ' => PoV r L v σ' ∧ Inv INVM r
abbrev R_X11_move : Room := { frames := 8, cells := 0, slots := 0, locals := 188 }
abbrev C_X11_move (l : Launch) (r : St) (L : Nat → Nat → Int64) (V : XJ) : Prop := XC l yX11_move.cls yX11_move.name cX11_move 5 R_X11_move 0 0 fl_X11 kc_X11 LAY.length (xfin none LAY (P_X11_move r L)) V
def f_X11_move_48 (x1 : Int32) (x4 : Int32) (M : St) : St := (xb (f_X11_store x1 x4 M) fun q17 => (xb (f_X11_test x1 x4 q17) fun q20 => q20))
def f_X11_move (a1 : Int32) (a2 : Int32) (a3 : Int32) (M : St) : St := (xb (f_X11_loadAt a2 a1 M) fun q1 => (xb (f_X11_find a3 a1 q1.2) fun q4 => (if (q4 14 25) ≤ 7 then f_X11_move_48 a1 q1.1 q4 else (if 16 ≤ (q4 14 25) then f_X11_move_48 a1 q1.1 q4 else (xup q4 15 (q4 14 25).toNatClampNeg (f_X11_extend q1.1 a1))))))
set_option maxRecDepth 20000 in
set_option maxHeartbeats 4000000 in
theorem b_X11_move_48 {l : Launch} {L : Nat → Nat → Int64} {V : XJ} (r : St) (C : C_X11_move l r L V) (x1 : Int32) (x4 : Int32) (M : St) (hI : Inv INVM M) (h : f_X11_move_48 x1 x4 M = r) : V 0 0 48 [(0, .ref 14), (1, .int x1), (4, .int x4)] [] LAY (M, L) := by
  unfold f_X11_move_48 at h
  refine x_run C e_X11_move_7 e_X11_move_7_k (pc' := 52) (lv' := [(0, .ref 14), (1, .int x1), (4, .int x4)]) (st' := [.int x4, .int x1, .ref 14]) (σ' := (M, L)) rfl ⟨trivial, trivial, trivial, trivial⟩ ?_
  refine x_callV C (k := 14) (ci := 8) (rest := []) (avs := [.int x1, .int x4]) (k_X11_store l x1 x4 M L hI) yoX11_store ml_X11_193 rfl rfl rfl rfl ⟨Nat.zero_le _, Nat.zero_le _⟩ (show decode cX11_move 52 = .ok (.invokevirtual 193, 3) from by decide +kernel) rfl (fun v σ' hPo => ?_)
  obtain ⟨⟨rfl, rfl⟩, hI19⟩ := hPo
  generalize hq17 : f_X11_store x1 x4 M = q17 at h hI19 ⊢
  have h := xb_eq h
  show V 0 0 55 [(0, .ref 14), (1, .int x1), (4, .int x4)] [] LAY (q17, L)
  refine x_run C e_X11_move_8 e_X11_move_8_k (pc' := 59) (lv' := [(0, .ref 14), (1, .int x1), (4, .int x4)]) (st' := [.int x4, .int x1, .ref 14]) (σ' := (q17, L)) rfl ⟨trivial, trivial, trivial, trivial⟩ ?_
  refine x_callV C (k := 14) (ci := 8) (rest := []) (avs := [.int x1, .int x4]) (k_X11_test l x1 x4 q17 L hI19) yoX11_test ml_X11_196 rfl rfl rfl rfl ⟨Nat.zero_le _, Nat.zero_le _⟩ (show decode cX11_move 59 = .ok (.invokevirtual 196, 3) from by decide +kernel) rfl (fun v σ' hPo => ?_)
  obtain ⟨⟨rfl, rfl⟩, hI22⟩ := hPo
  generalize hq20 : f_X11_test x1 x4 q17 = q20 at h hI22 ⊢
  have h := xb_eq h
  show V 0 0 62 [(0, .ref 14), (1, .int x1), (4, .int x4)] [] LAY (q20, L)
  subst h
  exact x_vret C (show decode cX11_move 62 = .ok (.return_, 1) from by decide +kernel) (x_finV ⟨⟨rfl, rfl⟩, hI22⟩) (Nat.le_refl 0) (Nat.le_refl 0)
set_option maxRecDepth 20000 in
set_option maxHeartbeats 4000000 in
theorem k_X11_move (l : Launch) (a1 : Int32) (a2 : Int32) (a3 : Int32) (M : St) (L : Nat → Nat → Int64) (hI : Inv INVM M) : XM l yX11_move cX11_move 5 none R_X11_move LAY [.ref 14, .int a1, .int a2, .int a3] (M, L) (P_X11_move (f_X11_move a1 a2 a3 M) L) := by
  refine XM.of (by decide) (Nat.le_of_ble_eq_true rfl) LAY_in cl_ok fl_X11_ok kc_X11_ok (fun V C => ?_)
  obtain ⟨r, h⟩ : ∃ r, f_X11_move a1 a2 a3 M = r := ⟨_, rfl⟩
  rw [h] at C
  change C_X11_move l r L V at C
  unfold f_X11_move at h
  show V 0 0 0 [(0, .ref 14), (1, .int a1), (2, .int a2), (3, .int a3)] [] LAY (M, L)
  refine x_run C e_X11_move_1 e_X11_move_1_k (pc' := 3) (lv' := [(0, .ref 14), (1, .int a1), (2, .int a2), (3, .int a3)]) (st' := [.int a1, .int a2, .ref 14]) (σ' := (M, L)) rfl ⟨trivial, trivial, trivial, trivial⟩ ?_
  refine x_callV C (k := 14) (ci := 8) (rest := []) (avs := [.int a2, .int a1]) (k_X11_loadAt l a2 a1 M L hI) yoX11_loadAt ml_X11_190 rfl rfl rfl rfl ⟨Nat.zero_le _, Nat.zero_le _⟩ (show decode cX11_move 3 = .ok (.invokevirtual 190, 3) from by decide +kernel) rfl (fun v σ' hPo => ?_)
  obtain ⟨⟨rfl, rfl⟩, g2, hI3⟩ := hPo
  generalize hq1 : f_X11_loadAt a2 a1 M = q1 at h g2 hI3 ⊢
  obtain ⟨r1, M1⟩ := q1
  have h := xb_eq h
  try dsimp only at h g2 hI3
  show V 0 0 6 [(0, .ref 14), (1, .int a1), (2, .int a2), (3, .int a3)] [.int r1] LAY (M1, L)
  refine x_run C e_X11_move_2 e_X11_move_2_k (pc' := 11) (lv' := [(4, .int r1), (0, .ref 14), (1, .int a1), (2, .int a2), (3, .int a3)]) (st' := [.int a1, .int a3, .ref 14]) (σ' := (M1, L)) rfl ⟨trivial, trivial, trivial, trivial, trivial⟩ ?_
  refine x_callV C (k := 14) (ci := 8) (rest := []) (avs := [.int a3, .int a1]) (k_X11_find l a3 a1 M1 L hI3) yoX11_find ml_X11_125 rfl rfl rfl rfl ⟨Nat.zero_le _, Nat.zero_le _⟩ (show decode cX11_move 11 = .ok (.invokevirtual 125, 3) from by decide +kernel) rfl (fun v σ' hPo => ?_)
  obtain ⟨⟨rfl, rfl⟩, hI6⟩ := hPo
  generalize hq4 : f_X11_find a3 a1 M1 = q4 at h hI6 ⊢
  have h := xb_eq h
  show V 0 0 14 [(4, .int r1), (0, .ref 14), (1, .int a1), (2, .int a2), (3, .int a3)] [] LAY (q4, L)
  refine x_run C e_X11_move_3 e_X11_move_3_k (pc' := 20) (lv' := [(4, .int r1), (0, .ref 14), (1, .int a1), (2, .int a2), (3, .int a3)]) (st' := [.int 7, .int (q4 14 25)]) (σ' := (q4, L)) rfl ⟨trivial, trivial, trivial, trivial⟩ ?_
  refine x_icmp_le C (show decode cX11_move 20 = .ok (.if_icmp .le 28, 3) from by decide +kernel) (tgt := 48) (by decide) (fun c7 => ?_) (fun c7 => ?_)
  · rw [if_pos c7] at h
    have g8 : xrg 0 7 (q4 14 25) := (x_c_le (hI6.at 2 rfl) (x_rgc (x := 7) (k := 7) (by decide)) c7).1
    refine x_lv C [1, 2, 0] rfl ?_
    exact b_X11_move_48 r C a1 r1 q4 hI6 h
  · rw [if_neg c7] at h
    have g9 : xrg 8 17 (q4 14 25) := (x_c_nle (hI6.at 2 rfl) (x_rgc (x := 7) (k := 7) (by decide)) c7).1
    refine x_run C e_X11_move_4 e_X11_move_4_k (pc' := 29) (lv' := [(4, .int r1), (0, .ref 14), (1, .int a1), (2, .int a2), (3, .int a3)]) (st' := [.int 16, .int (q4 14 25)]) (σ' := (q4, L)) rfl ⟨trivial, trivial, trivial, trivial⟩ ?_
    refine x_icmp_ge C (show decode cX11_move 29 = .ok (.if_icmp .ge 19, 3) from by decide +kernel) (tgt := 48) (by decide) (fun c10 => ?_) (fun c10 => ?_)
    · rw [if_pos c10] at h
      have g11 : xrg 16 17 (q4 14 25) := (x_c_le (x_rgc (x := 16) (k := 16) (by decide)) g9 c10).2
      refine x_lv C [1, 2, 0] rfl ?_
      exact b_X11_move_48 r C a1 r1 q4 hI6 h
    · rw [if_neg c10] at h
      have g12 : xrg 8 15 (q4 14 25) := (x_c_nle (x_rgc (x := 16) (k := 16) (by decide)) g9 c10).2
      refine x_run C e_X11_move_5 e_X11_move_5_k (pc' := 43) (lv' := [(4, .int r1), (0, .ref 14), (1, .int a1), (2, .int a2), (3, .int a3)]) (st' := [.int a1, .int r1, .int (q4 14 25), .ref 15]) (σ' := (q4, L)) rfl ⟨trivial, trivial, trivial, trivial, trivial, trivial, trivial⟩ ?_
      refine x_callS C (rest := [.int (q4 14 25), .ref 15]) (avs := [.int r1, .int a1]) (k_X11_extend l r1 a1 q4 L) yoX11_extend ml_X11_131 rfl ⟨Nat.zero_le _, Nat.zero_le _⟩ (show decode cX11_move 43 = .ok (.invokestatic 131, 3) from by decide +kernel) rfl (fun v σ' hPo => ?_)
      obtain ⟨⟨rfl, rfl⟩, g14, -⟩ := hPo
      show V 0 0 46 [(4, .int r1), (0, .ref 14), (1, .int a1), (2, .int a2), (3, .int a3)] [.int (f_X11_extend r1 a1), .int (q4 14 25), .ref 15] LAY (q4, L)
      refine x_run C e_X11_move_6 e_X11_move_6_k (pc' := 47) (lv' := [(4, .int r1), (0, .ref 14), (1, .int a1), (2, .int a2), (3, .int a3)]) (st' := []) (σ' := ((xup q4 15 (q4 14 25).toNatClampNeg (f_X11_extend r1 a1)), L)) rfl ⟨(x_rgv g12 (by decide) (by decide)), trivial⟩ ?_
      have hI16 : Inv INVM (xup q4 15 (q4 14 25).toNatClampNeg (f_X11_extend r1 a1)) := (hI6.arr 15 ((q4 14 25).toNatClampNeg) (f_X11_extend r1 a1) (by decide))
      subst h
      exact x_vret C (show decode cX11_move 47 = .ok (.return_, 1) from by decide +kernel) (x_finV ⟨⟨rfl, rfl⟩, hI16⟩) (Nat.le_refl 0) (Nat.le_refl 0)
-- X11_sum
def e_X11_sum_1 : List xI := [(0, .iload_n 1, 1, .null)]
theorem e_X11_sum_1_k : e_X11_sum_1.all (fun q => xokB cX11_sum q && xokL q) = true := by decide +kernel
def e_X11_sum_2 : List xI := [(4, .i2l, 1, .null), (5, .ldc2_w 139, 3, .null), (8, .land, 1, .null), (9, .lstore 6, 2, .null), (11, .iload 5, 2, .null), (13, .iconst 1, 1, .int 1)]
theorem e_X11_sum_2_k : e_X11_sum_2.all (fun q => xokB cX11_sum q && xokL q) = true := by decide +kernel
def e_X11_sum_3 : List xI := [(17, .aload_n 0, 1, .null), (18, .bipush 16, 2, .int 16)]
theorem e_X11_sum_3_k : e_X11_sum_3.all (fun q => xokB cX11_sum q && xokL q) = true := by decide +kernel
def e_X11_sum_4 : List xI := [(26, .lconst 1, 1, .long 1)]
theorem e_X11_sum_4_k : e_X11_sum_4.all (fun q => xokB cX11_sum q && xokL q) = true := by decide +kernel
def e_X11_sum_5 : List xI := [(30, .lconst 0, 1, .long 0)]
theorem e_X11_sum_5_k : e_X11_sum_5.all (fun q => xokB cX11_sum q && xokL q) = true := by decide +kernel
def e_X11_sum_6 : List xI := [(31, .lstore 8, 2, .null), (33, .iload_n 3, 1, .null), (34, .i2l, 1, .null), (35, .lload 6, 2, .null), (37, .land, 1, .null), (38, .lstore 10, 2, .null), (40, .iload_n 2, 1, .null), (41, .i2l, 1, .null), (42, .lload 6, 2, .null), (44, .land, 1, .null), (45, .lstore 12, 2, .null), (47, .iload 4, 2, .null)]
theorem e_X11_sum_6_k : e_X11_sum_6.all (fun q => xokB cX11_sum q && xokL q) = true := by decide +kernel
def e_X11_sum_7 : List xI := [(63, .lload 10, 2, .null), (65, .lload 12, 2, .null), (67, .ladd, 1, .null), (68, .lload 8, 2, .null), (70, .ladd, 1, .null)]
theorem e_X11_sum_7_k : e_X11_sum_7.all (fun q => xokB cX11_sum q && xokL q) = true := by decide +kernel
def e_X11_sum_8 : List xI := [(52, .lload 10, 2, .null), (54, .lload 12, 2, .null), (56, .lsub, 1, .null), (57, .lload 8, 2, .null), (59, .lsub, 1, .null)]
theorem e_X11_sum_8_k : e_X11_sum_8.all (fun q => xokB cX11_sum q && xokL q) = true := by decide +kernel
def e_X11_sum_9 : List xI := [(71, .lstore 14, 2, .null), (73, .iload_n 3, 1, .null), (74, .iload_n 1, 1, .null)]
theorem e_X11_sum_9_k : e_X11_sum_9.all (fun q => xokB cX11_sum q && xokL q) = true := by decide +kernel
def e_X11_sum_10 : List xI := [(78, .i2l, 1, .null), (79, .lstore 16, 2, .null), (81, .iload_n 2, 1, .null), (82, .iload_n 1, 1, .null)]
theorem e_X11_sum_10_k : e_X11_sum_10.all (fun q => xokB cX11_sum q && xokL q) = true := by decide +kernel
def e_X11_sum_11 : List xI := [(86, .i2l, 1, .null), (87, .lstore 18, 2, .null), (89, .iload 4, 2, .null)]
theorem e_X11_sum_11_k : e_X11_sum_11.all (fun q => xokB cX11_sum q && xokL q) = true := by decide +kernel
def e_X11_sum_12 : List xI := [(105, .lload 16, 2, .null), (107, .lload 18, 2, .null), (109, .ladd, 1, .null), (110, .lload 8, 2, .null), (112, .ladd, 1, .null)]
theorem e_X11_sum_12_k : e_X11_sum_12.all (fun q => xokB cX11_sum q && xokL q) = true := by decide +kernel
def e_X11_sum_13 : List xI := [(94, .lload 16, 2, .null), (96, .lload 18, 2, .null), (98, .lsub, 1, .null), (99, .lload 8, 2, .null), (101, .lsub, 1, .null)]
theorem e_X11_sum_13_k : e_X11_sum_13.all (fun q => xokB cX11_sum q && xokL q) = true := by decide +kernel
def e_X11_sum_14 : List xI := [(113, .lstore 20, 2, .null), (115, .lload 14, 2, .null), (117, .lload 6, 2, .null), (119, .land, 1, .null), (120, .l2i, 1, .null), (121, .istore 22, 2, .null), (123, .lload 14, 2, .null), (125, .lconst 0, 1, .long 0), (126, .lcmp, 1, .null)]
theorem e_X11_sum_14_k : e_X11_sum_14.all (fun q => xokB cX11_sum q && xokL q) = true := by decide +kernel
def e_X11_sum_15 : List xI := [(130, .lload 14, 2, .null), (132, .lload 6, 2, .null), (134, .lcmp, 1, .null)]
theorem e_X11_sum_15_k : e_X11_sum_15.all (fun q => xokB cX11_sum q && xokL q) = true := by decide +kernel
def e_X11_sum_16 : List xI := [(142, .iconst 0, 1, .int 0)]
theorem e_X11_sum_16_k : e_X11_sum_16.all (fun q => xokB cX11_sum q && xokL q) = true := by decide +kernel
def e_X11_sum_17 : List xI := [(138, .iconst 1, 1, .int 1)]
theorem e_X11_sum_17_k : e_X11_sum_17.all (fun q => xokB cX11_sum q && xokL q) = true := by decide +kernel
def e_X11_sum_18 : List xI := [(143, .istore 23, 2, .null), (145, .aload_n 0, 1, .null), (146, .bipush 8, 2, .int 8), (148, .iload 22, 2, .null), (150, .iload_n 1, 1, .null)]
theorem e_X11_sum_18_k : e_X11_sum_18.all (fun q => xokB cX11_sum q && xokL q) = true := by decide +kernel
def e_X11_sum_19 : List xI := [(161, .iconst 0, 1, .int 0)]
theorem e_X11_sum_19_k : e_X11_sum_19.all (fun q => xokB cX11_sum q && xokL q) = true := by decide +kernel
def e_X11_sum_20 : List xI := [(157, .iconst 1, 1, .int 1)]
theorem e_X11_sum_20_k : e_X11_sum_20.all (fun q => xokB cX11_sum q && xokL q) = true := by decide +kernel
def e_X11_sum_21 : List xI := [(165, .aload_n 0, 1, .null), (166, .iconst 4, 1, .int 4), (167, .iload 22, 2, .null)]
theorem e_X11_sum_21_k : e_X11_sum_21.all (fun q => xokB cX11_sum q && xokL q) = true := by decide +kernel
def e_X11_sum_22 : List xI := [(172, .iload 5, 2, .null), (174, .iconst 1, 1, .int 1)]
theorem e_X11_sum_22_k : e_X11_sum_22.all (fun q => xokB cX11_sum q && xokL q) = true := by decide +kernel
def e_X11_sum_23 : List xI := [(178, .aload_n 0, 1, .null), (179, .iconst 4, 1, .int 4)]
theorem e_X11_sum_23_k : e_X11_sum_23.all (fun q => xokB cX11_sum q && xokL q) = true := by decide +kernel
def e_X11_sum_24 : List xI := [(190, .iconst 0, 1, .int 0)]
theorem e_X11_sum_24_k : e_X11_sum_24.all (fun q => xokB cX11_sum q && xokL q) = true := by decide +kernel
def e_X11_sum_25 : List xI := [(186, .iconst 1, 1, .int 1)]
theorem e_X11_sum_25_k : e_X11_sum_25.all (fun q => xokB cX11_sum q && xokL q) = true := by decide +kernel
def e_X11_sum_26 : List xI := [(194, .aload_n 0, 1, .null), (195, .iconst 2, 1, .int 2), (196, .lload 20, 2, .null), (198, .iload 22, 2, .null), (200, .iload_n 1, 1, .null)]
theorem e_X11_sum_26_k : e_X11_sum_26.all (fun q => xokB cX11_sum q && xokL q) = true := by decide +kernel
def e_X11_sum_27 : List xI := [(204, .i2l, 1, .null), (205, .lcmp, 1, .null)]
theorem e_X11_sum_27_k : e_X11_sum_27.all (fun q => xokB cX11_sum q && xokL q) = true := by decide +kernel
def e_X11_sum_28 : List xI := [(213, .iconst 0, 1, .int 0)]
theorem e_X11_sum_28_k : e_X11_sum_28.all (fun q => xokB cX11_sum q && xokL q) = true := by decide +kernel
def e_X11_sum_29 : List xI := [(209, .iconst 1, 1, .int 1)]
theorem e_X11_sum_29_k : e_X11_sum_29.all (fun q => xokB cX11_sum q && xokL q) = true := by decide +kernel
def e_X11_sum_30 : List xI := [(217, .aload_n 0, 1, .null), (218, .iconst 1, 1, .int 1), (219, .iload 23, 2, .null)]
theorem e_X11_sum_30_k : e_X11_sum_30.all (fun q => xokB cX11_sum q && xokL q) = true := by decide +kernel
def e_X11_sum_31 : List xI := [(224, .iload 5, 2, .null), (226, .iconst 2, 1, .int 2)]
theorem e_X11_sum_31_k : e_X11_sum_31.all (fun q => xokB cX11_sum q && xokL q) = true := by decide +kernel
def e_X11_sum_32 : List xI := [(238, .iload 22, 2, .null)]
theorem e_X11_sum_32_k : e_X11_sum_32.all (fun q => xokB cX11_sum q && xokL q) = true := by decide +kernel
def e_X11_sum_33 : List xI := [(230, .aload_n 0, 1, .null), (231, .bipush 16, 2, .int 16), (233, .iload 23, 2, .null)]
theorem e_X11_sum_33_k : e_X11_sum_33.all (fun q => xokB cX11_sum q && xokL q) = true := by decide +kernel
abbrev P_X11_sum (r : Int32 × St) (L : Nat → Nat → Int64) : Option Value → xG → Prop := fun v σ' => PoI r.1 r.2 L v σ' ∧ True ∧ Inv INVM r.2
abbrev R_X11_sum : Room := { frames := 1, cells := 0, slots := 0, locals := 22 }
abbrev C_X11_sum (l : Launch) (r : Int32 × St) (L : Nat → Nat → Int64) (V : XJ) : Prop := XC l yX11_sum.cls yX11_sum.name cX11_sum 24 R_X11_sum 0 0 fl_X11 kc_X11 LAY.length (xfin (some .int) LAY (P_X11_sum r L)) V
def f_X11_sum_214 (x5 : Int32) (x22 : Int32) (x23 : Int32) (s0 : Int32) (s1 : Int32) (M : St) : Int32 × St := (xb (f_X11_flag s1 s0 M) fun q55 => (xb (f_X11_flag 1 x23 q55) fun q58 => (if 2 ≤ x5 then (x22, q58) else (xb (f_X11_flag 16 x23 q58) fun q64 => (x22, q64)))))
def f_X11_sum_191 (x1 : Int32) (x5 : Int32) (x20 : Int64) (x22 : Int32) (x23 : Int32) (s0 : Int32) (s1 : Int32) (M : St) : Int32 × St := (xb (f_X11_flag s1 s0 M) fun q47 => (if (lg_cmp x20 (f_X11_extend x22 x1).toInt64) = 0 then f_X11_sum_214 x5 x22 x23 0 2 q47 else f_X11_sum_214 x5 x22 x23 1 2 q47))
def f_X11_sum_190 (x1 : Int32) (x5 : Int32) (x20 : Int64) (x22 : Int32) (x23 : Int32) (s0 : Int32) (M : St) : Int32 × St := f_X11_sum_191 x1 x5 x20 x22 x23 0 s0 M
def f_X11_sum_186 (x1 : Int32) (x5 : Int32) (x20 : Int64) (x22 : Int32) (x23 : Int32) (s0 : Int32) (M : St) : Int32 × St := f_X11_sum_191 x1 x5 x20 x22 x23 1 s0 M
def f_X11_sum_162 (x1 : Int32) (x5 : Int32) (x20 : Int64) (x22 : Int32) (x23 : Int32) (s0 : Int32) (s1 : Int32) (M : St) : Int32 × St := (xb (f_X11_flag s1 s0 M) fun q34 => (if x22 = 0 then (if x5 = 1 then (if (f_X11_has 4 q34) = 0 then f_X11_sum_190 x1 x5 x20 x22 x23 4 q34 else f_X11_sum_186 x1 x5 x20 x22 x23 4 q34) else f_X11_sum_186 x1 x5 x20 x22 x23 4 q34) else f_X11_sum_190 x1 x5 x20 x22 x23 4 q34))
def f_X11_sum_143 (x1 : Int32) (x5 : Int32) (x20 : Int64) (x22 : Int32) (s0 : Int32) (M : St) : Int32 × St := (if 0 ≤ (f_X11_extend x22 x1) then f_X11_sum_162 x1 x5 x20 x22 s0 0 8 M else f_X11_sum_162 x1 x5 x20 x22 s0 1 8 M)
def f_X11_sum_138 (x1 : Int32) (x5 : Int32) (x20 : Int64) (x22 : Int32) (M : St) : Int32 × St := f_X11_sum_143 x1 x5 x20 x22 1 M
def f_X11_sum_113 (x1 : Int32) (x5 : Int32) (x6 : Int64) (x14 : Int64) (s0 : Int64) (M : St) : Int32 × St := (if (lg_cmp x14 0) < 0 then f_X11_sum_138 x1 x5 s0 (x14 &&& x6).toInt32 M else (if (lg_cmp x14 x6) ≤ 0 then f_X11_sum_143 x1 x5 s0 (x14 &&& x6).toInt32 0 M else f_X11_sum_138 x1 x5 s0 (x14 &&& x6).toInt32 M))
def f_X11_sum_71 (x1 : Int32) (x2 : Int32) (x3 : Int32) (x4 : Int32) (x5 : Int32) (x6 : Int64) (x8 : Int64) (s0 : Int64) (M : St) : Int32 × St := (if x4 = 0 then f_X11_sum_113 x1 x5 x6 s0 (((f_X11_extend x3 x1).toInt64 + (f_X11_extend x2 x1).toInt64) + x8) M else f_X11_sum_113 x1 x5 x6 s0 (((f_X11_extend x3 x1).toInt64 - (f_X11_extend x2 x1).toInt64) - x8) M)
def f_X11_sum_31 (x1 : Int32) (x2 : Int32) (x3 : Int32) (x4 : Int32) (x5 : Int32) (x6 : Int64) (s0 : Int64) (M : St) : Int32 × St := (if x4 = 0 then f_X11_sum_71 x1 x2 x3 x4 x5 x6 s0 (((x3.toInt64 &&& x6) + (x2.toInt64 &&& x6)) + s0) M else f_X11_sum_71 x1 x2 x3 x4 x5 x6 s0 (((x3.toInt64 &&& x6) - (x2.toInt64 &&& x6)) - s0) M)
def f_X11_sum_30 (x1 : Int32) (x2 : Int32) (x3 : Int32) (x4 : Int32) (x5 : Int32) (x6 : Int64) (M : St) : Int32 × St := f_X11_sum_31 x1 x2 x3 x4 x5 x6 0 M
def f_X11_sum (a1 : Int32) (a2 : Int32) (a3 : Int32) (a4 : Int32) (a5 : Int32) (M : St) : Int32 × St := (if a5 = 1 then (if (f_X11_has 16 M) = 0 then f_X11_sum_30 a1 a2 a3 a4 a5 ((f_X11_mask a1).toInt64 &&& 4294967295) M else f_X11_sum_31 a1 a2 a3 a4 a5 ((f_X11_mask a1).toInt64 &&& 4294967295) 1 M) else f_X11_sum_30 a1 a2 a3 a4 a5 ((f_X11_mask a1).toInt64 &&& 4294967295) M)
set_option maxRecDepth 20000 in
set_option maxHeartbeats 4000000 in
theorem b_X11_sum_214 {l : Launch} {L : Nat → Nat → Int64} {V : XJ} (r : Int32 × St) (C : C_X11_sum l r L V) (x5 : Int32) (x22 : Int32) (x23 : Int32) (s0 : Int32) (s1 : Int32) (M : St) (wx23 : xrg 0 1 x23) (ws0 : xrg 0 1 s0) (ws1 : xrg 2 2 s1) (hI : Inv INVM M) (h : f_X11_sum_214 x5 x22 x23 s0 s1 M = r) : V 0 0 214 [(0, .ref 14), (5, .int x5), (22, .int x22), (23, .int x23)] [.int s0, .int s1, .ref 14] LAY (M, L) := by
  unfold f_X11_sum_214 at h
  refine x_callV C (k := 14) (ci := 8) (rest := []) (avs := [.int s1, .int s0]) (k_X11_flag l s1 s0 M L hI) yoX11_flag ml_X11_135 rfl rfl rfl rfl ⟨Nat.zero_le _, Nat.zero_le _⟩ (show decode cX11_sum 214 = .ok (.invokevirtual 135, 3) from by decide +kernel) rfl (fun v σ' hPo => ?_)
  obtain ⟨⟨rfl, rfl⟩, hI57⟩ := hPo
  generalize hq55 : f_X11_flag s1 s0 M = q55 at h hI57 ⊢
  have h := xb_eq h
  show V 0 0 217 [(0, .ref 14), (5, .int x5), (22, .int x22), (23, .int x23)] [] LAY (q55, L)
  refine x_run C e_X11_sum_30 e_X11_sum_30_k (pc' := 221) (lv' := [(0, .ref 14), (5, .int x5), (22, .int x22), (23, .int x23)]) (st' := [.int x23, .int 1, .ref 14]) (σ' := (q55, L)) rfl ⟨trivial, trivial, trivial, trivial⟩ ?_
  refine x_callV C (k := 14) (ci := 8) (rest := []) (avs := [.int 1, .int x23]) (k_X11_flag l 1 x23 q55 L hI57) yoX11_flag ml_X11_135 rfl rfl rfl rfl ⟨Nat.zero_le _, Nat.zero_le _⟩ (show decode cX11_sum 221 = .ok (.invokevirtual 135, 3) from by decide +kernel) rfl (fun v σ' hPo => ?_)
  obtain ⟨⟨rfl, rfl⟩, hI60⟩ := hPo
  generalize hq58 : f_X11_flag 1 x23 q55 = q58 at h hI60 ⊢
  have h := xb_eq h
  show V 0 0 224 [(0, .ref 14), (5, .int x5), (22, .int x22), (23, .int x23)] [] LAY (q58, L)
  refine x_run C e_X11_sum_31 e_X11_sum_31_k (pc' := 227) (lv' := [(0, .ref 14), (5, .int x5), (22, .int x22), (23, .int x23)]) (st' := [.int 2, .int x5]) (σ' := (q58, L)) rfl ⟨trivial, trivial, trivial⟩ ?_
  refine x_icmp_ge C (show decode cX11_sum 227 = .ok (.if_icmp .ge 11, 3) from by decide +kernel) (tgt := 238) (by decide) (fun c61 => ?_) (fun c61 => ?_)
  · rw [if_pos c61] at h
    have g62 : xrg 2 2147483647 x5 := (x_c_le (x_rgc (x := 2) (k := 2) (by decide)) (x_rgt x5) c61).2
    refine x_run C e_X11_sum_32 e_X11_sum_32_k (pc' := 240) (lv' := [(0, .ref 14), (5, .int x5), (22, .int x22), (23, .int x23)]) (st' := [.int x22]) (σ' := (q58, L)) rfl ⟨trivial, trivial⟩ ?_
    subst h
    exact x_iret C (show decode cX11_sum 240 = .ok (.ireturn, 1) from by decide +kernel) (x_finI rfl ⟨⟨rfl, rfl⟩, trivial, hI60⟩) (Nat.le_refl 0) (Nat.le_refl 0)
  · rw [if_neg c61] at h
    have g63 : xrg (-2147483648) 1 x5 := (x_c_nle (x_rgc (x := 2) (k := 2) (by decide)) (x_rgt x5) c61).2
    refine x_run C e_X11_sum_33 e_X11_sum_33_k (pc' := 235) (lv' := [(0, .ref 14), (5, .int x5), (22, .int x22), (23, .int x23)]) (st' := [.int x23, .int 16, .ref 14]) (σ' := (q58, L)) rfl ⟨trivial, trivial, trivial, trivial⟩ ?_
    refine x_callV C (k := 14) (ci := 8) (rest := []) (avs := [.int 16, .int x23]) (k_X11_flag l 16 x23 q58 L hI60) yoX11_flag ml_X11_135 rfl rfl rfl rfl ⟨Nat.zero_le _, Nat.zero_le _⟩ (show decode cX11_sum 235 = .ok (.invokevirtual 135, 3) from by decide +kernel) rfl (fun v σ' hPo => ?_)
    obtain ⟨⟨rfl, rfl⟩, hI66⟩ := hPo
    generalize hq64 : f_X11_flag 16 x23 q58 = q64 at h hI66 ⊢
    have h := xb_eq h
    show V 0 0 238 [(0, .ref 14), (5, .int x5), (22, .int x22), (23, .int x23)] [] LAY (q64, L)
    refine x_run C e_X11_sum_32 e_X11_sum_32_k (pc' := 240) (lv' := [(0, .ref 14), (5, .int x5), (22, .int x22), (23, .int x23)]) (st' := [.int x22]) (σ' := (q64, L)) rfl ⟨trivial, trivial⟩ ?_
    subst h
    exact x_iret C (show decode cX11_sum 240 = .ok (.ireturn, 1) from by decide +kernel) (x_finI rfl ⟨⟨rfl, rfl⟩, trivial, hI66⟩) (Nat.le_refl 0) (Nat.le_refl 0)
set_option maxRecDepth 20000 in
set_option maxHeartbeats 4000000 in
theorem b_X11_sum_191 {l : Launch} {L : Nat → Nat → Int64} {V : XJ} (r : Int32 × St) (C : C_X11_sum l r L V) (x1 : Int32) (x5 : Int32) (x20 : Int64) (x22 : Int32) (x23 : Int32) (s0 : Int32) (s1 : Int32) (M : St) (wx23 : xrg 0 1 x23) (ws0 : xrg 0 1 s0) (ws1 : xrg 4 4 s1) (hI : Inv INVM M) (h : f_X11_sum_191 x1 x5 x20 x22 x23 s0 s1 M = r) : V 0 0 191 [(0, .ref 14), (1, .int x1), (5, .int x5), (20, .long x20), (22, .int x22), (23, .int x23)] [.int s0, .int s1, .ref 14] LAY (M, L) := by
  unfold f_X11_sum_191 at h
  refine x_callV C (k := 14) (ci := 8) (rest := []) (avs := [.int s1, .int s0]) (k_X11_flag l s1 s0 M L hI) yoX11_flag ml_X11_135 rfl rfl rfl rfl ⟨Nat.zero_le _, Nat.zero_le _⟩ (show decode cX11_sum 191 = .ok (.invokevirtual 135, 3) from by decide +kernel) rfl (fun v σ' hPo => ?_)
  obtain ⟨⟨rfl, rfl⟩, hI49⟩ := hPo
  generalize hq47 : f_X11_flag s1 s0 M = q47 at h hI49 ⊢
  have h := xb_eq h
  show V 0 0 194 [(0, .ref 14), (1, .int x1), (5, .int x5), (20, .long x20), (22, .int x22), (23, .int x23)] [] LAY (q47, L)
  refine x_run C e_X11_sum_26 e_X11_sum_26_k (pc' := 201) (lv' := [(0, .ref 14), (1, .int x1), (5, .int x5), (20, .long x20), (22, .int x22), (23, .int x23)]) (st' := [.int x1, .int x22, .long x20, .int 2, .ref 14]) (σ' := (q47, L)) rfl ⟨trivial, trivial, trivial, trivial, trivial, trivial⟩ ?_
  refine x_callS C (rest := [.long x20, .int 2, .ref 14]) (avs := [.int x22, .int x1]) (k_X11_extend l x22 x1 q47 L) yoX11_extend ml_X11_131 rfl ⟨Nat.zero_le _, Nat.zero_le _⟩ (show decode cX11_sum 201 = .ok (.invokestatic 131, 3) from by decide +kernel) rfl (fun v σ' hPo => ?_)
  obtain ⟨⟨rfl, rfl⟩, g51, -⟩ := hPo
  show V 0 0 204 [(0, .ref 14), (1, .int x1), (5, .int x5), (20, .long x20), (22, .int x22), (23, .int x23)] [.int (f_X11_extend x22 x1), .long x20, .int 2, .ref 14] LAY (q47, L)
  refine x_run C e_X11_sum_27 e_X11_sum_27_k (pc' := 206) (lv' := [(0, .ref 14), (1, .int x1), (5, .int x5), (20, .long x20), (22, .int x22), (23, .int x23)]) (st' := [.int (lg_cmp x20 (f_X11_extend x22 x1).toInt64), .int 2, .ref 14]) (σ' := (q47, L)) rfl ⟨trivial, trivial, trivial⟩ ?_
  refine x_if_eq C (show decode cX11_sum 206 = .ok (.ifCond .eq 7, 3) from by decide +kernel) (tgt := 213) (by decide) (fun c53 => ?_) (fun c53 => ?_)
  · rw [if_pos c53] at h
    have g54 : xrg 0 0 (lg_cmp x20 (f_X11_extend x22 x1).toInt64) := (x_c_eq (x_rgt (lg_cmp x20 (f_X11_extend x22 x1).toInt64)) (x_rgc (x := 0) (k := 0) (by decide)) c53).1
    refine x_run C e_X11_sum_28 e_X11_sum_28_k (pc' := 214) (lv' := [(0, .ref 14), (1, .int x1), (5, .int x5), (20, .long x20), (22, .int x22), (23, .int x23)]) (st' := [.int 0, .int 2, .ref 14]) (σ' := (q47, L)) rfl ⟨trivial, trivial⟩ ?_
    refine x_lv C [0, 2, 4, 5] rfl ?_
    exact b_X11_sum_214 r C x5 x22 x23 0 2 q47 wx23 (x_rgw (x_rgc (x := 0) (k := 0) (by decide)) (lo' := 0) (hi' := 1) (by decide) (by decide)) (x_rgc (x := 2) (k := 2) (by decide)) hI49 h
  · rw [if_neg c53] at h
    refine x_run C e_X11_sum_29 e_X11_sum_29_k (pc' := 210) (lv' := [(0, .ref 14), (1, .int x1), (5, .int x5), (20, .long x20), (22, .int x22), (23, .int x23)]) (st' := [.int 1, .int 2, .ref 14]) (σ' := (q47, L)) rfl ⟨trivial, trivial⟩ ?_
    refine x_goto C (show decode cX11_sum 210 = .ok (.goto 4, 3) from by decide +kernel) (tgt := 214) (by decide) ?_
    refine x_lv C [0, 2, 4, 5] rfl ?_
    exact b_X11_sum_214 r C x5 x22 x23 1 2 q47 wx23 (x_rgw (x_rgc (x := 1) (k := 1) (by decide)) (lo' := 0) (hi' := 1) (by decide) (by decide)) (x_rgc (x := 2) (k := 2) (by decide)) hI49 h
set_option maxRecDepth 20000 in
set_option maxHeartbeats 4000000 in
theorem b_X11_sum_190 {l : Launch} {L : Nat → Nat → Int64} {V : XJ} (r : Int32 × St) (C : C_X11_sum l r L V) (x1 : Int32) (x5 : Int32) (x20 : Int64) (x22 : Int32) (x23 : Int32) (s0 : Int32) (M : St) (wx23 : xrg 0 1 x23) (ws0 : xrg 4 4 s0) (hI : Inv INVM M) (h : f_X11_sum_190 x1 x5 x20 x22 x23 s0 M = r) : V 0 0 190 [(0, .ref 14), (1, .int x1), (5, .int x5), (20, .long x20), (22, .int x22), (23, .int x23)] [.int s0, .ref 14] LAY (M, L) := by
  unfold f_X11_sum_190 at h
  refine x_run C e_X11_sum_24 e_X11_sum_24_k (pc' := 191) (lv' := [(0, .ref 14), (1, .int x1), (5, .int x5), (20, .long x20), (22, .int x22), (23, .int x23)]) (st' := [.int 0, .int s0, .ref 14]) (σ' := (M, L)) rfl ⟨trivial, trivial⟩ ?_
  exact b_X11_sum_191 r C x1 x5 x20 x22 x23 0 s0 M wx23 (x_rgw (x_rgc (x := 0) (k := 0) (by decide)) (lo' := 0) (hi' := 1) (by decide) (by decide)) ws0 hI h
set_option maxRecDepth 20000 in
set_option maxHeartbeats 4000000 in
theorem b_X11_sum_186 {l : Launch} {L : Nat → Nat → Int64} {V : XJ} (r : Int32 × St) (C : C_X11_sum l r L V) (x1 : Int32) (x5 : Int32) (x20 : Int64) (x22 : Int32) (x23 : Int32) (s0 : Int32) (M : St) (wx22 : xrg 0 0 x22) (wx23 : xrg 0 1 x23) (ws0 : xrg 4 4 s0) (hI : Inv INVM M) (h : f_X11_sum_186 x1 x5 x20 x22 x23 s0 M = r) : V 0 0 186 [(0, .ref 14), (1, .int x1), (5, .int x5), (20, .long x20), (22, .int x22), (23, .int x23)] [.int s0, .ref 14] LAY (M, L) := by
  unfold f_X11_sum_186 at h
  refine x_run C e_X11_sum_25 e_X11_sum_25_k (pc' := 187) (lv' := [(0, .ref 14), (1, .int x1), (5, .int x5), (20, .long x20), (22, .int x22), (23, .int x23)]) (st' := [.int 1, .int s0, .ref 14]) (σ' := (M, L)) rfl ⟨trivial, trivial⟩ ?_
  refine x_goto C (show decode cX11_sum 187 = .ok (.goto 4, 3) from by decide +kernel) (tgt := 191) (by decide) ?_
  exact b_X11_sum_191 r C x1 x5 x20 x22 x23 1 s0 M wx23 (x_rgw (x_rgc (x := 1) (k := 1) (by decide)) (lo' := 0) (hi' := 1) (by decide) (by decide)) ws0 hI h
set_option maxRecDepth 20000 in
set_option maxHeartbeats 4000000 in
theorem b_X11_sum_162 {l : Launch} {L : Nat → Nat → Int64} {V : XJ} (r : Int32 × St) (C : C_X11_sum l r L V) (x1 : Int32) (x5 : Int32) (x20 : Int64) (x22 : Int32) (x23 : Int32) (s0 : Int32) (s1 : Int32) (M : St) (wx23 : xrg 0 1 x23) (ws0 : xrg 0 1 s0) (ws1 : xrg 8 8 s1) (hI : Inv INVM M) (h : f_X11_sum_162 x1 x5 x20 x22 x23 s0 s1 M = r) : V 0 0 162 [(0, .ref 14), (1, .int x1), (5, .int x5), (20, .long x20), (22, .int x22), (23, .int x23)] [.int s0, .int s1, .ref 14] LAY (M, L) := by
  unfold f_X11_sum_162 at h
  refine x_callV C (k := 14) (ci := 8) (rest := []) (avs := [.int s1, .int s0]) (k_X11_flag l s1 s0 M L hI) yoX11_flag ml_X11_135 rfl rfl rfl rfl ⟨Nat.zero_le _, Nat.zero_le _⟩ (show decode cX11_sum 162 = .ok (.invokevirtual 135, 3) from by decide +kernel) rfl (fun v σ' hPo => ?_)
  obtain ⟨⟨rfl, rfl⟩, hI36⟩ := hPo
  generalize hq34 : f_X11_flag s1 s0 M = q34 at h hI36 ⊢
  have h := xb_eq h
  show V 0 0 165 [(0, .ref 14), (1, .int x1), (5, .int x5), (20, .long x20), (22, .int x22), (23, .int x23)] [] LAY (q34, L)
  refine x_run C e_X11_sum_21 e_X11_sum_21_k (pc' := 169) (lv' := [(0, .ref 14), (1, .int x1), (5, .int x5), (20, .long x20), (22, .int x22), (23, .int x23)]) (st' := [.int x22, .int 4, .ref 14]) (σ' := (q34, L)) rfl ⟨trivial, trivial, trivial, trivial⟩ ?_
  refine x_if_ne C (show decode cX11_sum 169 = .ok (.ifCond .ne 21, 3) from by decide +kernel) (tgt := 190) (by decide) (fun c37 => ?_) (fun c37 => ?_)
  · rw [if_neg c37] at h
    exact b_X11_sum_190 r C x1 x5 x20 x22 x23 4 q34 wx23 (x_rgc (x := 4) (k := 4) (by decide)) hI36 h
  · rw [if_pos c37] at h
    have g38 : xrg 0 0 x22 := (x_c_eq (x_rgt x22) (x_rgc (x := 0) (k := 0) (by decide)) c37).1
    refine x_run C e_X11_sum_22 e_X11_sum_22_k (pc' := 175) (lv' := [(0, .ref 14), (1, .int x1), (5, .int x5), (20, .long x20), (22, .int x22), (23, .int x23)]) (st' := [.int 1, .int x5, .int 4, .ref 14]) (σ' := (q34, L)) rfl ⟨trivial, trivial, trivial⟩ ?_
    refine x_icmp_ne C (show decode cX11_sum 175 = .ok (.if_icmp .ne 11, 3) from by decide +kernel) (tgt := 186) (by decide) (fun c39 => ?_) (fun c39 => ?_)
    · rw [if_neg c39] at h
      exact b_X11_sum_186 r C x1 x5 x20 x22 x23 4 q34 g38 wx23 (x_rgc (x := 4) (k := 4) (by decide)) hI36 h
    · rw [if_pos c39] at h
      have g40 : xrg 1 1 x5 := (x_c_eq (x_rgt x5) (x_rgc (x := 1) (k := 1) (by decide)) c39).1
      refine x_run C e_X11_sum_23 e_X11_sum_23_k (pc' := 180) (lv' := [(0, .ref 14), (1, .int x1), (5, .int x5), (20, .long x20), (22, .int x22), (23, .int x23)]) (st' := [.int 4, .ref 14, .int 4, .ref 14]) (σ' := (q34, L)) rfl ⟨trivial, trivial, trivial⟩ ?_
      refine x_callV C (k := 14) (ci := 8) (rest := [.int 4, .ref 14]) (avs := [.int 4]) (k_X11_has l 4 q34 L hI36) yoX11_has ml_X11_55 rfl rfl rfl rfl ⟨Nat.zero_le _, Nat.zero_le _⟩ (show decode cX11_sum 180 = .ok (.invokevirtual 55, 3) from by decide +kernel) rfl (fun v σ' hPo => ?_)
      obtain ⟨⟨rfl, rfl⟩, g42, hI43⟩ := hPo
      show V 0 0 183 [(0, .ref 14), (1, .int x1), (5, .int x5), (20, .long x20), (22, .int x22), (23, .int x23)] [.int (f_X11_has 4 q34), .int 4, .ref 14] LAY (q34, L)
      refine x_if_eq C (show decode cX11_sum 183 = .ok (.ifCond .eq 7, 3) from by decide +kernel) (tgt := 190) (by decide) (fun c44 => ?_) (fun c44 => ?_)
      · rw [if_pos c44] at h
        have g45 : xrg 0 0 (f_X11_has 4 q34) := (x_c_eq g42 (x_rgc (x := 0) (k := 0) (by decide)) c44).1
        exact b_X11_sum_190 r C x1 x5 x20 x22 x23 4 q34 wx23 (x_rgc (x := 4) (k := 4) (by decide)) hI36 h
      · rw [if_neg c44] at h
        have g46 : xrg 1 1 (f_X11_has 4 q34) := (x_c_ne g42 (by decide) c44)
        exact b_X11_sum_186 r C x1 x5 x20 x22 x23 4 q34 g38 wx23 (x_rgc (x := 4) (k := 4) (by decide)) hI36 h
set_option maxRecDepth 20000 in
set_option maxHeartbeats 4000000 in
theorem b_X11_sum_143 {l : Launch} {L : Nat → Nat → Int64} {V : XJ} (r : Int32 × St) (C : C_X11_sum l r L V) (x1 : Int32) (x5 : Int32) (x20 : Int64) (x22 : Int32) (s0 : Int32) (M : St) (ws0 : xrg 0 1 s0) (hI : Inv INVM M) (h : f_X11_sum_143 x1 x5 x20 x22 s0 M = r) : V 0 0 143 [(0, .ref 14), (1, .int x1), (5, .int x5), (20, .long x20), (22, .int x22)] [.int s0] LAY (M, L) := by
  unfold f_X11_sum_143 at h
  refine x_run C e_X11_sum_18 e_X11_sum_18_k (pc' := 151) (lv' := [(23, .int s0), (0, .ref 14), (1, .int x1), (5, .int x5), (20, .long x20), (22, .int x22)]) (st' := [.int x1, .int x22, .int 8, .ref 14]) (σ' := (M, L)) rfl ⟨trivial, trivial, trivial, trivial, trivial, trivial⟩ ?_
  refine x_callS C (rest := [.int 8, .ref 14]) (avs := [.int x22, .int x1]) (k_X11_extend l x22 x1 M L) yoX11_extend ml_X11_131 rfl ⟨Nat.zero_le _, Nat.zero_le _⟩ (show decode cX11_sum 151 = .ok (.invokestatic 131, 3) from by decide +kernel) rfl (fun v σ' hPo => ?_)
  obtain ⟨⟨rfl, rfl⟩, g29, -⟩ := hPo
  show V 0 0 154 [(23, .int s0), (0, .ref 14), (1, .int x1), (5, .int x5), (20, .long x20), (22, .int x22)] [.int (f_X11_extend x22 x1), .int 8, .ref 14] LAY (M, L)
  refine x_if_ge C (show decode cX11_sum 154 = .ok (.ifCond .ge 7, 3) from by decide +kernel) (tgt := 161) (by decide) (fun c31 => ?_) (fun c31 => ?_)
  · rw [if_pos c31] at h
    have g32 : xrg 0 2147483647 (f_X11_extend x22 x1) := (x_c_le (x_rgc (x := 0) (k := 0) (by decide)) (x_rgt (f_X11_extend x22 x1)) c31).2
    refine x_run C e_X11_sum_19 e_X11_sum_19_k (pc' := 162) (lv' := [(23, .int s0), (0, .ref 14), (1, .int x1), (5, .int x5), (20, .long x20), (22, .int x22)]) (st' := [.int 0, .int 8, .ref 14]) (σ' := (M, L)) rfl ⟨trivial, trivial⟩ ?_
    refine x_lv C [1, 2, 3, 4, 5, 0] rfl ?_
    exact b_X11_sum_162 r C x1 x5 x20 x22 s0 0 8 M ws0 (x_rgw (x_rgc (x := 0) (k := 0) (by decide)) (lo' := 0) (hi' := 1) (by decide) (by decide)) (x_rgc (x := 8) (k := 8) (by decide)) hI h
  · rw [if_neg c31] at h
    have g33 : xrg (-2147483648) (-1) (f_X11_extend x22 x1) := (x_c_nle (x_rgc (x := 0) (k := 0) (by decide)) (x_rgt (f_X11_extend x22 x1)) c31).2
    refine x_run C e_X11_sum_20 e_X11_sum_20_k (pc' := 158) (lv' := [(23, .int s0), (0, .ref 14), (1, .int x1), (5, .int x5), (20, .long x20), (22, .int x22)]) (st' := [.int 1, .int 8, .ref 14]) (σ' := (M, L)) rfl ⟨trivial, trivial⟩ ?_
    refine x_goto C (show decode cX11_sum 158 = .ok (.goto 4, 3) from by decide +kernel) (tgt := 162) (by decide) ?_
    refine x_lv C [1, 2, 3, 4, 5, 0] rfl ?_
    exact b_X11_sum_162 r C x1 x5 x20 x22 s0 1 8 M ws0 (x_rgw (x_rgc (x := 1) (k := 1) (by decide)) (lo' := 0) (hi' := 1) (by decide) (by decide)) (x_rgc (x := 8) (k := 8) (by decide)) hI h
set_option maxRecDepth 20000 in
set_option maxHeartbeats 4000000 in
theorem b_X11_sum_138 {l : Launch} {L : Nat → Nat → Int64} {V : XJ} (r : Int32 × St) (C : C_X11_sum l r L V) (x1 : Int32) (x5 : Int32) (x20 : Int64) (x22 : Int32) (M : St) (hI : Inv INVM M) (h : f_X11_sum_138 x1 x5 x20 x22 M = r) : V 0 0 138 [(0, .ref 14), (1, .int x1), (5, .int x5), (20, .long x20), (22, .int x22)] [] LAY (M, L) := by
  unfold f_X11_sum_138 at h
  refine x_run C e_X11_sum_17 e_X11_sum_17_k (pc' := 139) (lv' := [(0, .ref 14), (1, .int x1), (5, .int x5), (20, .long x20), (22, .int x22)]) (st' := [.int 1]) (σ' := (M, L)) rfl ⟨trivial, trivial⟩ ?_
  refine x_goto C (show decode cX11_sum 139 = .ok (.goto 4, 3) from by decide +kernel) (tgt := 143) (by decide) ?_
  exact b_X11_sum_143 r C x1 x5 x20 x22 1 M (x_rgw (x_rgc (x := 1) (k := 1) (by decide)) (lo' := 0) (hi' := 1) (by decide) (by decide)) hI h
set_option maxRecDepth 20000 in
set_option maxHeartbeats 4000000 in
theorem b_X11_sum_113 {l : Launch} {L : Nat → Nat → Int64} {V : XJ} (r : Int32 × St) (C : C_X11_sum l r L V) (x1 : Int32) (x5 : Int32) (x6 : Int64) (x14 : Int64) (s0 : Int64) (M : St) (hI : Inv INVM M) (h : f_X11_sum_113 x1 x5 x6 x14 s0 M = r) : V 0 0 113 [(0, .ref 14), (1, .int x1), (5, .int x5), (6, .long x6), (14, .long x14)] [.long s0] LAY (M, L) := by
  unfold f_X11_sum_113 at h
  refine x_run C e_X11_sum_14 e_X11_sum_14_k (pc' := 127) (lv' := [(22, .int (x14 &&& x6).toInt32), (20, .long s0), (0, .ref 14), (1, .int x1), (5, .int x5), (6, .long x6), (14, .long x14)]) (st' := [.int (lg_cmp x14 0)]) (σ' := (M, L)) rfl ⟨trivial, trivial, trivial, trivial, trivial, trivial, trivial, trivial, trivial, trivial⟩ ?_
  refine x_if_lt C (show decode cX11_sum 127 = .ok (.ifCond .lt 11, 3) from by decide +kernel) (tgt := 138) (by decide) (fun c22 => ?_) (fun c22 => ?_)
  · rw [if_pos c22] at h
    have g23 : xrg (-2147483648) (-1) (lg_cmp x14 0) := (x_c_lt (x_rgt (lg_cmp x14 0)) (x_rgc (x := 0) (k := 0) (by decide)) c22).1
    refine x_lv C [2, 3, 4, 1, 0] rfl ?_
    exact b_X11_sum_138 r C x1 x5 s0 (x14 &&& x6).toInt32 M hI h
  · rw [if_neg c22] at h
    have g24 : xrg 0 2147483647 (lg_cmp x14 0) := (x_c_nlt (x_rgt (lg_cmp x14 0)) (x_rgc (x := 0) (k := 0) (by decide)) c22).1
    refine x_run C e_X11_sum_15 e_X11_sum_15_k (pc' := 135) (lv' := [(22, .int (x14 &&& x6).toInt32), (20, .long s0), (0, .ref 14), (1, .int x1), (5, .int x5), (6, .long x6), (14, .long x14)]) (st' := [.int (lg_cmp x14 x6)]) (σ' := (M, L)) rfl ⟨trivial, trivial, trivial, trivial⟩ ?_
    refine x_if_le C (show decode cX11_sum 135 = .ok (.ifCond .le 7, 3) from by decide +kernel) (tgt := 142) (by decide) (fun c25 => ?_) (fun c25 => ?_)
    · rw [if_pos c25] at h
      have g26 : xrg (-2147483648) 0 (lg_cmp x14 x6) := (x_c_le (x_rgt (lg_cmp x14 x6)) (x_rgc (x := 0) (k := 0) (by decide)) c25).1
      refine x_run C e_X11_sum_16 e_X11_sum_16_k (pc' := 143) (lv' := [(22, .int (x14 &&& x6).toInt32), (20, .long s0), (0, .ref 14), (1, .int x1), (5, .int x5), (6, .long x6), (14, .long x14)]) (st' := [.int 0]) (σ' := (M, L)) rfl ⟨trivial, trivial⟩ ?_
      refine x_lv C [2, 3, 4, 1, 0] rfl ?_
      exact b_X11_sum_143 r C x1 x5 s0 (x14 &&& x6).toInt32 0 M (x_rgw (x_rgc (x := 0) (k := 0) (by decide)) (lo' := 0) (hi' := 1) (by decide) (by decide)) hI h
    · rw [if_neg c25] at h
      have g27 : xrg 1 2147483647 (lg_cmp x14 x6) := (x_c_nle (x_rgt (lg_cmp x14 x6)) (x_rgc (x := 0) (k := 0) (by decide)) c25).1
      refine x_lv C [2, 3, 4, 1, 0] rfl ?_
      exact b_X11_sum_138 r C x1 x5 s0 (x14 &&& x6).toInt32 M hI h
set_option maxRecDepth 20000 in
set_option maxHeartbeats 4000000 in
theorem b_X11_sum_71 {l : Launch} {L : Nat → Nat → Int64} {V : XJ} (r : Int32 × St) (C : C_X11_sum l r L V) (x1 : Int32) (x2 : Int32) (x3 : Int32) (x4 : Int32) (x5 : Int32) (x6 : Int64) (x8 : Int64) (s0 : Int64) (M : St) (hI : Inv INVM M) (h : f_X11_sum_71 x1 x2 x3 x4 x5 x6 x8 s0 M = r) : V 0 0 71 [(0, .ref 14), (1, .int x1), (2, .int x2), (3, .int x3), (4, .int x4), (5, .int x5), (6, .long x6), (8, .long x8)] [.long s0] LAY (M, L) := by
  unfold f_X11_sum_71 at h
  refine x_run C e_X11_sum_9 e_X11_sum_9_k (pc' := 75) (lv' := [(14, .long s0), (0, .ref 14), (1, .int x1), (2, .int x2), (3, .int x3), (4, .int x4), (5, .int x5), (6, .long x6), (8, .long x8)]) (st' := [.int x1, .int x3]) (σ' := (M, L)) rfl ⟨trivial, trivial, trivial, trivial⟩ ?_
  refine x_callS C (rest := []) (avs := [.int x3, .int x1]) (k_X11_extend l x3 x1 M L) yoX11_extend ml_X11_131 rfl ⟨Nat.zero_le _, Nat.zero_le _⟩ (show decode cX11_sum 75 = .ok (.invokestatic 131, 3) from by decide +kernel) rfl (fun v σ' hPo => ?_)
  obtain ⟨⟨rfl, rfl⟩, g15, -⟩ := hPo
  show V 0 0 78 [(14, .long s0), (0, .ref 14), (1, .int x1), (2, .int x2), (3, .int x3), (4, .int x4), (5, .int x5), (6, .long x6), (8, .long x8)] [.int (f_X11_extend x3 x1)] LAY (M, L)
  refine x_run C e_X11_sum_10 e_X11_sum_10_k (pc' := 83) (lv' := [(16, .long (f_X11_extend x3 x1).toInt64), (14, .long s0), (0, .ref 14), (1, .int x1), (2, .int x2), (3, .int x3), (4, .int x4), (5, .int x5), (6, .long x6), (8, .long x8)]) (st' := [.int x1, .int x2]) (σ' := (M, L)) rfl ⟨trivial, trivial, trivial, trivial, trivial⟩ ?_
  refine x_callS C (rest := []) (avs := [.int x2, .int x1]) (k_X11_extend l x2 x1 M L) yoX11_extend ml_X11_131 rfl ⟨Nat.zero_le _, Nat.zero_le _⟩ (show decode cX11_sum 83 = .ok (.invokestatic 131, 3) from by decide +kernel) rfl (fun v σ' hPo => ?_)
  obtain ⟨⟨rfl, rfl⟩, g18, -⟩ := hPo
  show V 0 0 86 [(16, .long (f_X11_extend x3 x1).toInt64), (14, .long s0), (0, .ref 14), (1, .int x1), (2, .int x2), (3, .int x3), (4, .int x4), (5, .int x5), (6, .long x6), (8, .long x8)] [.int (f_X11_extend x2 x1)] LAY (M, L)
  refine x_run C e_X11_sum_11 e_X11_sum_11_k (pc' := 91) (lv' := [(18, .long (f_X11_extend x2 x1).toInt64), (16, .long (f_X11_extend x3 x1).toInt64), (14, .long s0), (0, .ref 14), (1, .int x1), (2, .int x2), (3, .int x3), (4, .int x4), (5, .int x5), (6, .long x6), (8, .long x8)]) (st' := [.int x4]) (σ' := (M, L)) rfl ⟨trivial, trivial, trivial, trivial⟩ ?_
  refine x_if_eq C (show decode cX11_sum 91 = .ok (.ifCond .eq 14, 3) from by decide +kernel) (tgt := 105) (by decide) (fun c20 => ?_) (fun c20 => ?_)
  · rw [if_pos c20] at h
    have g21 : xrg 0 0 x4 := (x_c_eq (x_rgt x4) (x_rgc (x := 0) (k := 0) (by decide)) c20).1
    refine x_run C e_X11_sum_12 e_X11_sum_12_k (pc' := 113) (lv' := [(18, .long (f_X11_extend x2 x1).toInt64), (16, .long (f_X11_extend x3 x1).toInt64), (14, .long s0), (0, .ref 14), (1, .int x1), (2, .int x2), (3, .int x3), (4, .int x4), (5, .int x5), (6, .long x6), (8, .long x8)]) (st' := [.long (((f_X11_extend x3 x1).toInt64 + (f_X11_extend x2 x1).toInt64) + x8)]) (σ' := (M, L)) rfl ⟨trivial, trivial, trivial, trivial, trivial, trivial⟩ ?_
    refine x_lv C [3, 4, 8, 9, 2] rfl ?_
    exact b_X11_sum_113 r C x1 x5 x6 s0 (((f_X11_extend x3 x1).toInt64 + (f_X11_extend x2 x1).toInt64) + x8) M hI h
  · rw [if_neg c20] at h
    refine x_run C e_X11_sum_13 e_X11_sum_13_k (pc' := 102) (lv' := [(18, .long (f_X11_extend x2 x1).toInt64), (16, .long (f_X11_extend x3 x1).toInt64), (14, .long s0), (0, .ref 14), (1, .int x1), (2, .int x2), (3, .int x3), (4, .int x4), (5, .int x5), (6, .long x6), (8, .long x8)]) (st' := [.long (((f_X11_extend x3 x1).toInt64 - (f_X11_extend x2 x1).toInt64) - x8)]) (σ' := (M, L)) rfl ⟨trivial, trivial, trivial, trivial, trivial, trivial⟩ ?_
    refine x_goto C (show decode cX11_sum 102 = .ok (.goto 11, 3) from by decide +kernel) (tgt := 113) (by decide) ?_
    refine x_lv C [3, 4, 8, 9, 2] rfl ?_
    exact b_X11_sum_113 r C x1 x5 x6 s0 (((f_X11_extend x3 x1).toInt64 - (f_X11_extend x2 x1).toInt64) - x8) M hI h
set_option maxRecDepth 20000 in
set_option maxHeartbeats 4000000 in
theorem b_X11_sum_31 {l : Launch} {L : Nat → Nat → Int64} {V : XJ} (r : Int32 × St) (C : C_X11_sum l r L V) (x1 : Int32) (x2 : Int32) (x3 : Int32) (x4 : Int32) (x5 : Int32) (x6 : Int64) (s0 : Int64) (M : St) (hI : Inv INVM M) (h : f_X11_sum_31 x1 x2 x3 x4 x5 x6 s0 M = r) : V 0 0 31 [(0, .ref 14), (1, .int x1), (2, .int x2), (3, .int x3), (4, .int x4), (5, .int x5), (6, .long x6)] [.long s0] LAY (M, L) := by
  unfold f_X11_sum_31 at h
  refine x_run C e_X11_sum_6 e_X11_sum_6_k (pc' := 49) (lv' := [(12, .long (x2.toInt64 &&& x6)), (10, .long (x3.toInt64 &&& x6)), (8, .long s0), (0, .ref 14), (1, .int x1), (2, .int x2), (3, .int x3), (4, .int x4), (5, .int x5), (6, .long x6)]) (st' := [.int x4]) (σ' := (M, L)) rfl ⟨trivial, trivial, trivial, trivial, trivial, trivial, trivial, trivial, trivial, trivial, trivial, trivial, trivial⟩ ?_
  refine x_if_eq C (show decode cX11_sum 49 = .ok (.ifCond .eq 14, 3) from by decide +kernel) (tgt := 63) (by decide) (fun c12 => ?_) (fun c12 => ?_)
  · rw [if_pos c12] at h
    have g13 : xrg 0 0 x4 := (x_c_eq (x_rgt x4) (x_rgc (x := 0) (k := 0) (by decide)) c12).1
    refine x_run C e_X11_sum_7 e_X11_sum_7_k (pc' := 71) (lv' := [(12, .long (x2.toInt64 &&& x6)), (10, .long (x3.toInt64 &&& x6)), (8, .long s0), (0, .ref 14), (1, .int x1), (2, .int x2), (3, .int x3), (4, .int x4), (5, .int x5), (6, .long x6)]) (st' := [.long (((x3.toInt64 &&& x6) + (x2.toInt64 &&& x6)) + s0)]) (σ' := (M, L)) rfl ⟨trivial, trivial, trivial, trivial, trivial, trivial⟩ ?_
    refine x_lv C [3, 4, 5, 6, 7, 8, 9, 2] rfl ?_
    exact b_X11_sum_71 r C x1 x2 x3 x4 x5 x6 s0 (((x3.toInt64 &&& x6) + (x2.toInt64 &&& x6)) + s0) M hI h
  · rw [if_neg c12] at h
    refine x_run C e_X11_sum_8 e_X11_sum_8_k (pc' := 60) (lv' := [(12, .long (x2.toInt64 &&& x6)), (10, .long (x3.toInt64 &&& x6)), (8, .long s0), (0, .ref 14), (1, .int x1), (2, .int x2), (3, .int x3), (4, .int x4), (5, .int x5), (6, .long x6)]) (st' := [.long (((x3.toInt64 &&& x6) - (x2.toInt64 &&& x6)) - s0)]) (σ' := (M, L)) rfl ⟨trivial, trivial, trivial, trivial, trivial, trivial⟩ ?_
    refine x_goto C (show decode cX11_sum 60 = .ok (.goto 11, 3) from by decide +kernel) (tgt := 71) (by decide) ?_
    refine x_lv C [3, 4, 5, 6, 7, 8, 9, 2] rfl ?_
    exact b_X11_sum_71 r C x1 x2 x3 x4 x5 x6 s0 (((x3.toInt64 &&& x6) - (x2.toInt64 &&& x6)) - s0) M hI h
set_option maxRecDepth 20000 in
set_option maxHeartbeats 4000000 in
theorem b_X11_sum_30 {l : Launch} {L : Nat → Nat → Int64} {V : XJ} (r : Int32 × St) (C : C_X11_sum l r L V) (x1 : Int32) (x2 : Int32) (x3 : Int32) (x4 : Int32) (x5 : Int32) (x6 : Int64) (M : St) (hI : Inv INVM M) (h : f_X11_sum_30 x1 x2 x3 x4 x5 x6 M = r) : V 0 0 30 [(0, .ref 14), (1, .int x1), (2, .int x2), (3, .int x3), (4, .int x4), (5, .int x5), (6, .long x6)] [] LAY (M, L) := by
  unfold f_X11_sum_30 at h
  refine x_run C e_X11_sum_5 e_X11_sum_5_k (pc' := 31) (lv' := [(0, .ref 14), (1, .int x1), (2, .int x2), (3, .int x3), (4, .int x4), (5, .int x5), (6, .long x6)]) (st' := [.long 0]) (σ' := (M, L)) rfl ⟨trivial, trivial⟩ ?_
  exact b_X11_sum_31 r C x1 x2 x3 x4 x5 x6 0 M hI h
set_option maxRecDepth 20000 in
set_option maxHeartbeats 4000000 in
theorem k_X11_sum (l : Launch) (a1 : Int32) (a2 : Int32) (a3 : Int32) (a4 : Int32) (a5 : Int32) (M : St) (L : Nat → Nat → Int64) (hI : Inv INVM M) : XM l yX11_sum cX11_sum 24 (some .int) R_X11_sum LAY [.ref 14, .int a1, .int a2, .int a3, .int a4, .int a5] (M, L) (P_X11_sum (f_X11_sum a1 a2 a3 a4 a5 M) L) := by
  refine XM.of (by decide) (Nat.le_of_ble_eq_true rfl) LAY_in cl_ok fl_X11_ok kc_X11_ok (fun V C => ?_)
  obtain ⟨r, h⟩ : ∃ r, f_X11_sum a1 a2 a3 a4 a5 M = r := ⟨_, rfl⟩
  rw [h] at C
  change C_X11_sum l r L V at C
  unfold f_X11_sum at h
  show V 0 0 0 [(0, .ref 14), (1, .int a1), (2, .int a2), (3, .int a3), (4, .int a4), (5, .int a5)] [] LAY (M, L)
  refine x_run C e_X11_sum_1 e_X11_sum_1_k (pc' := 1) (lv' := [(0, .ref 14), (1, .int a1), (2, .int a2), (3, .int a3), (4, .int a4), (5, .int a5)]) (st' := [.int a1]) (σ' := (M, L)) rfl ⟨trivial, trivial⟩ ?_
  refine x_callS C (rest := []) (avs := [.int a1]) (k_X11_mask l a1 M L) yoX11_mask ml_X11_122 rfl ⟨Nat.zero_le _, Nat.zero_le _⟩ (show decode cX11_sum 1 = .ok (.invokestatic 122, 3) from by decide +kernel) rfl (fun v σ' hPo => ?_)
  obtain ⟨⟨rfl, rfl⟩, g2, -⟩ := hPo
  show V 0 0 4 [(0, .ref 14), (1, .int a1), (2, .int a2), (3, .int a3), (4, .int a4), (5, .int a5)] [.int (f_X11_mask a1)] LAY (M, L)
  refine x_run C e_X11_sum_2 e_X11_sum_2_k (pc' := 14) (lv' := [(6, .long ((f_X11_mask a1).toInt64 &&& 4294967295)), (0, .ref 14), (1, .int a1), (2, .int a2), (3, .int a3), (4, .int a4), (5, .int a5)]) (st' := [.int 1, .int a5]) (σ' := (M, L)) rfl ⟨trivial, trivial, trivial, trivial, trivial, trivial, trivial⟩ ?_
  refine x_icmp_ne C (show decode cX11_sum 14 = .ok (.if_icmp .ne 16, 3) from by decide +kernel) (tgt := 30) (by decide) (fun c4 => ?_) (fun c4 => ?_)
  · rw [if_neg c4] at h
    refine x_lv C [1, 2, 3, 4, 5, 6, 0] rfl ?_
    exact b_X11_sum_30 r C a1 a2 a3 a4 a5 ((f_X11_mask a1).toInt64 &&& 4294967295) M hI h
  · rw [if_pos c4] at h
    have g5 : xrg 1 1 a5 := (x_c_eq (x_rgt a5) (x_rgc (x := 1) (k := 1) (by decide)) c4).1
    refine x_run C e_X11_sum_3 e_X11_sum_3_k (pc' := 20) (lv' := [(6, .long ((f_X11_mask a1).toInt64 &&& 4294967295)), (0, .ref 14), (1, .int a1), (2, .int a2), (3, .int a3), (4, .int a4), (5, .int a5)]) (st' := [.int 16, .ref 14]) (σ' := (M, L)) rfl ⟨trivial, trivial, trivial⟩ ?_
    refine x_callV C (k := 14) (ci := 8) (rest := []) (avs := [.int 16]) (k_X11_has l 16 M L hI) yoX11_has ml_X11_55 rfl rfl rfl rfl ⟨Nat.zero_le _, Nat.zero_le _⟩ (show decode cX11_sum 20 = .ok (.invokevirtual 55, 3) from by decide +kernel) rfl (fun v σ' hPo => ?_)
    obtain ⟨⟨rfl, rfl⟩, g7, hI8⟩ := hPo
    show V 0 0 23 [(6, .long ((f_X11_mask a1).toInt64 &&& 4294967295)), (0, .ref 14), (1, .int a1), (2, .int a2), (3, .int a3), (4, .int a4), (5, .int a5)] [.int (f_X11_has 16 M)] LAY (M, L)
    refine x_if_eq C (show decode cX11_sum 23 = .ok (.ifCond .eq 7, 3) from by decide +kernel) (tgt := 30) (by decide) (fun c9 => ?_) (fun c9 => ?_)
    · rw [if_pos c9] at h
      have g10 : xrg 0 0 (f_X11_has 16 M) := (x_c_eq g7 (x_rgc (x := 0) (k := 0) (by decide)) c9).1
      refine x_lv C [1, 2, 3, 4, 5, 6, 0] rfl ?_
      exact b_X11_sum_30 r C a1 a2 a3 a4 a5 ((f_X11_mask a1).toInt64 &&& 4294967295) M hI h
    · rw [if_neg c9] at h
      have g11 : xrg 1 1 (f_X11_has 16 M) := (x_c_ne g7 (by decide) c9)
      refine x_run C e_X11_sum_4 e_X11_sum_4_k (pc' := 27) (lv' := [(6, .long ((f_X11_mask a1).toInt64 &&& 4294967295)), (0, .ref 14), (1, .int a1), (2, .int a2), (3, .int a3), (4, .int a4), (5, .int a5)]) (st' := [.long 1]) (σ' := (M, L)) rfl ⟨trivial, trivial⟩ ?_
      refine x_goto C (show decode cX11_sum 27 = .ok (.goto 4, 3) from by decide +kernel) (tgt := 31) (by decide) ?_
      refine x_lv C [1, 2, 3, 4, 5, 6, 0] rfl ?_
      exact b_X11_sum_31 r C a1 a2 a3 a4 a5 ((f_X11_mask a1).toInt64 &&& 4294967295) 1 M hI h
-- X11_one
def e_X11_one_1 : List xI := [(0, .aload_n 0, 1, .null), (1, .iload_n 3, 1, .null), (2, .iload_n 2, 1, .null)]
theorem e_X11_one_1_k : e_X11_one_1.all (fun q => xokB cX11_one q && xokL q) = true := by decide +kernel
def e_X11_one_2 : List xI := [(6, .iload_n 1, 1, .null), (7, .iconst 1, 1, .int 1)]
theorem e_X11_one_2_k : e_X11_one_2.all (fun q => xokB cX11_one q && xokL q) = true := by decide +kernel
def e_X11_one_3 : List xI := [(15, .aload_n 0, 1, .null), (16, .iload_n 2, 1, .null)]
theorem e_X11_one_3_k : e_X11_one_3.all (fun q => xokB cX11_one q && xokL q) = true := by decide +kernel
def e_X11_one_4 : List xI := [(11, .iconst 0, 1, .int 0)]
theorem e_X11_one_4_k : e_X11_one_4.all (fun q => xokB cX11_one q && xokL q) = true := by decide +kernel
def e_X11_one_5 : List xI := [(20, .istore 4, 2, .null), (22, .iload_n 1, 1, .null)]
theorem e_X11_one_5_k : e_X11_one_5.all (fun q => xokB cX11_one q && xokL q) = true := by decide +kernel
def e_X11_one_6 : List xI := [(26, .iload_n 1, 1, .null), (27, .iconst 2, 1, .int 2)]
theorem e_X11_one_6_k : e_X11_one_6.all (fun q => xokB cX11_one q && xokL q) = true := by decide +kernel
def e_X11_one_7 : List xI := [(52, .iload_n 1, 1, .null), (53, .iconst 3, 1, .int 3)]
theorem e_X11_one_7_k : e_X11_one_7.all (fun q => xokB cX11_one q && xokL q) = true := by decide +kernel
def e_X11_one_8 : List xI := [(64, .iload 4, 2, .null)]
theorem e_X11_one_8_k : e_X11_one_8.all (fun q => xokB cX11_one q && xokL q) = true := by decide +kernel
def e_X11_one_9 : List xI := [(57, .iload 4, 2, .null), (59, .iconst (-1), 1, .int (-1)), (60, .ixor, 1, .null)]
theorem e_X11_one_9_k : e_X11_one_9.all (fun q => xokB cX11_one q && xokL q) = true := by decide +kernel
def e_X11_one_10 : List xI := [(31, .aload_n 0, 1, .null), (32, .iload_n 2, 1, .null), (33, .iload 4, 2, .null), (35, .iconst 0, 1, .int 0), (36, .iconst 1, 1, .int 1), (37, .iload_n 1, 1, .null)]
theorem e_X11_one_10_k : e_X11_one_10.all (fun q => xokB cX11_one q && xokL q) = true := by decide +kernel
def e_X11_one_11 : List xI := [(45, .iconst 0, 1, .int 0)]
theorem e_X11_one_11_k : e_X11_one_11.all (fun q => xokB cX11_one q && xokL q) = true := by decide +kernel
def e_X11_one_12 : List xI := [(41, .iconst 1, 1, .int 1)]
theorem e_X11_one_12_k : e_X11_one_12.all (fun q => xokB cX11_one q && xokL q) = true := by decide +kernel
def e_X11_one_13 : List xI := [(66, .istore 4, 2, .null), (68, .iload_n 1, 1, .null), (69, .iconst 4, 1, .int 4)]
theorem e_X11_one_13_k : e_X11_one_13.all (fun q => xokB cX11_one q && xokL q) = true := by decide +kernel
def e_X11_one_14 : List xI := [(73, .aload_n 0, 1, .null), (74, .iload_n 2, 1, .null), (75, .iload 4, 2, .null)]
theorem e_X11_one_14_k : e_X11_one_14.all (fun q => xokB cX11_one q && xokL q) = true := by decide +kernel
def e_X11_one_15 : List xI := [(80, .iload_n 1, 1, .null), (81, .iconst 2, 1, .int 2), (82, .irem, 1, .null), (83, .iconst 1, 1, .int 1)]
theorem e_X11_one_15_k : e_X11_one_15.all (fun q => xokB cX11_one q && xokL q) = true := by decide +kernel
def e_X11_one_16 : List xI := [(87, .iload_n 1, 1, .null), (88, .iconst 4, 1, .int 4)]
theorem e_X11_one_16_k : e_X11_one_16.all (fun q => xokB cX11_one q && xokL q) = true := by decide +kernel
def e_X11_one_17 : List xI := [(92, .aload_n 0, 1, .null), (93, .iload_n 2, 1, .null), (94, .iload 4, 2, .null)]
theorem e_X11_one_17_k : e_X11_one_17.all (fun q => xokB cX11_one q && xokL q) = true := by decide +kernel
abbrev P_X11_one (r : St) (L : Nat → Nat → Int64) : Option Value → xG → Prop := fun v σ' => PoV r L v σ' ∧ Inv INVM r
abbrev R_X11_one : Room := { frames := 7, cells := 0, slots := 0, locals := 166 }
abbrev C_X11_one (l : Launch) (r : St) (L : Nat → Nat → Int64) (V : XJ) : Prop := XC l yX11_one.cls yX11_one.name cX11_one 5 R_X11_one 0 0 fl_X11 kc_X11 LAY.length (xfin none LAY (P_X11_one r L)) V
def f_X11_one_92 (x2 : Int32) (x4 : Int32) (M : St) : St := (xb (f_X11_test x2 x4 M) fun q31 => q31)
def f_X11_one_80 (x1 : Int32) (x2 : Int32) (x4 : Int32) (M : St) : St := (if (x1 - x1 / 2 * 2) = 1 then f_X11_one_92 x2 x4 M else (if x1 = 4 then f_X11_one_92 x2 x4 M else M))
def f_X11_one_66 (x1 : Int32) (x2 : Int32) (s0 : Int32) (M : St) : St := (if 4 ≤ x1 then f_X11_one_80 x1 x2 s0 M else (xb (f_X11_store x2 s0 M) fun q21 => f_X11_one_80 x1 x2 s0 q21))
def f_X11_one_46 (x1 : Int32) (x2 : Int32) (s0 : Int32) (s1 : Int32) (s2 : Int32) (s3 : Int32) (s4 : Int32) (M : St) : St := (xb (f_X11_sum s4 s3 s2 s1 s0 M) fun q24 => f_X11_one_66 x1 x2 q24.1 q24.2)
def f_X11_one_31 (x1 : Int32) (x2 : Int32) (x4 : Int32) (M : St) : St := (if x1 = 0 then f_X11_one_46 x1 x2 1 1 0 x4 x2 M else f_X11_one_46 x1 x2 0 1 0 x4 x2 M)
def f_X11_one_20 (x1 : Int32) (x2 : Int32) (s0 : Int32) (M : St) : St := (if x1 = 0 then f_X11_one_31 x1 x2 s0 M else (if x1 = 2 then f_X11_one_31 x1 x2 s0 M else (if x1 = 3 then f_X11_one_66 x1 x2 (s0 ^^^ (-1)) M else f_X11_one_66 x1 x2 s0 M)))
def f_X11_one (a1 : Int32) (a2 : Int32) (a3 : Int32) (M : St) : St := (xb (f_X11_find a3 a2 M) fun q1 => (if a1 = 1 then f_X11_one_20 a1 a2 0 q1 else (xb (f_X11_load a2 q1) fun q5 => f_X11_one_20 a1 a2 q5.1 q5.2)))
set_option maxRecDepth 20000 in
set_option maxHeartbeats 4000000 in
theorem b_X11_one_92 {l : Launch} {L : Nat → Nat → Int64} {V : XJ} (r : St) (C : C_X11_one l r L V) (x2 : Int32) (x4 : Int32) (M : St) (hI : Inv INVM M) (h : f_X11_one_92 x2 x4 M = r) : V 0 0 92 [(0, .ref 14), (2, .int x2), (4, .int x4)] [] LAY (M, L) := by
  unfold f_X11_one_92 at h
  refine x_run C e_X11_one_17 e_X11_one_17_k (pc' := 96) (lv' := [(0, .ref 14), (2, .int x2), (4, .int x4)]) (st' := [.int x4, .int x2, .ref 14]) (σ' := (M, L)) rfl ⟨trivial, trivial, trivial, trivial⟩ ?_
  refine x_callV C (k := 14) (ci := 8) (rest := []) (avs := [.int x2, .int x4]) (k_X11_test l x2 x4 M L hI) yoX11_test ml_X11_196 rfl rfl rfl rfl ⟨Nat.zero_le _, Nat.zero_le _⟩ (show decode cX11_one 96 = .ok (.invokevirtual 196, 3) from by decide +kernel) rfl (fun v σ' hPo => ?_)
  obtain ⟨⟨rfl, rfl⟩, hI33⟩ := hPo
  generalize hq31 : f_X11_test x2 x4 M = q31 at h hI33 ⊢
  have h := xb_eq h
  show V 0 0 99 [(0, .ref 14), (2, .int x2), (4, .int x4)] [] LAY (q31, L)
  subst h
  exact x_vret C (show decode cX11_one 99 = .ok (.return_, 1) from by decide +kernel) (x_finV ⟨⟨rfl, rfl⟩, hI33⟩) (Nat.le_refl 0) (Nat.le_refl 0)
set_option maxRecDepth 20000 in
set_option maxHeartbeats 4000000 in
theorem b_X11_one_80 {l : Launch} {L : Nat → Nat → Int64} {V : XJ} (r : St) (C : C_X11_one l r L V) (x1 : Int32) (x2 : Int32) (x4 : Int32) (M : St) (hI : Inv INVM M) (h : f_X11_one_80 x1 x2 x4 M = r) : V 0 0 80 [(0, .ref 14), (1, .int x1), (2, .int x2), (4, .int x4)] [] LAY (M, L) := by
  unfold f_X11_one_80 at h
  refine x_run C e_X11_one_15 e_X11_one_15_k (pc' := 84) (lv' := [(0, .ref 14), (1, .int x1), (2, .int x2), (4, .int x4)]) (st' := [.int 1, .int (x1 - x1 / 2 * 2)]) (σ' := (M, L)) rfl ⟨trivial, trivial, (by decide), trivial, trivial⟩ ?_
  refine x_icmp_eq C (show decode cX11_one 84 = .ok (.if_icmp .eq 8, 3) from by decide +kernel) (tgt := 92) (by decide) (fun c27 => ?_) (fun c27 => ?_)
  · rw [if_pos c27] at h
    have g28 : xrg 1 1 (x1 - x1 / 2 * 2) := (x_c_eq (x_rgt (x1 - x1 / 2 * 2)) (x_rgc (x := 1) (k := 1) (by decide)) c27).1
    refine x_lv C [0, 2, 3] rfl ?_
    exact b_X11_one_92 r C x2 x4 M hI h
  · rw [if_neg c27] at h
    refine x_run C e_X11_one_16 e_X11_one_16_k (pc' := 89) (lv' := [(0, .ref 14), (1, .int x1), (2, .int x2), (4, .int x4)]) (st' := [.int 4, .int x1]) (σ' := (M, L)) rfl ⟨trivial, trivial, trivial⟩ ?_
    refine x_icmp_ne C (show decode cX11_one 89 = .ok (.if_icmp .ne 10, 3) from by decide +kernel) (tgt := 99) (by decide) (fun c29 => ?_) (fun c29 => ?_)
    · rw [if_neg c29] at h
      subst h
      exact x_vret C (show decode cX11_one 99 = .ok (.return_, 1) from by decide +kernel) (x_finV ⟨⟨rfl, rfl⟩, hI⟩) (Nat.le_refl 0) (Nat.le_refl 0)
    · rw [if_pos c29] at h
      have g30 : xrg 4 4 x1 := (x_c_eq (x_rgt x1) (x_rgc (x := 4) (k := 4) (by decide)) c29).1
      refine x_lv C [0, 2, 3] rfl ?_
      exact b_X11_one_92 r C x2 x4 M hI h
set_option maxRecDepth 20000 in
set_option maxHeartbeats 4000000 in
theorem b_X11_one_66 {l : Launch} {L : Nat → Nat → Int64} {V : XJ} (r : St) (C : C_X11_one l r L V) (x1 : Int32) (x2 : Int32) (s0 : Int32) (M : St) (hI : Inv INVM M) (h : f_X11_one_66 x1 x2 s0 M = r) : V 0 0 66 [(0, .ref 14), (1, .int x1), (2, .int x2)] [.int s0] LAY (M, L) := by
  unfold f_X11_one_66 at h
  refine x_run C e_X11_one_13 e_X11_one_13_k (pc' := 70) (lv' := [(4, .int s0), (0, .ref 14), (1, .int x1), (2, .int x2)]) (st' := [.int 4, .int x1]) (σ' := (M, L)) rfl ⟨trivial, trivial, trivial, trivial⟩ ?_
  refine x_icmp_ge C (show decode cX11_one 70 = .ok (.if_icmp .ge 10, 3) from by decide +kernel) (tgt := 80) (by decide) (fun c18 => ?_) (fun c18 => ?_)
  · rw [if_pos c18] at h
    have g19 : xrg 4 2147483647 x1 := (x_c_le (x_rgc (x := 4) (k := 4) (by decide)) (x_rgt x1) c18).2
    refine x_lv C [1, 2, 3, 0] rfl ?_
    exact b_X11_one_80 r C x1 x2 s0 M hI h
  · rw [if_neg c18] at h
    have g20 : xrg (-2147483648) 3 x1 := (x_c_nle (x_rgc (x := 4) (k := 4) (by decide)) (x_rgt x1) c18).2
    refine x_run C e_X11_one_14 e_X11_one_14_k (pc' := 77) (lv' := [(4, .int s0), (0, .ref 14), (1, .int x1), (2, .int x2)]) (st' := [.int s0, .int x2, .ref 14]) (σ' := (M, L)) rfl ⟨trivial, trivial, trivial, trivial⟩ ?_
    refine x_callV C (k := 14) (ci := 8) (rest := []) (avs := [.int x2, .int s0]) (k_X11_store l x2 s0 M L hI) yoX11_store ml_X11_193 rfl rfl rfl rfl ⟨Nat.zero_le _, Nat.zero_le _⟩ (show decode cX11_one 77 = .ok (.invokevirtual 193, 3) from by decide +kernel) rfl (fun v σ' hPo => ?_)
    obtain ⟨⟨rfl, rfl⟩, hI23⟩ := hPo
    generalize hq21 : f_X11_store x2 s0 M = q21 at h hI23 ⊢
    have h := xb_eq h
    show V 0 0 80 [(4, .int s0), (0, .ref 14), (1, .int x1), (2, .int x2)] [] LAY (q21, L)
    refine x_lv C [1, 2, 3, 0] rfl ?_
    exact b_X11_one_80 r C x1 x2 s0 q21 hI23 h
set_option maxRecDepth 20000 in
set_option maxHeartbeats 4000000 in
theorem b_X11_one_46 {l : Launch} {L : Nat → Nat → Int64} {V : XJ} (r : St) (C : C_X11_one l r L V) (x1 : Int32) (x2 : Int32) (s0 : Int32) (s1 : Int32) (s2 : Int32) (s3 : Int32) (s4 : Int32) (M : St) (wx1 : xrg 0 2 x1) (ws0 : xrg 0 1 s0) (ws1 : xrg 1 1 s1) (ws2 : xrg 0 0 s2) (hI : Inv INVM M) (h : f_X11_one_46 x1 x2 s0 s1 s2 s3 s4 M = r) : V 0 0 46 [(0, .ref 14), (1, .int x1), (2, .int x2)] [.int s0, .int s1, .int s2, .int s3, .int s4, .ref 14] LAY (M, L) := by
  unfold f_X11_one_46 at h
  refine x_callV C (k := 14) (ci := 8) (rest := []) (avs := [.int s4, .int s3, .int s2, .int s1, .int s0]) (k_X11_sum l s4 s3 s2 s1 s0 M L hI) yoX11_sum ml_X11_221 rfl rfl rfl rfl ⟨Nat.zero_le _, Nat.zero_le _⟩ (show decode cX11_one 46 = .ok (.invokevirtual 221, 3) from by decide +kernel) rfl (fun v σ' hPo => ?_)
  obtain ⟨⟨rfl, rfl⟩, g25, hI26⟩ := hPo
  generalize hq24 : f_X11_sum s4 s3 s2 s1 s0 M = q24 at h g25 hI26 ⊢
  obtain ⟨r24, M24⟩ := q24
  have h := xb_eq h
  try dsimp only at h g25 hI26
  show V 0 0 49 [(0, .ref 14), (1, .int x1), (2, .int x2)] [.int r24] LAY (M24, L)
  refine x_goto C (show decode cX11_one 49 = .ok (.goto 17, 3) from by decide +kernel) (tgt := 66) (by decide) ?_
  exact b_X11_one_66 r C x1 x2 r24 M24 hI26 h
set_option maxRecDepth 20000 in
set_option maxHeartbeats 4000000 in
theorem b_X11_one_31 {l : Launch} {L : Nat → Nat → Int64} {V : XJ} (r : St) (C : C_X11_one l r L V) (x1 : Int32) (x2 : Int32) (x4 : Int32) (M : St) (wx1 : xrg 0 2 x1) (hI : Inv INVM M) (h : f_X11_one_31 x1 x2 x4 M = r) : V 0 0 31 [(0, .ref 14), (1, .int x1), (2, .int x2), (4, .int x4)] [] LAY (M, L) := by
  unfold f_X11_one_31 at h
  refine x_run C e_X11_one_10 e_X11_one_10_k (pc' := 38) (lv' := [(0, .ref 14), (1, .int x1), (2, .int x2), (4, .int x4)]) (st' := [.int x1, .int 1, .int 0, .int x4, .int x2, .ref 14]) (σ' := (M, L)) rfl ⟨trivial, trivial, trivial, trivial, trivial, trivial, trivial⟩ ?_
  refine x_if_ne C (show decode cX11_one 38 = .ok (.ifCond .ne 7, 3) from by decide +kernel) (tgt := 45) (by decide) (fun c15 => ?_) (fun c15 => ?_)
  · rw [if_neg c15] at h
    have g16 : xrg 1 2 x1 := (x_c_ne wx1 (by decide) c15)
    refine x_run C e_X11_one_11 e_X11_one_11_k (pc' := 46) (lv' := [(0, .ref 14), (1, .int x1), (2, .int x2), (4, .int x4)]) (st' := [.int 0, .int 1, .int 0, .int x4, .int x2, .ref 14]) (σ' := (M, L)) rfl ⟨trivial, trivial⟩ ?_
    refine x_lv C [0, 1, 2] rfl ?_
    exact b_X11_one_46 r C x1 x2 0 1 0 x4 x2 M (x_rgw g16 (lo' := 0) (hi' := 2) (by decide) (by decide)) (x_rgw (x_rgc (x := 0) (k := 0) (by decide)) (lo' := 0) (hi' := 1) (by decide) (by decide)) (x_rgc (x := 1) (k := 1) (by decide)) (x_rgc (x := 0) (k := 0) (by decide)) hI h
  · rw [if_pos c15] at h
    have g17 : xrg 0 0 x1 := (x_c_eq wx1 (x_rgc (x := 0) (k := 0) (by decide)) c15).1
    refine x_run C e_X11_one_12 e_X11_one_12_k (pc' := 42) (lv' := [(0, .ref 14), (1, .int x1), (2, .int x2), (4, .int x4)]) (st' := [.int 1, .int 1, .int 0, .int x4, .int x2, .ref 14]) (σ' := (M, L)) rfl ⟨trivial, trivial⟩ ?_
    refine x_goto C (show decode cX11_one 42 = .ok (.goto 4, 3) from by decide +kernel) (tgt := 46) (by decide) ?_
    refine x_lv C [0, 1, 2] rfl ?_
    exact b_X11_one_46 r C x1 x2 1 1 0 x4 x2 M (x_rgw g17 (lo' := 0) (hi' := 2) (by decide) (by decide)) (x_rgw (x_rgc (x := 1) (k := 1) (by decide)) (lo' := 0) (hi' := 1) (by decide) (by decide)) (x_rgc (x := 1) (k := 1) (by decide)) (x_rgc (x := 0) (k := 0) (by decide)) hI h
set_option maxRecDepth 20000 in
set_option maxHeartbeats 4000000 in
theorem b_X11_one_20 {l : Launch} {L : Nat → Nat → Int64} {V : XJ} (r : St) (C : C_X11_one l r L V) (x1 : Int32) (x2 : Int32) (s0 : Int32) (M : St) (hI : Inv INVM M) (h : f_X11_one_20 x1 x2 s0 M = r) : V 0 0 20 [(0, .ref 14), (1, .int x1), (2, .int x2)] [.int s0] LAY (M, L) := by
  unfold f_X11_one_20 at h
  refine x_run C e_X11_one_5 e_X11_one_5_k (pc' := 23) (lv' := [(4, .int s0), (0, .ref 14), (1, .int x1), (2, .int x2)]) (st' := [.int x1]) (σ' := (M, L)) rfl ⟨trivial, trivial, trivial⟩ ?_
  refine x_if_eq C (show decode cX11_one 23 = .ok (.ifCond .eq 8, 3) from by decide +kernel) (tgt := 31) (by decide) (fun c9 => ?_) (fun c9 => ?_)
  · rw [if_pos c9] at h
    have g10 : xrg 0 0 x1 := (x_c_eq (x_rgt x1) (x_rgc (x := 0) (k := 0) (by decide)) c9).1
    refine x_lv C [1, 2, 3, 0] rfl ?_
    exact b_X11_one_31 r C x1 x2 s0 M (x_rgw g10 (lo' := 0) (hi' := 2) (by decide) (by decide)) hI h
  · rw [if_neg c9] at h
    refine x_run C e_X11_one_6 e_X11_one_6_k (pc' := 28) (lv' := [(4, .int s0), (0, .ref 14), (1, .int x1), (2, .int x2)]) (st' := [.int 2, .int x1]) (σ' := (M, L)) rfl ⟨trivial, trivial, trivial⟩ ?_
    refine x_icmp_ne C (show decode cX11_one 28 = .ok (.if_icmp .ne 24, 3) from by decide +kernel) (tgt := 52) (by decide) (fun c11 => ?_) (fun c11 => ?_)
    · rw [if_neg c11] at h
      refine x_run C e_X11_one_7 e_X11_one_7_k (pc' := 54) (lv' := [(4, .int s0), (0, .ref 14), (1, .int x1), (2, .int x2)]) (st' := [.int 3, .int x1]) (σ' := (M, L)) rfl ⟨trivial, trivial, trivial⟩ ?_
      refine x_icmp_ne C (show decode cX11_one 54 = .ok (.if_icmp .ne 10, 3) from by decide +kernel) (tgt := 64) (by decide) (fun c12 => ?_) (fun c12 => ?_)
      · rw [if_neg c12] at h
        refine x_run C e_X11_one_8 e_X11_one_8_k (pc' := 66) (lv' := [(4, .int s0), (0, .ref 14), (1, .int x1), (2, .int x2)]) (st' := [.int s0]) (σ' := (M, L)) rfl ⟨trivial, trivial⟩ ?_
        refine x_lv C [1, 2, 3] rfl ?_
        exact b_X11_one_66 r C x1 x2 s0 M hI h
      · rw [if_pos c12] at h
        have g13 : xrg 3 3 x1 := (x_c_eq (x_rgt x1) (x_rgc (x := 3) (k := 3) (by decide)) c12).1
        refine x_run C e_X11_one_9 e_X11_one_9_k (pc' := 61) (lv' := [(4, .int s0), (0, .ref 14), (1, .int x1), (2, .int x2)]) (st' := [.int (s0 ^^^ (-1))]) (σ' := (M, L)) rfl ⟨trivial, trivial, trivial, trivial⟩ ?_
        refine x_goto C (show decode cX11_one 61 = .ok (.goto 5, 3) from by decide +kernel) (tgt := 66) (by decide) ?_
        refine x_lv C [1, 2, 3] rfl ?_
        exact b_X11_one_66 r C x1 x2 (s0 ^^^ (-1)) M hI h
    · rw [if_pos c11] at h
      have g14 : xrg 2 2 x1 := (x_c_eq (x_rgt x1) (x_rgc (x := 2) (k := 2) (by decide)) c11).1
      refine x_lv C [1, 2, 3, 0] rfl ?_
      exact b_X11_one_31 r C x1 x2 s0 M (x_rgw g14 (lo' := 0) (hi' := 2) (by decide) (by decide)) hI h
set_option maxRecDepth 20000 in
set_option maxHeartbeats 4000000 in
theorem k_X11_one (l : Launch) (a1 : Int32) (a2 : Int32) (a3 : Int32) (M : St) (L : Nat → Nat → Int64) (hI : Inv INVM M) : XM l yX11_one cX11_one 5 none R_X11_one LAY [.ref 14, .int a1, .int a2, .int a3] (M, L) (P_X11_one (f_X11_one a1 a2 a3 M) L) := by
  refine XM.of (by decide) (Nat.le_of_ble_eq_true rfl) LAY_in cl_ok fl_X11_ok kc_X11_ok (fun V C => ?_)
  obtain ⟨r, h⟩ : ∃ r, f_X11_one a1 a2 a3 M = r := ⟨_, rfl⟩
  rw [h] at C
  change C_X11_one l r L V at C
  unfold f_X11_one at h
  show V 0 0 0 [(0, .ref 14), (1, .int a1), (2, .int a2), (3, .int a3)] [] LAY (M, L)
  refine x_run C e_X11_one_1 e_X11_one_1_k (pc' := 3) (lv' := [(0, .ref 14), (1, .int a1), (2, .int a2), (3, .int a3)]) (st' := [.int a2, .int a3, .ref 14]) (σ' := (M, L)) rfl ⟨trivial, trivial, trivial, trivial⟩ ?_
  refine x_callV C (k := 14) (ci := 8) (rest := []) (avs := [.int a3, .int a2]) (k_X11_find l a3 a2 M L hI) yoX11_find ml_X11_125 rfl rfl rfl rfl ⟨Nat.zero_le _, Nat.zero_le _⟩ (show decode cX11_one 3 = .ok (.invokevirtual 125, 3) from by decide +kernel) rfl (fun v σ' hPo => ?_)
  obtain ⟨⟨rfl, rfl⟩, hI3⟩ := hPo
  generalize hq1 : f_X11_find a3 a2 M = q1 at h hI3 ⊢
  have h := xb_eq h
  show V 0 0 6 [(0, .ref 14), (1, .int a1), (2, .int a2), (3, .int a3)] [] LAY (q1, L)
  refine x_run C e_X11_one_2 e_X11_one_2_k (pc' := 8) (lv' := [(0, .ref 14), (1, .int a1), (2, .int a2), (3, .int a3)]) (st' := [.int 1, .int a1]) (σ' := (q1, L)) rfl ⟨trivial, trivial, trivial⟩ ?_
  refine x_icmp_ne C (show decode cX11_one 8 = .ok (.if_icmp .ne 7, 3) from by decide +kernel) (tgt := 15) (by decide) (fun c4 => ?_) (fun c4 => ?_)
  · rw [if_neg c4] at h
    refine x_run C e_X11_one_3 e_X11_one_3_k (pc' := 17) (lv' := [(0, .ref 14), (1, .int a1), (2, .int a2), (3, .int a3)]) (st' := [.int a2, .ref 14]) (σ' := (q1, L)) rfl ⟨trivial, trivial, trivial⟩ ?_
    refine x_callV C (k := 14) (ci := 8) (rest := []) (avs := [.int a2]) (k_X11_load l a2 q1 L hI3) yoX11_load ml_X11_128 rfl rfl rfl rfl ⟨Nat.zero_le _, Nat.zero_le _⟩ (show decode cX11_one 17 = .ok (.invokevirtual 128, 3) from by decide +kernel) rfl (fun v σ' hPo => ?_)
    obtain ⟨⟨rfl, rfl⟩, g6, hI7⟩ := hPo
    generalize hq5 : f_X11_load a2 q1 = q5 at h g6 hI7 ⊢
    obtain ⟨r5, M5⟩ := q5
    have h := xb_eq h
    try dsimp only at h g6 hI7
    show V 0 0 20 [(0, .ref 14), (1, .int a1), (2, .int a2), (3, .int a3)] [.int r5] LAY (M5, L)
    refine x_lv C [0, 1, 2] rfl ?_
    exact b_X11_one_20 r C a1 a2 r5 M5 hI7 h
  · rw [if_pos c4] at h
    have g8 : xrg 1 1 a1 := (x_c_eq (x_rgt a1) (x_rgc (x := 1) (k := 1) (by decide)) c4).1
    refine x_run C e_X11_one_4 e_X11_one_4_k (pc' := 12) (lv' := [(0, .ref 14), (1, .int a1), (2, .int a2), (3, .int a3)]) (st' := [.int 0]) (σ' := (q1, L)) rfl ⟨trivial, trivial⟩ ?_
    refine x_goto C (show decode cX11_one 12 = .ok (.goto 8, 3) from by decide +kernel) (tgt := 20) (by decide) ?_
    refine x_lv C [0, 1, 2] rfl ?_
    exact b_X11_one_20 r C a1 a2 0 q1 hI3 h
-- X11_tens
def e_X11_tens_1 : List xI := [(0, .aload_n 0, 1, .null), (1, .bipush 16, 2, .int 16)]
theorem e_X11_tens_1_k : e_X11_tens_1.all (fun q => xokB cX11_tens q && xokL q) = true := by decide +kernel
def e_X11_tens_2 : List xI := [(13, .iconst 0, 1, .int 0)]
theorem e_X11_tens_2_k : e_X11_tens_2.all (fun q => xokB cX11_tens q && xokL q) = true := by decide +kernel
def e_X11_tens_3 : List xI := [(9, .iconst 1, 1, .int 1)]
theorem e_X11_tens_3_k : e_X11_tens_3.all (fun q => xokB cX11_tens q && xokL q) = true := by decide +kernel
def e_X11_tens_4 : List xI := [(14, .istore 4, 2, .null), (16, .iload_n 3, 1, .null)]
theorem e_X11_tens_4_k : e_X11_tens_4.all (fun q => xokB cX11_tens q && xokL q) = true := by decide +kernel
def e_X11_tens_5 : List xI := [(35, .iload_n 1, 1, .null), (36, .bipush 15, 2, .int 15), (38, .iand, 1, .null), (39, .iload_n 2, 1, .null), (40, .bipush 15, 2, .int 15), (42, .iand, 1, .null), (43, .iadd, 1, .null), (44, .iload 4, 2, .null), (46, .iadd, 1, .null)]
theorem e_X11_tens_5_k : e_X11_tens_5.all (fun q => xokB cX11_tens q && xokL q) = true := by decide +kernel
def e_X11_tens_6 : List xI := [(20, .iload_n 2, 1, .null), (21, .bipush 15, 2, .int 15), (23, .iand, 1, .null), (24, .iload_n 1, 1, .null), (25, .bipush 15, 2, .int 15), (27, .iand, 1, .null), (28, .isub, 1, .null), (29, .iload 4, 2, .null), (31, .isub, 1, .null)]
theorem e_X11_tens_6_k : e_X11_tens_6.all (fun q => xokB cX11_tens q && xokL q) = true := by decide +kernel
def e_X11_tens_7 : List xI := [(47, .istore 5, 2, .null), (49, .iload_n 3, 1, .null)]
theorem e_X11_tens_7_k : e_X11_tens_7.all (fun q => xokB cX11_tens q && xokL q) = true := by decide +kernel
def e_X11_tens_8 : List xI := [(77, .iload 5, 2, .null), (79, .bipush 9, 2, .int 9)]
theorem e_X11_tens_8_k : e_X11_tens_8.all (fun q => xokB cX11_tens q && xokL q) = true := by decide +kernel
def e_X11_tens_9 : List xI := [(92, .iload 5, 2, .null)]
theorem e_X11_tens_9_k : e_X11_tens_9.all (fun q => xokB cX11_tens q && xokL q) = true := by decide +kernel
def e_X11_tens_10 : List xI := [(84, .iload 5, 2, .null), (86, .bipush 6, 2, .int 6), (88, .iadd, 1, .null)]
theorem e_X11_tens_10_k : e_X11_tens_10.all (fun q => xokB cX11_tens q && xokL q) = true := by decide +kernel
def e_X11_tens_11 : List xI := [(53, .iload 5, 2, .null)]
theorem e_X11_tens_11_k : e_X11_tens_11.all (fun q => xokB cX11_tens q && xokL q) = true := by decide +kernel
def e_X11_tens_12 : List xI := [(66, .iload 5, 2, .null)]
theorem e_X11_tens_12_k : e_X11_tens_12.all (fun q => xokB cX11_tens q && xokL q) = true := by decide +kernel
def e_X11_tens_13 : List xI := [(58, .iload 5, 2, .null), (60, .bipush 6, 2, .int 6), (62, .isub, 1, .null)]
theorem e_X11_tens_13_k : e_X11_tens_13.all (fun q => xokB cX11_tens q && xokL q) = true := by decide +kernel
def e_X11_tens_14 : List xI := [(94, .iload_n 1, 1, .null), (95, .sipush 240, 3, .int 240), (98, .iand, 1, .null), (99, .iadd, 1, .null)]
theorem e_X11_tens_14_k : e_X11_tens_14.all (fun q => xokB cX11_tens q && xokL q) = true := by decide +kernel
def e_X11_tens_15 : List xI := [(68, .iload_n 1, 1, .null), (69, .sipush 240, 3, .int 240), (72, .iand, 1, .null), (73, .isub, 1, .null)]
theorem e_X11_tens_15_k : e_X11_tens_15.all (fun q => xokB cX11_tens q && xokL q) = true := by decide +kernel
def e_X11_tens_16 : List xI := [(100, .istore 5, 2, .null), (102, .iload 5, 2, .null), (104, .iload_n 2, 1, .null), (105, .sipush 240, 3, .int 240), (108, .iand, 1, .null), (109, .iadd, 1, .null), (110, .istore 5, 2, .null), (112, .iload_n 3, 1, .null)]
theorem e_X11_tens_16_k : e_X11_tens_16.all (fun q => xokB cX11_tens q && xokL q) = true := by decide +kernel
def e_X11_tens_17 : List xI := [(129, .iload 5, 2, .null), (131, .sipush 159, 3, .int 159)]
theorem e_X11_tens_17_k : e_X11_tens_17.all (fun q => xokB cX11_tens q && xokL q) = true := by decide +kernel
def e_X11_tens_18 : List xI := [(141, .iconst 0, 1, .int 0)]
theorem e_X11_tens_18_k : e_X11_tens_18.all (fun q => xokB cX11_tens q && xokL q) = true := by decide +kernel
def e_X11_tens_19 : List xI := [(137, .iconst 1, 1, .int 1)]
theorem e_X11_tens_19_k : e_X11_tens_19.all (fun q => xokB cX11_tens q && xokL q) = true := by decide +kernel
def e_X11_tens_20 : List xI := [(116, .iload 5, 2, .null)]
theorem e_X11_tens_20_k : e_X11_tens_20.all (fun q => xokB cX11_tens q && xokL q) = true := by decide +kernel
def e_X11_tens_21 : List xI := [(125, .iconst 0, 1, .int 0)]
theorem e_X11_tens_21_k : e_X11_tens_21.all (fun q => xokB cX11_tens q && xokL q) = true := by decide +kernel
def e_X11_tens_22 : List xI := [(121, .iconst 1, 1, .int 1)]
theorem e_X11_tens_22_k : e_X11_tens_22.all (fun q => xokB cX11_tens q && xokL q) = true := by decide +kernel
def e_X11_tens_23 : List xI := [(142, .istore 6, 2, .null), (144, .iload 6, 2, .null)]
theorem e_X11_tens_23_k : e_X11_tens_23.all (fun q => xokB cX11_tens q && xokL q) = true := by decide +kernel
def e_X11_tens_24 : List xI := [(154, .iload_n 3, 1, .null)]
theorem e_X11_tens_24_k : e_X11_tens_24.all (fun q => xokB cX11_tens q && xokL q) = true := by decide +kernel
def e_X11_tens_25 : List xI := [(166, .iload 5, 2, .null), (168, .bipush 96, 2, .int 96), (170, .iadd, 1, .null)]
theorem e_X11_tens_25_k : e_X11_tens_25.all (fun q => xokB cX11_tens q && xokL q) = true := by decide +kernel
def e_X11_tens_26 : List xI := [(158, .iload 5, 2, .null), (160, .bipush 96, 2, .int 96), (162, .isub, 1, .null)]
theorem e_X11_tens_26_k : e_X11_tens_26.all (fun q => xokB cX11_tens q && xokL q) = true := by decide +kernel
def e_X11_tens_27 : List xI := [(149, .iload 5, 2, .null)]
theorem e_X11_tens_27_k : e_X11_tens_27.all (fun q => xokB cX11_tens q && xokL q) = true := by decide +kernel
def e_X11_tens_28 : List xI := [(171, .istore 5, 2, .null), (173, .aload_n 0, 1, .null), (174, .bipush 17, 2, .int 17), (176, .iload 6, 2, .null)]
theorem e_X11_tens_28_k : e_X11_tens_28.all (fun q => xokB cX11_tens q && xokL q) = true := by decide +kernel
def e_X11_tens_29 : List xI := [(181, .aload_n 0, 1, .null), (182, .bipush 8, 2, .int 8), (184, .iload 5, 2, .null), (186, .sipush 128, 3, .int 128), (189, .iand, 1, .null)]
theorem e_X11_tens_29_k : e_X11_tens_29.all (fun q => xokB cX11_tens q && xokL q) = true := by decide +kernel
def e_X11_tens_30 : List xI := [(197, .iconst 0, 1, .int 0)]
theorem e_X11_tens_30_k : e_X11_tens_30.all (fun q => xokB cX11_tens q && xokL q) = true := by decide +kernel
def e_X11_tens_31 : List xI := [(193, .iconst 1, 1, .int 1)]
theorem e_X11_tens_31_k : e_X11_tens_31.all (fun q => xokB cX11_tens q && xokL q) = true := by decide +kernel
def e_X11_tens_32 : List xI := [(201, .aload_n 0, 1, .null), (202, .iconst 2, 1, .int 2), (203, .iconst 0, 1, .int 0)]
theorem e_X11_tens_32_k : e_X11_tens_32.all (fun q => xokB cX11_tens q && xokL q) = true := by decide +kernel
def e_X11_tens_33 : List xI := [(207, .iload 5, 2, .null), (209, .sipush 255, 3, .int 255), (212, .iand, 1, .null)]
theorem e_X11_tens_33_k : e_X11_tens_33.all (fun q => xokB cX11_tens q && xokL q) = true := by decide +kernel
def e_X11_tens_34 : List xI := [(222, .iload 5, 2, .null), (224, .sipush 255, 3, .int 255), (227, .iand, 1, .null)]
theorem e_X11_tens_34_k : e_X11_tens_34.all (fun q => xokB cX11_tens q && xokL q) = true := by decide +kernel
def e_X11_tens_35 : List xI := [(216, .aload_n 0, 1, .null), (217, .iconst 4, 1, .int 4), (218, .iconst 0, 1, .int 0)]
theorem e_X11_tens_35_k : e_X11_tens_35.all (fun q => xokB cX11_tens q && xokL q) = true := by decide +kernel
abbrev P_X11_tens (r : Int32 × St) (L : Nat → Nat → Int64) : Option Value → xG → Prop := fun v σ' => PoI r.1 r.2 L v σ' ∧ xrg 0 255 r.1 ∧ Inv INVM r.2
abbrev R_X11_tens : Room := { frames := 1, cells := 0, slots := 0, locals := 22 }
abbrev C_X11_tens (l : Launch) (r : Int32 × St) (L : Nat → Nat → Int64) (V : XJ) : Prop := XC l yX11_tens.cls yX11_tens.name cX11_tens 7 R_X11_tens 0 0 fl_X11 kc_X11 LAY.length (xfin (some .int) LAY (P_X11_tens r L)) V
def f_X11_tens_198 (x5 : Int32) (s0 : Int32) (s1 : Int32) (M : St) : Int32 × St := (xb (f_X11_flag s1 s0 M) fun q36 => (xb (f_X11_flag 2 0 q36) fun q39 => (if (x5 &&& 255) = 0 then ((x5 &&& 255), q39) else (xb (f_X11_flag 4 0 q39) fun q45 => ((x5 &&& 255), q45)))))
def f_X11_tens_171 (x6 : Int32) (s0 : Int32) (M : St) : Int32 × St := (xb (f_X11_flag 17 x6 M) fun q30 => (if (s0 &&& 128) = 0 then f_X11_tens_198 s0 0 8 q30 else f_X11_tens_198 s0 1 8 q30))
def f_X11_tens_142 (x3 : Int32) (x5 : Int32) (s0 : Int32) (M : St) : Int32 × St := (if s0 = 0 then f_X11_tens_171 s0 x5 M else (if x3 = 0 then f_X11_tens_171 s0 (x5 + 96) M else f_X11_tens_171 s0 (x5 - 96) M))
def f_X11_tens_100 (x2 : Int32) (x3 : Int32) (s0 : Int32) (M : St) : Int32 × St := (if x3 = 0 then (if (s0 + (x2 &&& 240)) ≤ 159 then f_X11_tens_142 x3 (s0 + (x2 &&& 240)) 0 M else f_X11_tens_142 x3 (s0 + (x2 &&& 240)) 1 M) else (if 0 ≤ (s0 + (x2 &&& 240)) then f_X11_tens_142 x3 (s0 + (x2 &&& 240)) 0 M else f_X11_tens_142 x3 (s0 + (x2 &&& 240)) 1 M))
def f_X11_tens_94 (x1 : Int32) (x2 : Int32) (x3 : Int32) (s0 : Int32) (M : St) : Int32 × St := f_X11_tens_100 x2 x3 (s0 + (x1 &&& 240)) M
def f_X11_tens_68 (x1 : Int32) (x2 : Int32) (x3 : Int32) (s0 : Int32) (M : St) : Int32 × St := f_X11_tens_100 x2 x3 (s0 - (x1 &&& 240)) M
def f_X11_tens_47 (x1 : Int32) (x2 : Int32) (x3 : Int32) (s0 : Int32) (M : St) : Int32 × St := (if x3 = 0 then (if s0 ≤ 9 then f_X11_tens_94 x1 x2 x3 s0 M else f_X11_tens_94 x1 x2 x3 (s0 + 6) M) else (if 0 ≤ s0 then f_X11_tens_68 x1 x2 x3 s0 M else f_X11_tens_68 x1 x2 x3 (s0 - 6) M))
def f_X11_tens_14 (x1 : Int32) (x2 : Int32) (x3 : Int32) (s0 : Int32) (M : St) : Int32 × St := (if x3 = 0 then f_X11_tens_47 x1 x2 x3 (((x1 &&& 15) + (x2 &&& 15)) + s0) M else f_X11_tens_47 x1 x2 x3 (((x2 &&& 15) - (x1 &&& 15)) - s0) M)
def f_X11_tens (a1 : Int32) (a2 : Int32) (a3 : Int32) (M : St) : Int32 × St := (if (f_X11_has 16 M) = 0 then f_X11_tens_14 a1 a2 a3 0 M else f_X11_tens_14 a1 a2 a3 1 M)
set_option maxRecDepth 20000 in
set_option maxHeartbeats 4000000 in
theorem b_X11_tens_198 {l : Launch} {L : Nat → Nat → Int64} {V : XJ} (r : Int32 × St) (C : C_X11_tens l r L V) (x5 : Int32) (s0 : Int32) (s1 : Int32) (M : St) (wx5 : xrg (-358) 613 x5) (ws0 : xrg 0 1 s0) (ws1 : xrg 8 8 s1) (hI : Inv INVM M) (h : f_X11_tens_198 x5 s0 s1 M = r) : V 0 0 198 [(0, .ref 14), (5, .int x5)] [.int s0, .int s1, .ref 14] LAY (M, L) := by
  unfold f_X11_tens_198 at h
  refine x_callV C (k := 14) (ci := 8) (rest := []) (avs := [.int s1, .int s0]) (k_X11_flag l s1 s0 M L hI) yoX11_flag ml_X11_135 rfl rfl rfl rfl ⟨Nat.zero_le _, Nat.zero_le _⟩ (show decode cX11_tens 198 = .ok (.invokevirtual 135, 3) from by decide +kernel) rfl (fun v σ' hPo => ?_)
  obtain ⟨⟨rfl, rfl⟩, hI38⟩ := hPo
  generalize hq36 : f_X11_flag s1 s0 M = q36 at h hI38 ⊢
  have h := xb_eq h
  show V 0 0 201 [(0, .ref 14), (5, .int x5)] [] LAY (q36, L)
  refine x_run C e_X11_tens_32 e_X11_tens_32_k (pc' := 204) (lv' := [(0, .ref 14), (5, .int x5)]) (st' := [.int 0, .int 2, .ref 14]) (σ' := (q36, L)) rfl ⟨trivial, trivial, trivial, trivial⟩ ?_
  refine x_callV C (k := 14) (ci := 8) (rest := []) (avs := [.int 2, .int 0]) (k_X11_flag l 2 0 q36 L hI38) yoX11_flag ml_X11_135 rfl rfl rfl rfl ⟨Nat.zero_le _, Nat.zero_le _⟩ (show decode cX11_tens 204 = .ok (.invokevirtual 135, 3) from by decide +kernel) rfl (fun v σ' hPo => ?_)
  obtain ⟨⟨rfl, rfl⟩, hI41⟩ := hPo
  generalize hq39 : f_X11_flag 2 0 q36 = q39 at h hI41 ⊢
  have h := xb_eq h
  show V 0 0 207 [(0, .ref 14), (5, .int x5)] [] LAY (q39, L)
  refine x_run C e_X11_tens_33 e_X11_tens_33_k (pc' := 213) (lv' := [(0, .ref 14), (5, .int x5)]) (st' := [.int (x5 &&& 255)]) (σ' := (q39, L)) rfl ⟨trivial, trivial, trivial, trivial⟩ ?_
  refine x_if_eq C (show decode cX11_tens 213 = .ok (.ifCond .eq 9, 3) from by decide +kernel) (tgt := 222) (by decide) (fun c42 => ?_) (fun c42 => ?_)
  · rw [if_pos c42] at h
    have g43 : xrg 0 0 (x5 &&& 255) := (x_c_eq (x_rg_and (x := x5) (m := 255) (k := 255) (by decide) (by decide)) (x_rgc (x := 0) (k := 0) (by decide)) c42).1
    refine x_run C e_X11_tens_34 e_X11_tens_34_k (pc' := 228) (lv' := [(0, .ref 14), (5, .int x5)]) (st' := [.int (x5 &&& 255)]) (σ' := (q39, L)) rfl ⟨trivial, trivial, trivial, trivial⟩ ?_
    subst h
    exact x_iret C (show decode cX11_tens 228 = .ok (.ireturn, 1) from by decide +kernel) (x_finI rfl ⟨⟨rfl, rfl⟩, (x_rg_and (x := x5) (m := 255) (k := 255) (by decide) (by decide)), hI41⟩) (Nat.le_refl 0) (Nat.le_refl 0)
  · rw [if_neg c42] at h
    have g44 : xrg 1 255 (x5 &&& 255) := (x_c_ne (x_rg_and (x := x5) (m := 255) (k := 255) (by decide) (by decide)) (by decide) c42)
    refine x_run C e_X11_tens_35 e_X11_tens_35_k (pc' := 219) (lv' := [(0, .ref 14), (5, .int x5)]) (st' := [.int 0, .int 4, .ref 14]) (σ' := (q39, L)) rfl ⟨trivial, trivial, trivial, trivial⟩ ?_
    refine x_callV C (k := 14) (ci := 8) (rest := []) (avs := [.int 4, .int 0]) (k_X11_flag l 4 0 q39 L hI41) yoX11_flag ml_X11_135 rfl rfl rfl rfl ⟨Nat.zero_le _, Nat.zero_le _⟩ (show decode cX11_tens 219 = .ok (.invokevirtual 135, 3) from by decide +kernel) rfl (fun v σ' hPo => ?_)
    obtain ⟨⟨rfl, rfl⟩, hI47⟩ := hPo
    generalize hq45 : f_X11_flag 4 0 q39 = q45 at h hI47 ⊢
    have h := xb_eq h
    show V 0 0 222 [(0, .ref 14), (5, .int x5)] [] LAY (q45, L)
    refine x_run C e_X11_tens_34 e_X11_tens_34_k (pc' := 228) (lv' := [(0, .ref 14), (5, .int x5)]) (st' := [.int (x5 &&& 255)]) (σ' := (q45, L)) rfl ⟨trivial, trivial, trivial, trivial⟩ ?_
    subst h
    exact x_iret C (show decode cX11_tens 228 = .ok (.ireturn, 1) from by decide +kernel) (x_finI rfl ⟨⟨rfl, rfl⟩, (x_rg_and (x := x5) (m := 255) (k := 255) (by decide) (by decide)), hI47⟩) (Nat.le_refl 0) (Nat.le_refl 0)
set_option maxRecDepth 20000 in
set_option maxHeartbeats 4000000 in
theorem b_X11_tens_171 {l : Launch} {L : Nat → Nat → Int64} {V : XJ} (r : Int32 × St) (C : C_X11_tens l r L V) (x6 : Int32) (s0 : Int32) (M : St) (wx6 : xrg 0 1 x6) (ws0 : xrg (-358) 613 s0) (hI : Inv INVM M) (h : f_X11_tens_171 x6 s0 M = r) : V 0 0 171 [(0, .ref 14), (6, .int x6)] [.int s0] LAY (M, L) := by
  unfold f_X11_tens_171 at h
  refine x_run C e_X11_tens_28 e_X11_tens_28_k (pc' := 178) (lv' := [(5, .int s0), (0, .ref 14), (6, .int x6)]) (st' := [.int x6, .int 17, .ref 14]) (σ' := (M, L)) rfl ⟨trivial, trivial, trivial, trivial, trivial⟩ ?_
  refine x_callV C (k := 14) (ci := 8) (rest := []) (avs := [.int 17, .int x6]) (k_X11_flag l 17 x6 M L hI) yoX11_flag ml_X11_135 rfl rfl rfl rfl ⟨Nat.zero_le _, Nat.zero_le _⟩ (show decode cX11_tens 178 = .ok (.invokevirtual 135, 3) from by decide +kernel) rfl (fun v σ' hPo => ?_)
  obtain ⟨⟨rfl, rfl⟩, hI32⟩ := hPo
  generalize hq30 : f_X11_flag 17 x6 M = q30 at h hI32 ⊢
  have h := xb_eq h
  show V 0 0 181 [(5, .int s0), (0, .ref 14), (6, .int x6)] [] LAY (q30, L)
  refine x_run C e_X11_tens_29 e_X11_tens_29_k (pc' := 190) (lv' := [(5, .int s0), (0, .ref 14), (6, .int x6)]) (st' := [.int (s0 &&& 128), .int 8, .ref 14]) (σ' := (q30, L)) rfl ⟨trivial, trivial, trivial, trivial, trivial, trivial⟩ ?_
  refine x_if_eq C (show decode cX11_tens 190 = .ok (.ifCond .eq 7, 3) from by decide +kernel) (tgt := 197) (by decide) (fun c33 => ?_) (fun c33 => ?_)
  · rw [if_pos c33] at h
    have g34 : xrg 0 0 (s0 &&& 128) := (x_c_eq (x_rg_and (x := s0) (m := 128) (k := 128) (by decide) (by decide)) (x_rgc (x := 0) (k := 0) (by decide)) c33).1
    refine x_run C e_X11_tens_30 e_X11_tens_30_k (pc' := 198) (lv' := [(5, .int s0), (0, .ref 14), (6, .int x6)]) (st' := [.int 0, .int 8, .ref 14]) (σ' := (q30, L)) rfl ⟨trivial, trivial⟩ ?_
    refine x_lv C [1, 0] rfl ?_
    exact b_X11_tens_198 r C s0 0 8 q30 ws0 (x_rgw (x_rgc (x := 0) (k := 0) (by decide)) (lo' := 0) (hi' := 1) (by decide) (by decide)) (x_rgc (x := 8) (k := 8) (by decide)) hI32 h
  · rw [if_neg c33] at h
    have g35 : xrg 1 128 (s0 &&& 128) := (x_c_ne (x_rg_and (x := s0) (m := 128) (k := 128) (by decide) (by decide)) (by decide) c33)
    refine x_run C e_X11_tens_31 e_X11_tens_31_k (pc' := 194) (lv' := [(5, .int s0), (0, .ref 14), (6, .int x6)]) (st' := [.int 1, .int 8, .ref 14]) (σ' := (q30, L)) rfl ⟨trivial, trivial⟩ ?_
    refine x_goto C (show decode cX11_tens 194 = .ok (.goto 4, 3) from by decide +kernel) (tgt := 198) (by decide) ?_
    refine x_lv C [1, 0] rfl ?_
    exact b_X11_tens_198 r C s0 1 8 q30 ws0 (x_rgw (x_rgc (x := 1) (k := 1) (by decide)) (lo' := 0) (hi' := 1) (by decide) (by decide)) (x_rgc (x := 8) (k := 8) (by decide)) hI32 h
set_option maxRecDepth 20000 in
set_option maxHeartbeats 4000000 in
theorem b_X11_tens_142 {l : Launch} {L : Nat → Nat → Int64} {V : XJ} (r : Int32 × St) (C : C_X11_tens l r L V) (x3 : Int32) (x5 : Int32) (s0 : Int32) (M : St) (wx5 : xrg (-262) 517 x5) (ws0 : xrg 0 1 s0) (hI : Inv INVM M) (h : f_X11_tens_142 x3 x5 s0 M = r) : V 0 0 142 [(0, .ref 14), (3, .int x3), (5, .int x5)] [.int s0] LAY (M, L) := by
  unfold f_X11_tens_142 at h
  refine x_run C e_X11_tens_23 e_X11_tens_23_k (pc' := 146) (lv' := [(6, .int s0), (0, .ref 14), (3, .int x3), (5, .int x5)]) (st' := [.int s0]) (σ' := (M, L)) rfl ⟨trivial, trivial, trivial⟩ ?_
  refine x_if_ne C (show decode cX11_tens 146 = .ok (.ifCond .ne 8, 3) from by decide +kernel) (tgt := 154) (by decide) (fun c25 => ?_) (fun c25 => ?_)
  · rw [if_neg c25] at h
    have g26 : xrg 1 1 s0 := (x_c_ne ws0 (by decide) c25)
    refine x_run C e_X11_tens_24 e_X11_tens_24_k (pc' := 155) (lv' := [(6, .int s0), (0, .ref 14), (3, .int x3), (5, .int x5)]) (st' := [.int x3]) (σ' := (M, L)) rfl ⟨trivial, trivial⟩ ?_
    refine x_if_eq C (show decode cX11_tens 155 = .ok (.ifCond .eq 11, 3) from by decide +kernel) (tgt := 166) (by decide) (fun c27 => ?_) (fun c27 => ?_)
    · rw [if_pos c27] at h
      have g28 : xrg 0 0 x3 := (x_c_eq (x_rgt x3) (x_rgc (x := 0) (k := 0) (by decide)) c27).1
      refine x_run C e_X11_tens_25 e_X11_tens_25_k (pc' := 171) (lv' := [(6, .int s0), (0, .ref 14), (3, .int x3), (5, .int x5)]) (st' := [.int (x5 + 96)]) (σ' := (M, L)) rfl ⟨trivial, trivial, trivial, trivial⟩ ?_
      refine x_lv C [1, 0] rfl ?_
      exact b_X11_tens_171 r C s0 (x5 + 96) M (x_rgw g26 (lo' := 0) (hi' := 1) (by decide) (by decide)) (x_rgw (x_rg_add wx5 (x_rgc (x := 96) (k := 96) (by decide)) (by decide) (by decide)) (lo' := (-358)) (hi' := 613) (by decide) (by decide)) hI h
    · rw [if_neg c27] at h
      refine x_run C e_X11_tens_26 e_X11_tens_26_k (pc' := 163) (lv' := [(6, .int s0), (0, .ref 14), (3, .int x3), (5, .int x5)]) (st' := [.int (x5 - 96)]) (σ' := (M, L)) rfl ⟨trivial, trivial, trivial, trivial⟩ ?_
      refine x_goto C (show decode cX11_tens 163 = .ok (.goto 8, 3) from by decide +kernel) (tgt := 171) (by decide) ?_
      refine x_lv C [1, 0] rfl ?_
      exact b_X11_tens_171 r C s0 (x5 - 96) M (x_rgw g26 (lo' := 0) (hi' := 1) (by decide) (by decide)) (x_rgw (x_rg_sub wx5 (x_rgc (x := 96) (k := 96) (by decide)) (by decide) (by decide)) (lo' := (-358)) (hi' := 613) (by decide) (by decide)) hI h
  · rw [if_pos c25] at h
    have g29 : xrg 0 0 s0 := (x_c_eq ws0 (x_rgc (x := 0) (k := 0) (by decide)) c25).1
    refine x_run C e_X11_tens_27 e_X11_tens_27_k (pc' := 151) (lv' := [(6, .int s0), (0, .ref 14), (3, .int x3), (5, .int x5)]) (st' := [.int x5]) (σ' := (M, L)) rfl ⟨trivial, trivial⟩ ?_
    refine x_goto C (show decode cX11_tens 151 = .ok (.goto 20, 3) from by decide +kernel) (tgt := 171) (by decide) ?_
    refine x_lv C [1, 0] rfl ?_
    exact b_X11_tens_171 r C s0 x5 M (x_rgw g29 (lo' := 0) (hi' := 1) (by decide) (by decide)) (x_rgw wx5 (lo' := (-358)) (hi' := 613) (by decide) (by decide)) hI h
set_option maxRecDepth 20000 in
set_option maxHeartbeats 4000000 in
theorem b_X11_tens_100 {l : Launch} {L : Nat → Nat → Int64} {V : XJ} (r : Int32 × St) (C : C_X11_tens l r L V) (x2 : Int32) (x3 : Int32) (s0 : Int32) (M : St) (ws0 : xrg (-262) 277 s0) (hI : Inv INVM M) (h : f_X11_tens_100 x2 x3 s0 M = r) : V 0 0 100 [(0, .ref 14), (2, .int x2), (3, .int x3)] [.int s0] LAY (M, L) := by
  unfold f_X11_tens_100 at h
  refine x_run C e_X11_tens_16 e_X11_tens_16_k (pc' := 113) (lv' := [(5, .int (s0 + (x2 &&& 240))), (0, .ref 14), (2, .int x2), (3, .int x3)]) (st' := [.int x3]) (σ' := (M, L)) rfl ⟨trivial, trivial, trivial, trivial, trivial, trivial, trivial, trivial, trivial⟩ ?_
  refine x_if_eq C (show decode cX11_tens 113 = .ok (.ifCond .eq 16, 3) from by decide +kernel) (tgt := 129) (by decide) (fun c17 => ?_) (fun c17 => ?_)
  · rw [if_pos c17] at h
    have g18 : xrg 0 0 x3 := (x_c_eq (x_rgt x3) (x_rgc (x := 0) (k := 0) (by decide)) c17).1
    refine x_run C e_X11_tens_17 e_X11_tens_17_k (pc' := 134) (lv' := [(5, .int (s0 + (x2 &&& 240))), (0, .ref 14), (2, .int x2), (3, .int x3)]) (st' := [.int 159, .int (s0 + (x2 &&& 240))]) (σ' := (M, L)) rfl ⟨trivial, trivial, trivial⟩ ?_
    refine x_icmp_le C (show decode cX11_tens 134 = .ok (.if_icmp .le 7, 3) from by decide +kernel) (tgt := 141) (by decide) (fun c19 => ?_) (fun c19 => ?_)
    · rw [if_pos c19] at h
      have g20 : xrg (-262) 159 (s0 + (x2 &&& 240)) := (x_c_le (x_rg_add ws0 (x_rg_and (x := x2) (m := 240) (k := 240) (by decide) (by decide)) (by decide) (by decide)) (x_rgc (x := 159) (k := 159) (by decide)) c19).1
      refine x_run C e_X11_tens_18 e_X11_tens_18_k (pc' := 142) (lv' := [(5, .int (s0 + (x2 &&& 240))), (0, .ref 14), (2, .int x2), (3, .int x3)]) (st' := [.int 0]) (σ' := (M, L)) rfl ⟨trivial, trivial⟩ ?_
      refine x_lv C [1, 3, 0] rfl ?_
      exact b_X11_tens_142 r C x3 (s0 + (x2 &&& 240)) 0 M (x_rgw g20 (lo' := (-262)) (hi' := 517) (by decide) (by decide)) (x_rgw (x_rgc (x := 0) (k := 0) (by decide)) (lo' := 0) (hi' := 1) (by decide) (by decide)) hI h
    · rw [if_neg c19] at h
      have g21 : xrg 160 517 (s0 + (x2 &&& 240)) := (x_c_nle (x_rg_add ws0 (x_rg_and (x := x2) (m := 240) (k := 240) (by decide) (by decide)) (by decide) (by decide)) (x_rgc (x := 159) (k := 159) (by decide)) c19).1
      refine x_run C e_X11_tens_19 e_X11_tens_19_k (pc' := 138) (lv' := [(5, .int (s0 + (x2 &&& 240))), (0, .ref 14), (2, .int x2), (3, .int x3)]) (st' := [.int 1]) (σ' := (M, L)) rfl ⟨trivial, trivial⟩ ?_
      refine x_goto C (show decode cX11_tens 138 = .ok (.goto 4, 3) from by decide +kernel) (tgt := 142) (by decide) ?_
      refine x_lv C [1, 3, 0] rfl ?_
      exact b_X11_tens_142 r C x3 (s0 + (x2 &&& 240)) 1 M (x_rgw g21 (lo' := (-262)) (hi' := 517) (by decide) (by decide)) (x_rgw (x_rgc (x := 1) (k := 1) (by decide)) (lo' := 0) (hi' := 1) (by decide) (by decide)) hI h
  · rw [if_neg c17] at h
    refine x_run C e_X11_tens_20 e_X11_tens_20_k (pc' := 118) (lv' := [(5, .int (s0 + (x2 &&& 240))), (0, .ref 14), (2, .int x2), (3, .int x3)]) (st' := [.int (s0 + (x2 &&& 240))]) (σ' := (M, L)) rfl ⟨trivial, trivial⟩ ?_
    refine x_if_ge C (show decode cX11_tens 118 = .ok (.ifCond .ge 7, 3) from by decide +kernel) (tgt := 125) (by decide) (fun c22 => ?_) (fun c22 => ?_)
    · rw [if_pos c22] at h
      have g23 : xrg 0 517 (s0 + (x2 &&& 240)) := (x_c_le (x_rgc (x := 0) (k := 0) (by decide)) (x_rg_add ws0 (x_rg_and (x := x2) (m := 240) (k := 240) (by decide) (by decide)) (by decide) (by decide)) c22).2
      refine x_run C e_X11_tens_21 e_X11_tens_21_k (pc' := 126) (lv' := [(5, .int (s0 + (x2 &&& 240))), (0, .ref 14), (2, .int x2), (3, .int x3)]) (st' := [.int 0]) (σ' := (M, L)) rfl ⟨trivial, trivial⟩ ?_
      refine x_goto C (show decode cX11_tens 126 = .ok (.goto 16, 3) from by decide +kernel) (tgt := 142) (by decide) ?_
      refine x_lv C [1, 3, 0] rfl ?_
      exact b_X11_tens_142 r C x3 (s0 + (x2 &&& 240)) 0 M (x_rgw g23 (lo' := (-262)) (hi' := 517) (by decide) (by decide)) (x_rgw (x_rgc (x := 0) (k := 0) (by decide)) (lo' := 0) (hi' := 1) (by decide) (by decide)) hI h
    · rw [if_neg c22] at h
      have g24 : xrg (-262) (-1) (s0 + (x2 &&& 240)) := (x_c_nle (x_rgc (x := 0) (k := 0) (by decide)) (x_rg_add ws0 (x_rg_and (x := x2) (m := 240) (k := 240) (by decide) (by decide)) (by decide) (by decide)) c22).2
      refine x_run C e_X11_tens_22 e_X11_tens_22_k (pc' := 122) (lv' := [(5, .int (s0 + (x2 &&& 240))), (0, .ref 14), (2, .int x2), (3, .int x3)]) (st' := [.int 1]) (σ' := (M, L)) rfl ⟨trivial, trivial⟩ ?_
      refine x_goto C (show decode cX11_tens 122 = .ok (.goto 20, 3) from by decide +kernel) (tgt := 142) (by decide) ?_
      refine x_lv C [1, 3, 0] rfl ?_
      exact b_X11_tens_142 r C x3 (s0 + (x2 &&& 240)) 1 M (x_rgw g24 (lo' := (-262)) (hi' := 517) (by decide) (by decide)) (x_rgw (x_rgc (x := 1) (k := 1) (by decide)) (lo' := 0) (hi' := 1) (by decide) (by decide)) hI h
set_option maxRecDepth 20000 in
set_option maxHeartbeats 4000000 in
theorem b_X11_tens_94 {l : Launch} {L : Nat → Nat → Int64} {V : XJ} (r : Int32 × St) (C : C_X11_tens l r L V) (x1 : Int32) (x2 : Int32) (x3 : Int32) (s0 : Int32) (M : St) (wx3 : xrg 0 0 x3) (ws0 : xrg (-16) 37 s0) (hI : Inv INVM M) (h : f_X11_tens_94 x1 x2 x3 s0 M = r) : V 0 0 94 [(0, .ref 14), (1, .int x1), (2, .int x2), (3, .int x3)] [.int s0] LAY (M, L) := by
  unfold f_X11_tens_94 at h
  refine x_run C e_X11_tens_14 e_X11_tens_14_k (pc' := 100) (lv' := [(0, .ref 14), (1, .int x1), (2, .int x2), (3, .int x3)]) (st' := [.int (s0 + (x1 &&& 240))]) (σ' := (M, L)) rfl ⟨trivial, trivial, trivial, trivial, trivial⟩ ?_
  refine x_lv C [0, 2, 3] rfl ?_
  exact b_X11_tens_100 r C x2 x3 (s0 + (x1 &&& 240)) M (x_rgw (x_rg_add ws0 (x_rg_and (x := x1) (m := 240) (k := 240) (by decide) (by decide)) (by decide) (by decide)) (lo' := (-262)) (hi' := 277) (by decide) (by decide)) hI h
set_option maxRecDepth 20000 in
set_option maxHeartbeats 4000000 in
theorem b_X11_tens_68 {l : Launch} {L : Nat → Nat → Int64} {V : XJ} (r : Int32 × St) (C : C_X11_tens l r L V) (x1 : Int32) (x2 : Int32) (x3 : Int32) (s0 : Int32) (M : St) (ws0 : xrg (-22) 31 s0) (hI : Inv INVM M) (h : f_X11_tens_68 x1 x2 x3 s0 M = r) : V 0 0 68 [(0, .ref 14), (1, .int x1), (2, .int x2), (3, .int x3)] [.int s0] LAY (M, L) := by
  unfold f_X11_tens_68 at h
  refine x_run C e_X11_tens_15 e_X11_tens_15_k (pc' := 74) (lv' := [(0, .ref 14), (1, .int x1), (2, .int x2), (3, .int x3)]) (st' := [.int (s0 - (x1 &&& 240))]) (σ' := (M, L)) rfl ⟨trivial, trivial, trivial, trivial, trivial⟩ ?_
  refine x_goto C (show decode cX11_tens 74 = .ok (.goto 26, 3) from by decide +kernel) (tgt := 100) (by decide) ?_
  refine x_lv C [0, 2, 3] rfl ?_
  exact b_X11_tens_100 r C x2 x3 (s0 - (x1 &&& 240)) M (x_rgw (x_rg_sub ws0 (x_rg_and (x := x1) (m := 240) (k := 240) (by decide) (by decide)) (by decide) (by decide)) (lo' := (-262)) (hi' := 277) (by decide) (by decide)) hI h
set_option maxRecDepth 20000 in
set_option maxHeartbeats 4000000 in
theorem b_X11_tens_47 {l : Launch} {L : Nat → Nat → Int64} {V : XJ} (r : Int32 × St) (C : C_X11_tens l r L V) (x1 : Int32) (x2 : Int32) (x3 : Int32) (s0 : Int32) (M : St) (ws0 : xrg (-16) 31 s0) (hI : Inv INVM M) (h : f_X11_tens_47 x1 x2 x3 s0 M = r) : V 0 0 47 [(0, .ref 14), (1, .int x1), (2, .int x2), (3, .int x3)] [.int s0] LAY (M, L) := by
  unfold f_X11_tens_47 at h
  refine x_run C e_X11_tens_7 e_X11_tens_7_k (pc' := 50) (lv' := [(5, .int s0), (0, .ref 14), (1, .int x1), (2, .int x2), (3, .int x3)]) (st' := [.int x3]) (σ' := (M, L)) rfl ⟨trivial, trivial, trivial⟩ ?_
  refine x_if_eq C (show decode cX11_tens 50 = .ok (.ifCond .eq 27, 3) from by decide +kernel) (tgt := 77) (by decide) (fun c9 => ?_) (fun c9 => ?_)
  · rw [if_pos c9] at h
    have g10 : xrg 0 0 x3 := (x_c_eq (x_rgt x3) (x_rgc (x := 0) (k := 0) (by decide)) c9).1
    refine x_run C e_X11_tens_8 e_X11_tens_8_k (pc' := 81) (lv' := [(5, .int s0), (0, .ref 14), (1, .int x1), (2, .int x2), (3, .int x3)]) (st' := [.int 9, .int s0]) (σ' := (M, L)) rfl ⟨trivial, trivial, trivial⟩ ?_
    refine x_icmp_le C (show decode cX11_tens 81 = .ok (.if_icmp .le 11, 3) from by decide +kernel) (tgt := 92) (by decide) (fun c11 => ?_) (fun c11 => ?_)
    · rw [if_pos c11] at h
      have g12 : xrg (-16) 9 s0 := (x_c_le ws0 (x_rgc (x := 9) (k := 9) (by decide)) c11).1
      refine x_run C e_X11_tens_9 e_X11_tens_9_k (pc' := 94) (lv' := [(5, .int s0), (0, .ref 14), (1, .int x1), (2, .int x2), (3, .int x3)]) (st' := [.int s0]) (σ' := (M, L)) rfl ⟨trivial, trivial⟩ ?_
      refine x_lv C [1, 2, 3, 4] rfl ?_
      exact b_X11_tens_94 r C x1 x2 x3 s0 M g10 (x_rgw g12 (lo' := (-16)) (hi' := 37) (by decide) (by decide)) hI h
    · rw [if_neg c11] at h
      have g13 : xrg 10 31 s0 := (x_c_nle ws0 (x_rgc (x := 9) (k := 9) (by decide)) c11).1
      refine x_run C e_X11_tens_10 e_X11_tens_10_k (pc' := 89) (lv' := [(5, .int s0), (0, .ref 14), (1, .int x1), (2, .int x2), (3, .int x3)]) (st' := [.int (s0 + 6)]) (σ' := (M, L)) rfl ⟨trivial, trivial, trivial, trivial⟩ ?_
      refine x_goto C (show decode cX11_tens 89 = .ok (.goto 5, 3) from by decide +kernel) (tgt := 94) (by decide) ?_
      refine x_lv C [1, 2, 3, 4] rfl ?_
      exact b_X11_tens_94 r C x1 x2 x3 (s0 + 6) M g10 (x_rgw (x_rg_add g13 (x_rgc (x := 6) (k := 6) (by decide)) (by decide) (by decide)) (lo' := (-16)) (hi' := 37) (by decide) (by decide)) hI h
  · rw [if_neg c9] at h
    refine x_run C e_X11_tens_11 e_X11_tens_11_k (pc' := 55) (lv' := [(5, .int s0), (0, .ref 14), (1, .int x1), (2, .int x2), (3, .int x3)]) (st' := [.int s0]) (σ' := (M, L)) rfl ⟨trivial, trivial⟩ ?_
    refine x_if_ge C (show decode cX11_tens 55 = .ok (.ifCond .ge 11, 3) from by decide +kernel) (tgt := 66) (by decide) (fun c14 => ?_) (fun c14 => ?_)
    · rw [if_pos c14] at h
      have g15 : xrg 0 31 s0 := (x_c_le (x_rgc (x := 0) (k := 0) (by decide)) ws0 c14).2
      refine x_run C e_X11_tens_12 e_X11_tens_12_k (pc' := 68) (lv' := [(5, .int s0), (0, .ref 14), (1, .int x1), (2, .int x2), (3, .int x3)]) (st' := [.int s0]) (σ' := (M, L)) rfl ⟨trivial, trivial⟩ ?_
      refine x_lv C [1, 2, 3, 4] rfl ?_
      exact b_X11_tens_68 r C x1 x2 x3 s0 M (x_rgw g15 (lo' := (-22)) (hi' := 31) (by decide) (by decide)) hI h
    · rw [if_neg c14] at h
      have g16 : xrg (-16) (-1) s0 := (x_c_nle (x_rgc (x := 0) (k := 0) (by decide)) ws0 c14).2
      refine x_run C e_X11_tens_13 e_X11_tens_13_k (pc' := 63) (lv' := [(5, .int s0), (0, .ref 14), (1, .int x1), (2, .int x2), (3, .int x3)]) (st' := [.int (s0 - 6)]) (σ' := (M, L)) rfl ⟨trivial, trivial, trivial, trivial⟩ ?_
      refine x_goto C (show decode cX11_tens 63 = .ok (.goto 5, 3) from by decide +kernel) (tgt := 68) (by decide) ?_
      refine x_lv C [1, 2, 3, 4] rfl ?_
      exact b_X11_tens_68 r C x1 x2 x3 (s0 - 6) M (x_rgw (x_rg_sub g16 (x_rgc (x := 6) (k := 6) (by decide)) (by decide) (by decide)) (lo' := (-22)) (hi' := 31) (by decide) (by decide)) hI h
set_option maxRecDepth 20000 in
set_option maxHeartbeats 4000000 in
theorem b_X11_tens_14 {l : Launch} {L : Nat → Nat → Int64} {V : XJ} (r : Int32 × St) (C : C_X11_tens l r L V) (x1 : Int32) (x2 : Int32) (x3 : Int32) (s0 : Int32) (M : St) (ws0 : xrg 0 1 s0) (hI : Inv INVM M) (h : f_X11_tens_14 x1 x2 x3 s0 M = r) : V 0 0 14 [(0, .ref 14), (1, .int x1), (2, .int x2), (3, .int x3)] [.int s0] LAY (M, L) := by
  unfold f_X11_tens_14 at h
  refine x_run C e_X11_tens_4 e_X11_tens_4_k (pc' := 17) (lv' := [(4, .int s0), (0, .ref 14), (1, .int x1), (2, .int x2), (3, .int x3)]) (st' := [.int x3]) (σ' := (M, L)) rfl ⟨trivial, trivial, trivial⟩ ?_
  refine x_if_eq C (show decode cX11_tens 17 = .ok (.ifCond .eq 18, 3) from by decide +kernel) (tgt := 35) (by decide) (fun c7 => ?_) (fun c7 => ?_)
  · rw [if_pos c7] at h
    have g8 : xrg 0 0 x3 := (x_c_eq (x_rgt x3) (x_rgc (x := 0) (k := 0) (by decide)) c7).1
    refine x_run C e_X11_tens_5 e_X11_tens_5_k (pc' := 47) (lv' := [(4, .int s0), (0, .ref 14), (1, .int x1), (2, .int x2), (3, .int x3)]) (st' := [.int (((x1 &&& 15) + (x2 &&& 15)) + s0)]) (σ' := (M, L)) rfl ⟨trivial, trivial, trivial, trivial, trivial, trivial, trivial, trivial, trivial, trivial⟩ ?_
    refine x_lv C [1, 2, 3, 4] rfl ?_
    exact b_X11_tens_47 r C x1 x2 x3 (((x1 &&& 15) + (x2 &&& 15)) + s0) M (x_rgw (x_rg_add (x_rg_add (x_rg_and (x := x1) (m := 15) (k := 15) (by decide) (by decide)) (x_rg_and (x := x2) (m := 15) (k := 15) (by decide) (by decide)) (by decide) (by decide)) ws0 (by decide) (by decide)) (lo' := (-16)) (hi' := 31) (by decide) (by decide)) hI h
  · rw [if_neg c7] at h
    refine x_run C e_X11_tens_6 e_X11_tens_6_k (pc' := 32) (lv' := [(4, .int s0), (0, .ref 14), (1, .int x1), (2, .int x2), (3, .int x3)]) (st' := [.int (((x2 &&& 15) - (x1 &&& 15)) - s0)]) (σ' := (M, L)) rfl ⟨trivial, trivial, trivial, trivial, trivial, trivial, trivial, trivial, trivial, trivial⟩ ?_
    refine x_goto C (show decode cX11_tens 32 = .ok (.goto 15, 3) from by decide +kernel) (tgt := 47) (by decide) ?_
    refine x_lv C [1, 2, 3, 4] rfl ?_
    exact b_X11_tens_47 r C x1 x2 x3 (((x2 &&& 15) - (x1 &&& 15)) - s0) M (x_rgw (x_rg_sub (x_rg_sub (x_rg_and (x := x2) (m := 15) (k := 15) (by decide) (by decide)) (x_rg_and (x := x1) (m := 15) (k := 15) (by decide) (by decide)) (by decide) (by decide)) ws0 (by decide) (by decide)) (lo' := (-16)) (hi' := 31) (by decide) (by decide)) hI h
set_option maxRecDepth 20000 in
set_option maxHeartbeats 4000000 in
theorem k_X11_tens (l : Launch) (a1 : Int32) (a2 : Int32) (a3 : Int32) (M : St) (L : Nat → Nat → Int64) (hI : Inv INVM M) : XM l yX11_tens cX11_tens 7 (some .int) R_X11_tens LAY [.ref 14, .int a1, .int a2, .int a3] (M, L) (P_X11_tens (f_X11_tens a1 a2 a3 M) L) := by
  refine XM.of (by decide) (Nat.le_of_ble_eq_true rfl) LAY_in cl_ok fl_X11_ok kc_X11_ok (fun V C => ?_)
  obtain ⟨r, h⟩ : ∃ r, f_X11_tens a1 a2 a3 M = r := ⟨_, rfl⟩
  rw [h] at C
  change C_X11_tens l r L V at C
  unfold f_X11_tens at h
  show V 0 0 0 [(0, .ref 14), (1, .int a1), (2, .int a2), (3, .int a3)] [] LAY (M, L)
  refine x_run C e_X11_tens_1 e_X11_tens_1_k (pc' := 3) (lv' := [(0, .ref 14), (1, .int a1), (2, .int a2), (3, .int a3)]) (st' := [.int 16, .ref 14]) (σ' := (M, L)) rfl ⟨trivial, trivial, trivial⟩ ?_
  refine x_callV C (k := 14) (ci := 8) (rest := []) (avs := [.int 16]) (k_X11_has l 16 M L hI) yoX11_has ml_X11_55 rfl rfl rfl rfl ⟨Nat.zero_le _, Nat.zero_le _⟩ (show decode cX11_tens 3 = .ok (.invokevirtual 55, 3) from by decide +kernel) rfl (fun v σ' hPo => ?_)
  obtain ⟨⟨rfl, rfl⟩, g2, hI3⟩ := hPo
  show V 0 0 6 [(0, .ref 14), (1, .int a1), (2, .int a2), (3, .int a3)] [.int (f_X11_has 16 M)] LAY (M, L)
  refine x_if_eq C (show decode cX11_tens 6 = .ok (.ifCond .eq 7, 3) from by decide +kernel) (tgt := 13) (by decide) (fun c4 => ?_) (fun c4 => ?_)
  · rw [if_pos c4] at h
    have g5 : xrg 0 0 (f_X11_has 16 M) := (x_c_eq g2 (x_rgc (x := 0) (k := 0) (by decide)) c4).1
    refine x_run C e_X11_tens_2 e_X11_tens_2_k (pc' := 14) (lv' := [(0, .ref 14), (1, .int a1), (2, .int a2), (3, .int a3)]) (st' := [.int 0]) (σ' := (M, L)) rfl ⟨trivial, trivial⟩ ?_
    exact b_X11_tens_14 r C a1 a2 a3 0 M (x_rgw (x_rgc (x := 0) (k := 0) (by decide)) (lo' := 0) (hi' := 1) (by decide) (by decide)) hI h
  · rw [if_neg c4] at h
    have g6 : xrg 1 1 (f_X11_has 16 M) := (x_c_ne g2 (by decide) c4)
    refine x_run C e_X11_tens_3 e_X11_tens_3_k (pc' := 10) (lv' := [(0, .ref 14), (1, .int a1), (2, .int a2), (3, .int a3)]) (st' := [.int 1]) (σ' := (M, L)) rfl ⟨trivial, trivial⟩ ?_
    refine x_goto C (show decode cX11_tens 10 = .ok (.goto 4, 3) from by decide +kernel) (tgt := 14) (by decide) ?_
    exact b_X11_tens_14 r C a1 a2 a3 1 M (x_rgw (x_rgc (x := 1) (k := 1) (by decide)) (lo' := 0) (hi' := 1) (by decide) (by decide)) hI h
