-- X11_type
def e_X11_type_1 : List xI := [(0, .aload_n 0, 1, .null), (1, .iconst 0, 1, .int 0), (2, .putfield 42, 3, .null), (5, .aload_n 0, 1, .null), (6, .getfield 67, 3, .null), (9, .bipush 16, 2, .int 16)]
theorem e_X11_type_1_k : e_X11_type_1.all (fun q => xokB cX11_type q && xokL q) = true := by decide +kernel
def e_X11_type_2 : List xI := [(16, .aload_n 0, 1, .null), (17, .getfield 30, 3, .null), (20, .aload_n 0, 1, .null), (21, .getfield 67, 3, .null), (24, .iload_n 1, 1, .null), (25, .sipush 255, 3, .int 255), (28, .iand, 1, .null), (29, .iastore, 1, .null), (30, .aload_n 0, 1, .null), (31, .dup, 1, .null), (32, .getfield 67, 3, .null), (35, .iconst 1, 1, .int 1), (36, .iadd, 1, .null), (37, .putfield 67, 3, .null), (40, .iconst 1, 1, .int 1)]
theorem e_X11_type_2_k : e_X11_type_2.all (fun q => xokB cX11_type q && xokL q) = true := by decide +kernel
def e_X11_type_3 : List xI := [(14, .iconst 0, 1, .int 0)]
theorem e_X11_type_3_k : e_X11_type_3.all (fun q => xokB cX11_type q && xokL q) = true := by decide +kernel
abbrev P_X11_type (r : Int32 × St) (L : Nat → Nat → Int64) : Option Value → xG → Prop := fun v σ' => PoI r.1 r.2 L v σ' ∧ xrg 0 1 r.1 ∧ Inv INVM r.2
abbrev R_X11_type : Room := { frames := 0, cells := 0, slots := 0, locals := 0 }
abbrev C_X11_type (l : Launch) (r : Int32 × St) (L : Nat → Nat → Int64) (V : XJ) : Prop := XC l yX11_type.cls yX11_type.name cX11_type 2 R_X11_type 0 0 fl_X11 kc_X11 LAY.length (xfin (some .boolean) LAY (P_X11_type r L)) V
def f_X11_type (a1 : Int32) (M : St) : Int32 × St := (if (M 14 12) = 16 then (0, (xup M 14 0 0)) else (1, (xup (xup (xup M 14 0 0) 19 (M 14 12).toNatClampNeg (a1 &&& 255)) 14 12 ((M 14 12) + 1))))
set_option maxRecDepth 20000 in
set_option maxHeartbeats 4000000 in
theorem k_X11_type (l : Launch) (a1 : Int32) (M : St) (L : Nat → Nat → Int64) (hI : Inv INVM M) : XM l yX11_type cX11_type 2 (some .boolean) R_X11_type LAY [.ref 14, .int a1] (M, L) (P_X11_type (f_X11_type a1 M) L) := by
  refine XM.of (by decide) (Nat.le_of_ble_eq_true rfl) LAY_in cl_ok fl_X11_ok kc_X11_ok (fun V C => ?_)
  obtain ⟨r, h⟩ : ∃ r, f_X11_type a1 M = r := ⟨_, rfl⟩
  rw [h] at C
  change C_X11_type l r L V at C
  unfold f_X11_type at h
  show V 0 0 0 [(0, .ref 14), (1, .int a1)] [] LAY (M, L)
  refine x_run C e_X11_type_1 e_X11_type_1_k (pc' := 11) (lv' := [(0, .ref 14), (1, .int a1)]) (st' := [.int 16, .int (M 14 12)]) (σ' := ((xup M 14 0 0), L)) rfl ⟨trivial, trivial, trivial, trivial, trivial, trivial, trivial⟩ ?_
  have hI1 : Inv INVM (xup M 14 0 0) := (hI.fld 14 0 0 (by decide))
  refine x_icmp_ne C (show decode cX11_type 11 = .ok (.if_icmp .ne 5, 3) from by decide +kernel) (tgt := 16) (by decide) (fun c2 => ?_) (fun c2 => ?_)
  · rw [if_neg c2] at h
    have g3 : xrg 0 15 (M 14 12) := (x_c_neh (hI.at 0 rfl) (by decide) c2)
    refine x_run C e_X11_type_2 e_X11_type_2_k (pc' := 41) (lv' := [(0, .ref 14), (1, .int a1)]) (st' := [.int 1]) (σ' := ((xup (xup (xup M 14 0 0) 19 (M 14 12).toNatClampNeg (a1 &&& 255)) 14 12 ((M 14 12) + 1)), L)) rfl ⟨trivial, trivial, trivial, trivial, trivial, trivial, trivial, (x_rgv g3 (by decide) (by decide)), trivial, trivial, trivial, trivial, trivial, trivial, trivial, trivial⟩ ?_
    have hI4 : Inv INVM (xup (xup (xup M 14 0 0) 19 (M 14 12).toNatClampNeg (a1 &&& 255)) 14 12 ((M 14 12) + 1)) := ((hI1.arr 19 ((M 14 12).toNatClampNeg) (a1 &&& 255) (by decide)).set 14 12 (x_rg_add g3 (x_rgc (x := 1) (k := 1) (by decide)) (by decide) (by decide)) (by decide))
    subst h
    exact x_iret C (show decode cX11_type 41 = .ok (.ireturn, 1) from by decide +kernel) (x_finI (x_nb (x_rgw (x_rgc (x := 1) (k := 1) (by decide)) (lo' := 0) (hi' := 1) (by decide) (by decide))) ⟨⟨rfl, rfl⟩, (x_rgw (x_rgc (x := 1) (k := 1) (by decide)) (lo' := 0) (hi' := 1) (by decide) (by decide)), hI4⟩) (Nat.le_refl 0) (Nat.le_refl 0)
  · rw [if_pos c2] at h
    have g5 : xrg 16 16 (M 14 12) := (x_c_eq (hI.at 0 rfl) (x_rgc (x := 16) (k := 16) (by decide)) c2).1
    refine x_run C e_X11_type_3 e_X11_type_3_k (pc' := 15) (lv' := [(0, .ref 14), (1, .int a1)]) (st' := [.int 0]) (σ' := ((xup M 14 0 0), L)) rfl ⟨trivial, trivial⟩ ?_
    subst h
    exact x_iret C (show decode cX11_type 15 = .ok (.ireturn, 1) from by decide +kernel) (x_finI (x_nb (x_rgw (x_rgc (x := 0) (k := 0) (by decide)) (lo' := 0) (hi' := 1) (by decide) (by decide))) ⟨⟨rfl, rfl⟩, (x_rgw (x_rgc (x := 0) (k := 0) (by decide)) (lo' := 0) (hi' := 1) (by decide) (by decide)), hI1⟩) (Nat.le_refl 0) (Nat.le_refl 0)
-- X11_said
def e_X11_said_1 : List xI := [(0, .aload_n 0, 1, .null), (1, .iconst 0, 1, .int 0), (2, .putfield 42, 3, .null), (5, .iload_n 1, 1, .null)]
theorem e_X11_said_1_k : e_X11_said_1.all (fun q => xokB cX11_said q && xokL q) = true := by decide +kernel
def e_X11_said_2 : List xI := [(17, .iconst (-1), 1, .int (-1))]
theorem e_X11_said_2_k : e_X11_said_2.all (fun q => xokB cX11_said q && xokL q) = true := by decide +kernel
def e_X11_said_3 : List xI := [(9, .iload_n 1, 1, .null), (10, .aload_n 0, 1, .null), (11, .getfield 79, 3, .null)]
theorem e_X11_said_3_k : e_X11_said_3.all (fun q => xokB cX11_said q && xokL q) = true := by decide +kernel
def e_X11_said_4 : List xI := [(21, .aload_n 0, 1, .null), (22, .getfield 33, 3, .null), (25, .iload_n 1, 1, .null), (26, .iaload, 1, .null)]
theorem e_X11_said_4_k : e_X11_said_4.all (fun q => xokB cX11_said q && xokL q) = true := by decide +kernel
abbrev P_X11_said (r : Int32 × St) (L : Nat → Nat → Int64) : Option Value → xG → Prop := fun v σ' => PoI r.1 r.2 L v σ' ∧ True ∧ Inv INVM r.2
abbrev R_X11_said : Room := { frames := 0, cells := 0, slots := 0, locals := 0 }
abbrev C_X11_said (l : Launch) (r : Int32 × St) (L : Nat → Nat → Int64) (V : XJ) : Prop := XC l yX11_said.cls yX11_said.name cX11_said 2 R_X11_said 0 0 fl_X11 kc_X11 LAY.length (xfin (some .int) LAY (P_X11_said r L)) V
def f_X11_said (a1 : Int32) (M : St) : Int32 × St := (if a1 < 0 then ((-1), (xup M 14 0 0)) else (if a1 < (M 14 14) then ((M 20 a1.toNatClampNeg), (xup M 14 0 0)) else ((-1), (xup M 14 0 0))))
set_option maxRecDepth 20000 in
set_option maxHeartbeats 4000000 in
theorem k_X11_said (l : Launch) (a1 : Int32) (M : St) (L : Nat → Nat → Int64) (hI : Inv INVM M) : XM l yX11_said cX11_said 2 (some .int) R_X11_said LAY [.ref 14, .int a1] (M, L) (P_X11_said (f_X11_said a1 M) L) := by
  refine XM.of (by decide) (Nat.le_of_ble_eq_true rfl) LAY_in cl_ok fl_X11_ok kc_X11_ok (fun V C => ?_)
  obtain ⟨r, h⟩ : ∃ r, f_X11_said a1 M = r := ⟨_, rfl⟩
  rw [h] at C
  change C_X11_said l r L V at C
  unfold f_X11_said at h
  show V 0 0 0 [(0, .ref 14), (1, .int a1)] [] LAY (M, L)
  refine x_run C e_X11_said_1 e_X11_said_1_k (pc' := 6) (lv' := [(0, .ref 14), (1, .int a1)]) (st' := [.int a1]) (σ' := ((xup M 14 0 0), L)) rfl ⟨trivial, trivial, trivial, trivial, trivial⟩ ?_
  have hI1 : Inv INVM (xup M 14 0 0) := (hI.fld 14 0 0 (by decide))
  refine x_if_lt C (show decode cX11_said 6 = .ok (.ifCond .lt 11, 3) from by decide +kernel) (tgt := 17) (by decide) (fun c2 => ?_) (fun c2 => ?_)
  · rw [if_pos c2] at h
    have g3 : xrg (-2147483648) (-1) a1 := (x_c_lt (x_rgt a1) (x_rgc (x := 0) (k := 0) (by decide)) c2).1
    refine x_run C e_X11_said_2 e_X11_said_2_k (pc' := 18) (lv' := [(0, .ref 14), (1, .int a1)]) (st' := [.int (-1)]) (σ' := ((xup M 14 0 0), L)) rfl ⟨trivial, trivial⟩ ?_
    refine x_goto C (show decode cX11_said 18 = .ok (.goto 9, 3) from by decide +kernel) (tgt := 27) (by decide) ?_
    subst h
    exact x_iret C (show decode cX11_said 27 = .ok (.ireturn, 1) from by decide +kernel) (x_finI rfl ⟨⟨rfl, rfl⟩, trivial, hI1⟩) (Nat.le_refl 0) (Nat.le_refl 0)
  · rw [if_neg c2] at h
    have g4 : xrg 0 2147483647 a1 := (x_c_nlt (x_rgt a1) (x_rgc (x := 0) (k := 0) (by decide)) c2).1
    refine x_run C e_X11_said_3 e_X11_said_3_k (pc' := 14) (lv' := [(0, .ref 14), (1, .int a1)]) (st' := [.int (M 14 14), .int a1]) (σ' := ((xup M 14 0 0), L)) rfl ⟨trivial, trivial, trivial, trivial⟩ ?_
    refine x_icmp_lt C (show decode cX11_said 14 = .ok (.if_icmp .lt 7, 3) from by decide +kernel) (tgt := 21) (by decide) (fun c5 => ?_) (fun c5 => ?_)
    · rw [if_pos c5] at h
      have g6 : xrg 0 63 a1 := (x_c_lt g4 (hI.at 1 rfl) c5).1
      have g7 : xrg 1 64 (M 14 14) := (x_c_lt g4 (hI.at 1 rfl) c5).2
      refine x_run C e_X11_said_4 e_X11_said_4_k (pc' := 27) (lv' := [(0, .ref 14), (1, .int a1)]) (st' := [.int (M 20 a1.toNatClampNeg)]) (σ' := ((xup M 14 0 0), L)) rfl ⟨trivial, trivial, trivial, (x_rgv g6 (by decide) (by decide)), trivial⟩ ?_
      subst h
      exact x_iret C (show decode cX11_said 27 = .ok (.ireturn, 1) from by decide +kernel) (x_finI rfl ⟨⟨rfl, rfl⟩, trivial, hI1⟩) (Nat.le_refl 0) (Nat.le_refl 0)
    · rw [if_neg c5] at h
      refine x_run C e_X11_said_2 e_X11_said_2_k (pc' := 18) (lv' := [(0, .ref 14), (1, .int a1)]) (st' := [.int (-1)]) (σ' := ((xup M 14 0 0), L)) rfl ⟨trivial, trivial⟩ ?_
      refine x_goto C (show decode cX11_said 18 = .ok (.goto 9, 3) from by decide +kernel) (tgt := 27) (by decide) ?_
      subst h
      exact x_iret C (show decode cX11_said 27 = .ok (.ireturn, 1) from by decide +kernel) (x_finI rfl ⟨⟨rfl, rfl⟩, trivial, hI1⟩) (Nat.le_refl 0) (Nat.le_refl 0)
-- X11_get
def e_X11_get_1 : List xI := [(0, .aload_n 0, 1, .null), (1, .iload_n 1, 1, .null)]
theorem e_X11_get_1_k : e_X11_get_1.all (fun q => xokB cX11_get q && xokL q) = true := by decide +kernel
def e_X11_get_2 : List xI := [(11, .iconst 1, 1, .int 1)]
theorem e_X11_get_2_k : e_X11_get_2.all (fun q => xokB cX11_get q && xokL q) = true := by decide +kernel
def e_X11_get_3 : List xI := [(16, .putfield 42, 3, .null), (19, .aload_n 0, 1, .null), (20, .getfield 42, 3, .null)]
theorem e_X11_get_3_k : e_X11_get_3.all (fun q => xokB cX11_get q && xokL q) = true := by decide +kernel
def e_X11_get_4 : List xI := [(26, .iconst 0, 1, .int 0)]
theorem e_X11_get_4_k : e_X11_get_4.all (fun q => xokB cX11_get q && xokL q) = true := by decide +kernel
def e_X11_get_5 : List xI := [(5, .iload_n 1, 1, .null), (6, .bipush 18, 2, .int 18)]
theorem e_X11_get_5_k : e_X11_get_5.all (fun q => xokB cX11_get q && xokL q) = true := by decide +kernel
def e_X11_get_6 : List xI := [(15, .iconst 0, 1, .int 0), (16, .putfield 42, 3, .null), (19, .aload_n 0, 1, .null), (20, .getfield 42, 3, .null)]
theorem e_X11_get_6_k : e_X11_get_6.all (fun q => xokB cX11_get q && xokL q) = true := by decide +kernel
def e_X11_get_7 : List xI := [(30, .iload_n 1, 1, .null), (31, .bipush 18, 2, .int 18)]
theorem e_X11_get_7_k : e_X11_get_7.all (fun q => xokB cX11_get q && xokL q) = true := by decide +kernel
def e_X11_get_8 : List xI := [(43, .aload_n 0, 1, .null), (44, .getfield 7, 3, .null), (47, .iload_n 1, 1, .null), (48, .iaload, 1, .null)]
theorem e_X11_get_8_k : e_X11_get_8.all (fun q => xokB cX11_get q && xokL q) = true := by decide +kernel
def e_X11_get_9 : List xI := [(36, .aload_n 0, 1, .null), (37, .getfield 13, 3, .null)]
theorem e_X11_get_9_k : e_X11_get_9.all (fun q => xokB cX11_get q && xokL q) = true := by decide +kernel
abbrev P_X11_get (r : Int32 × St) (L : Nat → Nat → Int64) : Option Value → xG → Prop := fun v σ' => PoI r.1 r.2 L v σ' ∧ True ∧ Inv INVM r.2
abbrev R_X11_get : Room := { frames := 0, cells := 0, slots := 0, locals := 0 }
abbrev C_X11_get (l : Launch) (r : Int32 × St) (L : Nat → Nat → Int64) (V : XJ) : Prop := XC l yX11_get.cls yX11_get.name cX11_get 2 R_X11_get 0 0 fl_X11 kc_X11 LAY.length (xfin (some .int) LAY (P_X11_get r L)) V
def f_X11_get (a1 : Int32) (M : St) : Int32 × St := (if a1 < 0 then (0, (xup M 14 0 1)) else (if a1 ≤ 18 then (if a1 = 18 then ((M 14 2), (xup M 14 0 0)) else ((M 15 a1.toNatClampNeg), (xup M 14 0 0))) else (0, (xup M 14 0 1))))
set_option maxRecDepth 20000 in
set_option maxHeartbeats 4000000 in
theorem k_X11_get (l : Launch) (a1 : Int32) (M : St) (L : Nat → Nat → Int64) (hI : Inv INVM M) : XM l yX11_get cX11_get 2 (some .int) R_X11_get LAY [.ref 14, .int a1] (M, L) (P_X11_get (f_X11_get a1 M) L) := by
  refine XM.of (by decide) (Nat.le_of_ble_eq_true rfl) LAY_in cl_ok fl_X11_ok kc_X11_ok (fun V C => ?_)
  obtain ⟨r, h⟩ : ∃ r, f_X11_get a1 M = r := ⟨_, rfl⟩
  rw [h] at C
  change C_X11_get l r L V at C
  unfold f_X11_get at h
  show V 0 0 0 [(0, .ref 14), (1, .int a1)] [] LAY (M, L)
  refine x_run C e_X11_get_1 e_X11_get_1_k (pc' := 2) (lv' := [(0, .ref 14), (1, .int a1)]) (st' := [.int a1, .ref 14]) (σ' := (M, L)) rfl ⟨trivial, trivial, trivial⟩ ?_
  refine x_if_lt C (show decode cX11_get 2 = .ok (.ifCond .lt 9, 3) from by decide +kernel) (tgt := 11) (by decide) (fun c1 => ?_) (fun c1 => ?_)
  · rw [if_pos c1] at h
    have g2 : xrg (-2147483648) (-1) a1 := (x_c_lt (x_rgt a1) (x_rgc (x := 0) (k := 0) (by decide)) c1).1
    refine x_run C e_X11_get_2 e_X11_get_2_k (pc' := 12) (lv' := [(0, .ref 14), (1, .int a1)]) (st' := [.int 1, .ref 14]) (σ' := (M, L)) rfl ⟨trivial, trivial⟩ ?_
    refine x_goto C (show decode cX11_get 12 = .ok (.goto 4, 3) from by decide +kernel) (tgt := 16) (by decide) ?_
    refine x_run C e_X11_get_3 e_X11_get_3_k (pc' := 23) (lv' := [(0, .ref 14), (1, .int a1)]) (st' := [.int 1]) (σ' := ((xup M 14 0 1), L)) rfl ⟨trivial, trivial, trivial, trivial⟩ ?_
    have hI3 : Inv INVM (xup M 14 0 1) := (hI.fld 14 0 1 (by decide))
    refine x_if_le C (show decode cX11_get 23 = .ok (.ifCond .le 7, 3) from by decide +kernel) (tgt := 30) (by decide) (fun c4 => absurd c4 (by decide)) (fun c4 => ?_)
    refine x_run C e_X11_get_4 e_X11_get_4_k (pc' := 27) (lv' := [(0, .ref 14), (1, .int a1)]) (st' := [.int 0]) (σ' := ((xup M 14 0 1), L)) rfl ⟨trivial, trivial⟩ ?_
    refine x_goto C (show decode cX11_get 27 = .ok (.goto 22, 3) from by decide +kernel) (tgt := 49) (by decide) ?_
    subst h
    exact x_iret C (show decode cX11_get 49 = .ok (.ireturn, 1) from by decide +kernel) (x_finI rfl ⟨⟨rfl, rfl⟩, trivial, hI3⟩) (Nat.le_refl 0) (Nat.le_refl 0)
  · rw [if_neg c1] at h
    have g5 : xrg 0 2147483647 a1 := (x_c_nlt (x_rgt a1) (x_rgc (x := 0) (k := 0) (by decide)) c1).1
    refine x_run C e_X11_get_5 e_X11_get_5_k (pc' := 8) (lv' := [(0, .ref 14), (1, .int a1)]) (st' := [.int 18, .int a1, .ref 14]) (σ' := (M, L)) rfl ⟨trivial, trivial, trivial⟩ ?_
    refine x_icmp_le C (show decode cX11_get 8 = .ok (.if_icmp .le 7, 3) from by decide +kernel) (tgt := 15) (by decide) (fun c6 => ?_) (fun c6 => ?_)
    · rw [if_pos c6] at h
      have g7 : xrg 0 18 a1 := (x_c_le g5 (x_rgc (x := 18) (k := 18) (by decide)) c6).1
      refine x_run C e_X11_get_6 e_X11_get_6_k (pc' := 23) (lv' := [(0, .ref 14), (1, .int a1)]) (st' := [.int 0]) (σ' := ((xup M 14 0 0), L)) rfl ⟨trivial, trivial, trivial, trivial, trivial⟩ ?_
      have hI8 : Inv INVM (xup M 14 0 0) := (hI.fld 14 0 0 (by decide))
      refine x_if_le C (show decode cX11_get 23 = .ok (.ifCond .le 7, 3) from by decide +kernel) (tgt := 30) (by decide) (fun c9 => ?_) (fun c9 => absurd c9 (by decide))
      refine x_run C e_X11_get_7 e_X11_get_7_k (pc' := 33) (lv' := [(0, .ref 14), (1, .int a1)]) (st' := [.int 18, .int a1]) (σ' := ((xup M 14 0 0), L)) rfl ⟨trivial, trivial, trivial⟩ ?_
      refine x_icmp_ne C (show decode cX11_get 33 = .ok (.if_icmp .ne 10, 3) from by decide +kernel) (tgt := 43) (by decide) (fun c10 => ?_) (fun c10 => ?_)
      · rw [if_neg c10] at h
        have g11 : xrg 0 17 a1 := (x_c_neh g7 (by decide) c10)
        refine x_run C e_X11_get_8 e_X11_get_8_k (pc' := 49) (lv' := [(0, .ref 14), (1, .int a1)]) (st' := [.int (M 15 a1.toNatClampNeg)]) (σ' := ((xup M 14 0 0), L)) rfl ⟨trivial, trivial, trivial, (x_rgv g11 (by decide) (by decide)), trivial⟩ ?_
        subst h
        exact x_iret C (show decode cX11_get 49 = .ok (.ireturn, 1) from by decide +kernel) (x_finI rfl ⟨⟨rfl, rfl⟩, trivial, hI8⟩) (Nat.le_refl 0) (Nat.le_refl 0)
      · rw [if_pos c10] at h
        have g12 : xrg 18 18 a1 := (x_c_eq g7 (x_rgc (x := 18) (k := 18) (by decide)) c10).1
        refine x_run C e_X11_get_9 e_X11_get_9_k (pc' := 40) (lv' := [(0, .ref 14), (1, .int a1)]) (st' := [.int (M 14 2)]) (σ' := ((xup M 14 0 0), L)) rfl ⟨trivial, trivial, trivial⟩ ?_
        refine x_goto C (show decode cX11_get 40 = .ok (.goto 9, 3) from by decide +kernel) (tgt := 49) (by decide) ?_
        subst h
        exact x_iret C (show decode cX11_get 49 = .ok (.ireturn, 1) from by decide +kernel) (x_finI rfl ⟨⟨rfl, rfl⟩, trivial, hI8⟩) (Nat.le_refl 0) (Nat.le_refl 0)
    · rw [if_neg c6] at h
      have g13 : xrg 19 2147483647 a1 := (x_c_nle g5 (x_rgc (x := 18) (k := 18) (by decide)) c6).1
      refine x_run C e_X11_get_2 e_X11_get_2_k (pc' := 12) (lv' := [(0, .ref 14), (1, .int a1)]) (st' := [.int 1, .ref 14]) (σ' := (M, L)) rfl ⟨trivial, trivial⟩ ?_
      refine x_goto C (show decode cX11_get 12 = .ok (.goto 4, 3) from by decide +kernel) (tgt := 16) (by decide) ?_
      refine x_run C e_X11_get_3 e_X11_get_3_k (pc' := 23) (lv' := [(0, .ref 14), (1, .int a1)]) (st' := [.int 1]) (σ' := ((xup M 14 0 1), L)) rfl ⟨trivial, trivial, trivial, trivial⟩ ?_
      have hI14 : Inv INVM (xup M 14 0 1) := (hI.fld 14 0 1 (by decide))
      refine x_if_le C (show decode cX11_get 23 = .ok (.ifCond .le 7, 3) from by decide +kernel) (tgt := 30) (by decide) (fun c15 => absurd c15 (by decide)) (fun c15 => ?_)
      refine x_run C e_X11_get_4 e_X11_get_4_k (pc' := 27) (lv' := [(0, .ref 14), (1, .int a1)]) (st' := [.int 0]) (σ' := ((xup M 14 0 1), L)) rfl ⟨trivial, trivial⟩ ?_
      refine x_goto C (show decode cX11_get 27 = .ok (.goto 22, 3) from by decide +kernel) (tgt := 49) (by decide) ?_
      subst h
      exact x_iret C (show decode cX11_get 49 = .ok (.ireturn, 1) from by decide +kernel) (x_finI rfl ⟨⟨rfl, rfl⟩, trivial, hI14⟩) (Nat.le_refl 0) (Nat.le_refl 0)
-- X11_set
def e_X11_set_1 : List xI := [(0, .aload_n 0, 1, .null), (1, .iload_n 1, 1, .null)]
theorem e_X11_set_1_k : e_X11_set_1.all (fun q => xokB cX11_set q && xokL q) = true := by decide +kernel
def e_X11_set_2 : List xI := [(11, .iconst 1, 1, .int 1)]
theorem e_X11_set_2_k : e_X11_set_2.all (fun q => xokB cX11_set q && xokL q) = true := by decide +kernel
def e_X11_set_3 : List xI := [(16, .putfield 42, 3, .null), (19, .aload_n 0, 1, .null), (20, .getfield 42, 3, .null)]
theorem e_X11_set_3_k : e_X11_set_3.all (fun q => xokB cX11_set q && xokL q) = true := by decide +kernel
def e_X11_set_4 : List xI := [(5, .iload_n 1, 1, .null), (6, .bipush 18, 2, .int 18)]
theorem e_X11_set_4_k : e_X11_set_4.all (fun q => xokB cX11_set q && xokL q) = true := by decide +kernel
def e_X11_set_5 : List xI := [(15, .iconst 0, 1, .int 0), (16, .putfield 42, 3, .null), (19, .aload_n 0, 1, .null), (20, .getfield 42, 3, .null)]
theorem e_X11_set_5_k : e_X11_set_5.all (fun q => xokB cX11_set q && xokL q) = true := by decide +kernel
def e_X11_set_6 : List xI := [(27, .iload_n 1, 1, .null), (28, .bipush 18, 2, .int 18)]
theorem e_X11_set_6_k : e_X11_set_6.all (fun q => xokB cX11_set q && xokL q) = true := by decide +kernel
def e_X11_set_7 : List xI := [(41, .aload_n 0, 1, .null), (42, .getfield 7, 3, .null), (45, .iload_n 1, 1, .null), (46, .iload_n 2, 1, .null), (47, .iastore, 1, .null)]
theorem e_X11_set_7_k : e_X11_set_7.all (fun q => xokB cX11_set q && xokL q) = true := by decide +kernel
def e_X11_set_8 : List xI := [(33, .aload_n 0, 1, .null), (34, .iload_n 2, 1, .null)]
theorem e_X11_set_8_k : e_X11_set_8.all (fun q => xokB cX11_set q && xokL q) = true := by decide +kernel
abbrev P_X11_set (r : St) (L : Nat → Nat → Int64) : Option Value → xG → Prop := fun v σ' => PoV r L v σ' ∧ Inv INVM r
abbrev R_X11_set : Room := { frames := 1, cells := 0, slots := 0, locals := 23 }
abbrev C_X11_set (l : Launch) (r : St) (L : Nat → Nat → Int64) (V : XJ) : Prop := XC l yX11_set.cls yX11_set.name cX11_set 3 R_X11_set 0 0 fl_X11 kc_X11 LAY.length (xfin none LAY (P_X11_set r L)) V
def f_X11_set (a1 : Int32) (a2 : Int32) (M : St) : St := (if a1 < 0 then (xup M 14 0 1) else (if a1 ≤ 18 then (if a1 = 18 then (xb (f_X11_setStatus a2 (xup M 14 0 0)) fun q14 => q14) else (xup (xup M 14 0 0) 15 a1.toNatClampNeg a2)) else (xup M 14 0 1)))
set_option maxRecDepth 20000 in
set_option maxHeartbeats 4000000 in
theorem k_X11_set (l : Launch) (a1 : Int32) (a2 : Int32) (M : St) (L : Nat → Nat → Int64) (hI : Inv INVM M) : XM l yX11_set cX11_set 3 none R_X11_set LAY [.ref 14, .int a1, .int a2] (M, L) (P_X11_set (f_X11_set a1 a2 M) L) := by
  refine XM.of (by decide) (Nat.le_of_ble_eq_true rfl) LAY_in cl_ok fl_X11_ok kc_X11_ok (fun V C => ?_)
  obtain ⟨r, h⟩ : ∃ r, f_X11_set a1 a2 M = r := ⟨_, rfl⟩
  rw [h] at C
  change C_X11_set l r L V at C
  unfold f_X11_set at h
  show V 0 0 0 [(0, .ref 14), (1, .int a1), (2, .int a2)] [] LAY (M, L)
  refine x_run C e_X11_set_1 e_X11_set_1_k (pc' := 2) (lv' := [(0, .ref 14), (1, .int a1), (2, .int a2)]) (st' := [.int a1, .ref 14]) (σ' := (M, L)) rfl ⟨trivial, trivial, trivial⟩ ?_
  refine x_if_lt C (show decode cX11_set 2 = .ok (.ifCond .lt 9, 3) from by decide +kernel) (tgt := 11) (by decide) (fun c1 => ?_) (fun c1 => ?_)
  · rw [if_pos c1] at h
    have g2 : xrg (-2147483648) (-1) a1 := (x_c_lt (x_rgt a1) (x_rgc (x := 0) (k := 0) (by decide)) c1).1
    refine x_run C e_X11_set_2 e_X11_set_2_k (pc' := 12) (lv' := [(0, .ref 14), (1, .int a1), (2, .int a2)]) (st' := [.int 1, .ref 14]) (σ' := (M, L)) rfl ⟨trivial, trivial⟩ ?_
    refine x_goto C (show decode cX11_set 12 = .ok (.goto 4, 3) from by decide +kernel) (tgt := 16) (by decide) ?_
    refine x_run C e_X11_set_3 e_X11_set_3_k (pc' := 23) (lv' := [(0, .ref 14), (1, .int a1), (2, .int a2)]) (st' := [.int 1]) (σ' := ((xup M 14 0 1), L)) rfl ⟨trivial, trivial, trivial, trivial⟩ ?_
    have hI3 : Inv INVM (xup M 14 0 1) := (hI.fld 14 0 1 (by decide))
    refine x_if_le C (show decode cX11_set 23 = .ok (.ifCond .le 4, 3) from by decide +kernel) (tgt := 27) (by decide) (fun c4 => absurd c4 (by decide)) (fun c4 => ?_)
    subst h
    exact x_vret C (show decode cX11_set 26 = .ok (.return_, 1) from by decide +kernel) (x_finV ⟨⟨rfl, rfl⟩, hI3⟩) (Nat.le_refl 0) (Nat.le_refl 0)
  · rw [if_neg c1] at h
    have g5 : xrg 0 2147483647 a1 := (x_c_nlt (x_rgt a1) (x_rgc (x := 0) (k := 0) (by decide)) c1).1
    refine x_run C e_X11_set_4 e_X11_set_4_k (pc' := 8) (lv' := [(0, .ref 14), (1, .int a1), (2, .int a2)]) (st' := [.int 18, .int a1, .ref 14]) (σ' := (M, L)) rfl ⟨trivial, trivial, trivial⟩ ?_
    refine x_icmp_le C (show decode cX11_set 8 = .ok (.if_icmp .le 7, 3) from by decide +kernel) (tgt := 15) (by decide) (fun c6 => ?_) (fun c6 => ?_)
    · rw [if_pos c6] at h
      have g7 : xrg 0 18 a1 := (x_c_le g5 (x_rgc (x := 18) (k := 18) (by decide)) c6).1
      refine x_run C e_X11_set_5 e_X11_set_5_k (pc' := 23) (lv' := [(0, .ref 14), (1, .int a1), (2, .int a2)]) (st' := [.int 0]) (σ' := ((xup M 14 0 0), L)) rfl ⟨trivial, trivial, trivial, trivial, trivial⟩ ?_
      have hI8 : Inv INVM (xup M 14 0 0) := (hI.fld 14 0 0 (by decide))
      refine x_if_le C (show decode cX11_set 23 = .ok (.ifCond .le 4, 3) from by decide +kernel) (tgt := 27) (by decide) (fun c9 => ?_) (fun c9 => absurd c9 (by decide))
      refine x_run C e_X11_set_6 e_X11_set_6_k (pc' := 30) (lv' := [(0, .ref 14), (1, .int a1), (2, .int a2)]) (st' := [.int 18, .int a1]) (σ' := ((xup M 14 0 0), L)) rfl ⟨trivial, trivial, trivial⟩ ?_
      refine x_icmp_ne C (show decode cX11_set 30 = .ok (.if_icmp .ne 11, 3) from by decide +kernel) (tgt := 41) (by decide) (fun c10 => ?_) (fun c10 => ?_)
      · rw [if_neg c10] at h
        have g11 : xrg 0 17 a1 := (x_c_neh g7 (by decide) c10)
        refine x_run C e_X11_set_7 e_X11_set_7_k (pc' := 48) (lv' := [(0, .ref 14), (1, .int a1), (2, .int a2)]) (st' := []) (σ' := ((xup (xup M 14 0 0) 15 a1.toNatClampNeg a2), L)) rfl ⟨trivial, trivial, trivial, trivial, (x_rgv g11 (by decide) (by decide)), trivial⟩ ?_
        have hI12 : Inv INVM (xup (xup M 14 0 0) 15 a1.toNatClampNeg a2) := (hI8.arr 15 (a1.toNatClampNeg) a2 (by decide))
        subst h
        exact x_vret C (show decode cX11_set 48 = .ok (.return_, 1) from by decide +kernel) (x_finV ⟨⟨rfl, rfl⟩, hI12⟩) (Nat.le_refl 0) (Nat.le_refl 0)
      · rw [if_pos c10] at h
        have g13 : xrg 18 18 a1 := (x_c_eq g7 (x_rgc (x := 18) (k := 18) (by decide)) c10).1
        refine x_run C e_X11_set_8 e_X11_set_8_k (pc' := 35) (lv' := [(0, .ref 14), (1, .int a1), (2, .int a2)]) (st' := [.int a2, .ref 14]) (σ' := ((xup M 14 0 0), L)) rfl ⟨trivial, trivial, trivial⟩ ?_
        refine x_callV C (k := 14) (ci := 8) (rest := []) (avs := [.int a2]) (k_X11_setStatus l a2 (xup M 14 0 0) L hI8) yoX11_setStatus ml_X11_202 rfl rfl rfl rfl ⟨Nat.zero_le _, Nat.zero_le _⟩ (show decode cX11_set 35 = .ok (.invokevirtual 202, 3) from by decide +kernel) rfl (fun v σ' hPo => ?_)
        obtain ⟨⟨rfl, rfl⟩, hI16⟩ := hPo
        generalize hq14 : f_X11_setStatus a2 (xup M 14 0 0) = q14 at h hI16 ⊢
        have h := xb_eq h
        show V 0 0 38 [(0, .ref 14), (1, .int a1), (2, .int a2)] [] LAY (q14, L)
        refine x_goto C (show decode cX11_set 38 = .ok (.goto 10, 3) from by decide +kernel) (tgt := 48) (by decide) ?_
        subst h
        exact x_vret C (show decode cX11_set 48 = .ok (.return_, 1) from by decide +kernel) (x_finV ⟨⟨rfl, rfl⟩, hI16⟩) (Nat.le_refl 0) (Nat.le_refl 0)
    · rw [if_neg c6] at h
      have g17 : xrg 19 2147483647 a1 := (x_c_nle g5 (x_rgc (x := 18) (k := 18) (by decide)) c6).1
      refine x_run C e_X11_set_2 e_X11_set_2_k (pc' := 12) (lv' := [(0, .ref 14), (1, .int a1), (2, .int a2)]) (st' := [.int 1, .ref 14]) (σ' := (M, L)) rfl ⟨trivial, trivial⟩ ?_
      refine x_goto C (show decode cX11_set 12 = .ok (.goto 4, 3) from by decide +kernel) (tgt := 16) (by decide) ?_
      refine x_run C e_X11_set_3 e_X11_set_3_k (pc' := 23) (lv' := [(0, .ref 14), (1, .int a1), (2, .int a2)]) (st' := [.int 1]) (σ' := ((xup M 14 0 1), L)) rfl ⟨trivial, trivial, trivial, trivial⟩ ?_
      have hI18 : Inv INVM (xup M 14 0 1) := (hI.fld 14 0 1 (by decide))
      refine x_if_le C (show decode cX11_set 23 = .ok (.ifCond .le 4, 3) from by decide +kernel) (tgt := 27) (by decide) (fun c19 => absurd c19 (by decide)) (fun c19 => ?_)
      subst h
      exact x_vret C (show decode cX11_set 26 = .ok (.return_, 1) from by decide +kernel) (x_finV ⟨⟨rfl, rfl⟩, hI18⟩) (Nat.le_refl 0) (Nat.le_refl 0)
-- X11_memory
def e_X11_memory_1 : List xI := [(0, .aload_n 0, 1, .null), (1, .iconst 0, 1, .int 0), (2, .putfield 42, 3, .null), (5, .iload_n 1, 1, .null)]
theorem e_X11_memory_1_k : e_X11_memory_1.all (fun q => xokB cX11_memory q && xokL q) = true := by decide +kernel
def e_X11_memory_2 : List xI := [(16, .iconst (-1), 1, .int (-1))]
theorem e_X11_memory_2_k : e_X11_memory_2.all (fun q => xokB cX11_memory q && xokL q) = true := by decide +kernel
def e_X11_memory_3 : List xI := [(9, .iload_n 1, 1, .null), (10, .sipush 2047, 3, .int 2047)]
theorem e_X11_memory_3_k : e_X11_memory_3.all (fun q => xokB cX11_memory q && xokL q) = true := by decide +kernel
def e_X11_memory_4 : List xI := [(20, .aload_n 0, 1, .null), (21, .getfield 27, 3, .null), (24, .iload_n 1, 1, .null), (25, .iaload, 1, .null)]
theorem e_X11_memory_4_k : e_X11_memory_4.all (fun q => xokB cX11_memory q && xokL q) = true := by decide +kernel
abbrev P_X11_memory (r : Int32 × St) (L : Nat → Nat → Int64) : Option Value → xG → Prop := fun v σ' => PoI r.1 r.2 L v σ' ∧ True ∧ Inv INVM r.2
abbrev R_X11_memory : Room := { frames := 0, cells := 0, slots := 0, locals := 0 }
abbrev C_X11_memory (l : Launch) (r : Int32 × St) (L : Nat → Nat → Int64) (V : XJ) : Prop := XC l yX11_memory.cls yX11_memory.name cX11_memory 2 R_X11_memory 0 0 fl_X11 kc_X11 LAY.length (xfin (some .int) LAY (P_X11_memory r L)) V
def f_X11_memory (a1 : Int32) (M : St) : Int32 × St := (if a1 < 0 then ((-1), (xup M 14 0 0)) else (if a1 ≤ 2047 then ((M 18 a1.toNatClampNeg), (xup M 14 0 0)) else ((-1), (xup M 14 0 0))))
set_option maxRecDepth 20000 in
set_option maxHeartbeats 4000000 in
theorem k_X11_memory (l : Launch) (a1 : Int32) (M : St) (L : Nat → Nat → Int64) (hI : Inv INVM M) : XM l yX11_memory cX11_memory 2 (some .int) R_X11_memory LAY [.ref 14, .int a1] (M, L) (P_X11_memory (f_X11_memory a1 M) L) := by
  refine XM.of (by decide) (Nat.le_of_ble_eq_true rfl) LAY_in cl_ok fl_X11_ok kc_X11_ok (fun V C => ?_)
  obtain ⟨r, h⟩ : ∃ r, f_X11_memory a1 M = r := ⟨_, rfl⟩
  rw [h] at C
  change C_X11_memory l r L V at C
  unfold f_X11_memory at h
  show V 0 0 0 [(0, .ref 14), (1, .int a1)] [] LAY (M, L)
  refine x_run C e_X11_memory_1 e_X11_memory_1_k (pc' := 6) (lv' := [(0, .ref 14), (1, .int a1)]) (st' := [.int a1]) (σ' := ((xup M 14 0 0), L)) rfl ⟨trivial, trivial, trivial, trivial, trivial⟩ ?_
  have hI1 : Inv INVM (xup M 14 0 0) := (hI.fld 14 0 0 (by decide))
  refine x_if_lt C (show decode cX11_memory 6 = .ok (.ifCond .lt 10, 3) from by decide +kernel) (tgt := 16) (by decide) (fun c2 => ?_) (fun c2 => ?_)
  · rw [if_pos c2] at h
    have g3 : xrg (-2147483648) (-1) a1 := (x_c_lt (x_rgt a1) (x_rgc (x := 0) (k := 0) (by decide)) c2).1
    refine x_run C e_X11_memory_2 e_X11_memory_2_k (pc' := 17) (lv' := [(0, .ref 14), (1, .int a1)]) (st' := [.int (-1)]) (σ' := ((xup M 14 0 0), L)) rfl ⟨trivial, trivial⟩ ?_
    refine x_goto C (show decode cX11_memory 17 = .ok (.goto 9, 3) from by decide +kernel) (tgt := 26) (by decide) ?_
    subst h
    exact x_iret C (show decode cX11_memory 26 = .ok (.ireturn, 1) from by decide +kernel) (x_finI rfl ⟨⟨rfl, rfl⟩, trivial, hI1⟩) (Nat.le_refl 0) (Nat.le_refl 0)
  · rw [if_neg c2] at h
    have g4 : xrg 0 2147483647 a1 := (x_c_nlt (x_rgt a1) (x_rgc (x := 0) (k := 0) (by decide)) c2).1
    refine x_run C e_X11_memory_3 e_X11_memory_3_k (pc' := 13) (lv' := [(0, .ref 14), (1, .int a1)]) (st' := [.int 2047, .int a1]) (σ' := ((xup M 14 0 0), L)) rfl ⟨trivial, trivial, trivial⟩ ?_
    refine x_icmp_le C (show decode cX11_memory 13 = .ok (.if_icmp .le 7, 3) from by decide +kernel) (tgt := 20) (by decide) (fun c5 => ?_) (fun c5 => ?_)
    · rw [if_pos c5] at h
      have g6 : xrg 0 2047 a1 := (x_c_le g4 (x_rgc (x := 2047) (k := 2047) (by decide)) c5).1
      refine x_run C e_X11_memory_4 e_X11_memory_4_k (pc' := 26) (lv' := [(0, .ref 14), (1, .int a1)]) (st' := [.int (M 18 a1.toNatClampNeg)]) (σ' := ((xup M 14 0 0), L)) rfl ⟨trivial, trivial, trivial, (x_rgv g6 (by decide) (by decide)), trivial⟩ ?_
      subst h
      exact x_iret C (show decode cX11_memory 26 = .ok (.ireturn, 1) from by decide +kernel) (x_finI rfl ⟨⟨rfl, rfl⟩, trivial, hI1⟩) (Nat.le_refl 0) (Nat.le_refl 0)
    · rw [if_neg c5] at h
      have g7 : xrg 2048 2147483647 a1 := (x_c_nle g4 (x_rgc (x := 2047) (k := 2047) (by decide)) c5).1
      refine x_run C e_X11_memory_2 e_X11_memory_2_k (pc' := 17) (lv' := [(0, .ref 14), (1, .int a1)]) (st' := [.int (-1)]) (σ' := ((xup M 14 0 0), L)) rfl ⟨trivial, trivial⟩ ?_
      refine x_goto C (show decode cX11_memory 17 = .ok (.goto 9, 3) from by decide +kernel) (tgt := 26) (by decide) ?_
      subst h
      exact x_iret C (show decode cX11_memory 26 = .ok (.ireturn, 1) from by decide +kernel) (x_finI rfl ⟨⟨rfl, rfl⟩, trivial, hI1⟩) (Nat.le_refl 0) (Nat.le_refl 0)
-- X11_device
def e_X11_device_1 : List xI := [(0, .aload_n 0, 1, .null), (1, .iload_n 1, 1, .null)]
theorem e_X11_device_1_k : e_X11_device_1.all (fun q => xokB cX11_device q && xokL q) = true := by decide +kernel
def e_X11_device_2 : List xI := [(5, .iload_n 1, 1, .null), (6, .iconst 4, 1, .int 4)]
theorem e_X11_device_2_k : e_X11_device_2.all (fun q => xokB cX11_device q && xokL q) = true := by decide +kernel
def e_X11_device_3 : List xI := [(14, .iconst 0, 1, .int 0)]
theorem e_X11_device_3_k : e_X11_device_3.all (fun q => xokB cX11_device q && xokL q) = true := by decide +kernel
def e_X11_device_4 : List xI := [(10, .iconst 1, 1, .int 1)]
theorem e_X11_device_4_k : e_X11_device_4.all (fun q => xokB cX11_device q && xokL q) = true := by decide +kernel
def e_X11_device_5 : List xI := [(15, .putfield 42, 3, .null), (18, .aload_n 0, 1, .null), (19, .getfield 42, 3, .null)]
theorem e_X11_device_5_k : e_X11_device_5.all (fun q => xokB cX11_device q && xokL q) = true := by decide +kernel
def e_X11_device_6 : List xI := [(27, .iload_n 1, 1, .null)]
theorem e_X11_device_6_k : e_X11_device_6.all (fun q => xokB cX11_device q && xokL q) = true := by decide +kernel
def e_X11_device_7 : List xI := [(38, .iload_n 1, 1, .null), (39, .iconst 1, 1, .int 1)]
theorem e_X11_device_7_k : e_X11_device_7.all (fun q => xokB cX11_device q && xokL q) = true := by decide +kernel
def e_X11_device_8 : List xI := [(50, .iload_n 1, 1, .null), (51, .iconst 2, 1, .int 2)]
theorem e_X11_device_8_k : e_X11_device_8.all (fun q => xokB cX11_device q && xokL q) = true := by decide +kernel
def e_X11_device_9 : List xI := [(70, .iload_n 1, 1, .null), (71, .iconst 3, 1, .int 3)]
theorem e_X11_device_9_k : e_X11_device_9.all (fun q => xokB cX11_device q && xokL q) = true := by decide +kernel
def e_X11_device_10 : List xI := [(82, .aload_n 0, 1, .null), (83, .getfield 79, 3, .null)]
theorem e_X11_device_10_k : e_X11_device_10.all (fun q => xokB cX11_device q && xokL q) = true := by decide +kernel
def e_X11_device_11 : List xI := [(75, .aload_n 0, 1, .null), (76, .getfield 67, 3, .null)]
theorem e_X11_device_11_k : e_X11_device_11.all (fun q => xokB cX11_device q && xokL q) = true := by decide +kernel
def e_X11_device_12 : List xI := [(55, .aload_n 0, 1, .null), (56, .getfield 76, 3, .null)]
theorem e_X11_device_12_k : e_X11_device_12.all (fun q => xokB cX11_device q && xokL q) = true := by decide +kernel
def e_X11_device_13 : List xI := [(66, .iconst 0, 1, .int 0)]
theorem e_X11_device_13_k : e_X11_device_13.all (fun q => xokB cX11_device q && xokL q) = true := by decide +kernel
def e_X11_device_14 : List xI := [(62, .iconst 1, 1, .int 1)]
theorem e_X11_device_14_k : e_X11_device_14.all (fun q => xokB cX11_device q && xokL q) = true := by decide +kernel
def e_X11_device_15 : List xI := [(43, .aload_n 0, 1, .null), (44, .getfield 73, 3, .null)]
theorem e_X11_device_15_k : e_X11_device_15.all (fun q => xokB cX11_device q && xokL q) = true := by decide +kernel
def e_X11_device_16 : List xI := [(31, .aload_n 0, 1, .null), (32, .getfield 70, 3, .null)]
theorem e_X11_device_16_k : e_X11_device_16.all (fun q => xokB cX11_device q && xokL q) = true := by decide +kernel
def e_X11_device_17 : List xI := [(25, .iconst 0, 1, .int 0)]
theorem e_X11_device_17_k : e_X11_device_17.all (fun q => xokB cX11_device q && xokL q) = true := by decide +kernel
abbrev P_X11_device (r : Int32 × St) (L : Nat → Nat → Int64) : Option Value → xG → Prop := fun v σ' => PoI r.1 r.2 L v σ' ∧ True ∧ Inv INVM r.2
abbrev R_X11_device : Room := { frames := 0, cells := 0, slots := 0, locals := 0 }
abbrev C_X11_device (l : Launch) (r : Int32 × St) (L : Nat → Nat → Int64) (V : XJ) : Prop := XC l yX11_device.cls yX11_device.name cX11_device 2 R_X11_device 0 0 fl_X11 kc_X11 LAY.length (xfin (some .int) LAY (P_X11_device r L)) V
def f_X11_device_15 (x1 : Int32) (s0 : Int32) (M : St) : Int32 × St := (if s0 ≤ 0 then (if x1 = 0 then ((M 14 9), (xup M 14 0 s0)) else (if x1 = 1 then ((M 14 10), (xup M 14 0 s0)) else (if x1 = 2 then (if (M 14 11) = 0 then (0, (xup M 14 0 s0)) else (1, (xup M 14 0 s0))) else (if x1 = 3 then ((M 14 12), (xup M 14 0 s0)) else ((M 14 14), (xup M 14 0 s0)))))) else (0, (xup M 14 0 s0)))
def f_X11_device_10 (x1 : Int32) (M : St) : Int32 × St := f_X11_device_15 x1 1 M
def f_X11_device (a1 : Int32) (M : St) : Int32 × St := (if a1 < 0 then f_X11_device_10 a1 M else (if a1 ≤ 4 then f_X11_device_15 a1 0 M else f_X11_device_10 a1 M))
set_option maxRecDepth 20000 in
set_option maxHeartbeats 4000000 in
theorem b_X11_device_15 {l : Launch} {L : Nat → Nat → Int64} {V : XJ} (r : Int32 × St) (C : C_X11_device l r L V) (x1 : Int32) (s0 : Int32) (M : St) (ws0 : xrg 0 1 s0) (hI : Inv INVM M) (h : f_X11_device_15 x1 s0 M = r) : V 0 0 15 [(0, .ref 14), (1, .int x1)] [.int s0, .ref 14] LAY (M, L) := by
  unfold f_X11_device_15 at h
  refine x_run C e_X11_device_5 e_X11_device_5_k (pc' := 22) (lv' := [(0, .ref 14), (1, .int x1)]) (st' := [.int s0]) (σ' := ((xup M 14 0 s0), L)) rfl ⟨trivial, trivial, trivial, trivial⟩ ?_
  have hI7 : Inv INVM (xup M 14 0 s0) := (hI.fld 14 0 s0 (by decide))
  refine x_if_le C (show decode cX11_device 22 = .ok (.ifCond .le 5, 3) from by decide +kernel) (tgt := 27) (by decide) (fun c8 => ?_) (fun c8 => ?_)
  · rw [if_pos c8] at h
    have g9 : xrg 0 0 s0 := (x_c_le ws0 (x_rgc (x := 0) (k := 0) (by decide)) c8).1
    refine x_run C e_X11_device_6 e_X11_device_6_k (pc' := 28) (lv' := [(0, .ref 14), (1, .int x1)]) (st' := [.int x1]) (σ' := ((xup M 14 0 s0), L)) rfl ⟨trivial, trivial⟩ ?_
    refine x_if_ne C (show decode cX11_device 28 = .ok (.ifCond .ne 10, 3) from by decide +kernel) (tgt := 38) (by decide) (fun c10 => ?_) (fun c10 => ?_)
    · rw [if_neg c10] at h
      refine x_run C e_X11_device_7 e_X11_device_7_k (pc' := 40) (lv' := [(0, .ref 14), (1, .int x1)]) (st' := [.int 1, .int x1]) (σ' := ((xup M 14 0 s0), L)) rfl ⟨trivial, trivial, trivial⟩ ?_
      refine x_icmp_ne C (show decode cX11_device 40 = .ok (.if_icmp .ne 10, 3) from by decide +kernel) (tgt := 50) (by decide) (fun c11 => ?_) (fun c11 => ?_)
      · rw [if_neg c11] at h
        refine x_run C e_X11_device_8 e_X11_device_8_k (pc' := 52) (lv' := [(0, .ref 14), (1, .int x1)]) (st' := [.int 2, .int x1]) (σ' := ((xup M 14 0 s0), L)) rfl ⟨trivial, trivial, trivial⟩ ?_
        refine x_icmp_ne C (show decode cX11_device 52 = .ok (.if_icmp .ne 18, 3) from by decide +kernel) (tgt := 70) (by decide) (fun c12 => ?_) (fun c12 => ?_)
        · rw [if_neg c12] at h
          refine x_run C e_X11_device_9 e_X11_device_9_k (pc' := 72) (lv' := [(0, .ref 14), (1, .int x1)]) (st' := [.int 3, .int x1]) (σ' := ((xup M 14 0 s0), L)) rfl ⟨trivial, trivial, trivial⟩ ?_
          refine x_icmp_ne C (show decode cX11_device 72 = .ok (.if_icmp .ne 10, 3) from by decide +kernel) (tgt := 82) (by decide) (fun c13 => ?_) (fun c13 => ?_)
          · rw [if_neg c13] at h
            refine x_run C e_X11_device_10 e_X11_device_10_k (pc' := 86) (lv' := [(0, .ref 14), (1, .int x1)]) (st' := [.int (M 14 14)]) (σ' := ((xup M 14 0 s0), L)) rfl ⟨trivial, trivial, trivial⟩ ?_
            subst h
            exact x_iret C (show decode cX11_device 86 = .ok (.ireturn, 1) from by decide +kernel) (x_finI rfl ⟨⟨rfl, rfl⟩, trivial, hI7⟩) (Nat.le_refl 0) (Nat.le_refl 0)
          · rw [if_pos c13] at h
            have g14 : xrg 3 3 x1 := (x_c_eq (x_rgt x1) (x_rgc (x := 3) (k := 3) (by decide)) c13).1
            refine x_run C e_X11_device_11 e_X11_device_11_k (pc' := 79) (lv' := [(0, .ref 14), (1, .int x1)]) (st' := [.int (M 14 12)]) (σ' := ((xup M 14 0 s0), L)) rfl ⟨trivial, trivial, trivial⟩ ?_
            refine x_goto C (show decode cX11_device 79 = .ok (.goto 7, 3) from by decide +kernel) (tgt := 86) (by decide) ?_
            subst h
            exact x_iret C (show decode cX11_device 86 = .ok (.ireturn, 1) from by decide +kernel) (x_finI rfl ⟨⟨rfl, rfl⟩, trivial, hI7⟩) (Nat.le_refl 0) (Nat.le_refl 0)
        · rw [if_pos c12] at h
          have g15 : xrg 2 2 x1 := (x_c_eq (x_rgt x1) (x_rgc (x := 2) (k := 2) (by decide)) c12).1
          refine x_run C e_X11_device_12 e_X11_device_12_k (pc' := 59) (lv' := [(0, .ref 14), (1, .int x1)]) (st' := [.int (M 14 11)]) (σ' := ((xup M 14 0 s0), L)) rfl ⟨trivial, trivial, trivial⟩ ?_
          refine x_if_eq C (show decode cX11_device 59 = .ok (.ifCond .eq 7, 3) from by decide +kernel) (tgt := 66) (by decide) (fun c16 => ?_) (fun c16 => ?_)
          · rw [if_pos c16] at h
            have g17 : xrg 0 0 (M 14 11) := (x_c_eq (x_rgt (M 14 11)) (x_rgc (x := 0) (k := 0) (by decide)) c16).1
            refine x_run C e_X11_device_13 e_X11_device_13_k (pc' := 67) (lv' := [(0, .ref 14), (1, .int x1)]) (st' := [.int 0]) (σ' := ((xup M 14 0 s0), L)) rfl ⟨trivial, trivial⟩ ?_
            refine x_goto C (show decode cX11_device 67 = .ok (.goto 19, 3) from by decide +kernel) (tgt := 86) (by decide) ?_
            subst h
            exact x_iret C (show decode cX11_device 86 = .ok (.ireturn, 1) from by decide +kernel) (x_finI rfl ⟨⟨rfl, rfl⟩, trivial, hI7⟩) (Nat.le_refl 0) (Nat.le_refl 0)
          · rw [if_neg c16] at h
            refine x_run C e_X11_device_14 e_X11_device_14_k (pc' := 63) (lv' := [(0, .ref 14), (1, .int x1)]) (st' := [.int 1]) (σ' := ((xup M 14 0 s0), L)) rfl ⟨trivial, trivial⟩ ?_
            refine x_goto C (show decode cX11_device 63 = .ok (.goto 23, 3) from by decide +kernel) (tgt := 86) (by decide) ?_
            subst h
            exact x_iret C (show decode cX11_device 86 = .ok (.ireturn, 1) from by decide +kernel) (x_finI rfl ⟨⟨rfl, rfl⟩, trivial, hI7⟩) (Nat.le_refl 0) (Nat.le_refl 0)
      · rw [if_pos c11] at h
        have g18 : xrg 1 1 x1 := (x_c_eq (x_rgt x1) (x_rgc (x := 1) (k := 1) (by decide)) c11).1
        refine x_run C e_X11_device_15 e_X11_device_15_k (pc' := 47) (lv' := [(0, .ref 14), (1, .int x1)]) (st' := [.int (M 14 10)]) (σ' := ((xup M 14 0 s0), L)) rfl ⟨trivial, trivial, trivial⟩ ?_
        refine x_goto C (show decode cX11_device 47 = .ok (.goto 39, 3) from by decide +kernel) (tgt := 86) (by decide) ?_
        subst h
        exact x_iret C (show decode cX11_device 86 = .ok (.ireturn, 1) from by decide +kernel) (x_finI rfl ⟨⟨rfl, rfl⟩, trivial, hI7⟩) (Nat.le_refl 0) (Nat.le_refl 0)
    · rw [if_pos c10] at h
      have g19 : xrg 0 0 x1 := (x_c_eq (x_rgt x1) (x_rgc (x := 0) (k := 0) (by decide)) c10).1
      refine x_run C e_X11_device_16 e_X11_device_16_k (pc' := 35) (lv' := [(0, .ref 14), (1, .int x1)]) (st' := [.int (M 14 9)]) (σ' := ((xup M 14 0 s0), L)) rfl ⟨trivial, trivial, trivial⟩ ?_
      refine x_goto C (show decode cX11_device 35 = .ok (.goto 51, 3) from by decide +kernel) (tgt := 86) (by decide) ?_
      subst h
      exact x_iret C (show decode cX11_device 86 = .ok (.ireturn, 1) from by decide +kernel) (x_finI rfl ⟨⟨rfl, rfl⟩, trivial, hI7⟩) (Nat.le_refl 0) (Nat.le_refl 0)
  · rw [if_neg c8] at h
    have g20 : xrg 1 1 s0 := (x_c_nle ws0 (x_rgc (x := 0) (k := 0) (by decide)) c8).1
    refine x_run C e_X11_device_17 e_X11_device_17_k (pc' := 26) (lv' := [(0, .ref 14), (1, .int x1)]) (st' := [.int 0]) (σ' := ((xup M 14 0 s0), L)) rfl ⟨trivial, trivial⟩ ?_
    subst h
    exact x_iret C (show decode cX11_device 26 = .ok (.ireturn, 1) from by decide +kernel) (x_finI rfl ⟨⟨rfl, rfl⟩, trivial, hI7⟩) (Nat.le_refl 0) (Nat.le_refl 0)
set_option maxRecDepth 20000 in
set_option maxHeartbeats 4000000 in
theorem b_X11_device_10 {l : Launch} {L : Nat → Nat → Int64} {V : XJ} (r : Int32 × St) (C : C_X11_device l r L V) (x1 : Int32) (M : St) (hI : Inv INVM M) (h : f_X11_device_10 x1 M = r) : V 0 0 10 [(0, .ref 14), (1, .int x1)] [.ref 14] LAY (M, L) := by
  unfold f_X11_device_10 at h
  refine x_run C e_X11_device_4 e_X11_device_4_k (pc' := 11) (lv' := [(0, .ref 14), (1, .int x1)]) (st' := [.int 1, .ref 14]) (σ' := (M, L)) rfl ⟨trivial, trivial⟩ ?_
  refine x_goto C (show decode cX11_device 11 = .ok (.goto 4, 3) from by decide +kernel) (tgt := 15) (by decide) ?_
  exact b_X11_device_15 r C x1 1 M (x_rgw (x_rgc (x := 1) (k := 1) (by decide)) (lo' := 0) (hi' := 1) (by decide) (by decide)) hI h
set_option maxRecDepth 20000 in
set_option maxHeartbeats 4000000 in
theorem k_X11_device (l : Launch) (a1 : Int32) (M : St) (L : Nat → Nat → Int64) (hI : Inv INVM M) : XM l yX11_device cX11_device 2 (some .int) R_X11_device LAY [.ref 14, .int a1] (M, L) (P_X11_device (f_X11_device a1 M) L) := by
  refine XM.of (by decide) (Nat.le_of_ble_eq_true rfl) LAY_in cl_ok fl_X11_ok kc_X11_ok (fun V C => ?_)
  obtain ⟨r, h⟩ : ∃ r, f_X11_device a1 M = r := ⟨_, rfl⟩
  rw [h] at C
  change C_X11_device l r L V at C
  unfold f_X11_device at h
  show V 0 0 0 [(0, .ref 14), (1, .int a1)] [] LAY (M, L)
  refine x_run C e_X11_device_1 e_X11_device_1_k (pc' := 2) (lv' := [(0, .ref 14), (1, .int a1)]) (st' := [.int a1, .ref 14]) (σ' := (M, L)) rfl ⟨trivial, trivial, trivial⟩ ?_
  refine x_if_lt C (show decode cX11_device 2 = .ok (.ifCond .lt 8, 3) from by decide +kernel) (tgt := 10) (by decide) (fun c1 => ?_) (fun c1 => ?_)
  · rw [if_pos c1] at h
    have g2 : xrg (-2147483648) (-1) a1 := (x_c_lt (x_rgt a1) (x_rgc (x := 0) (k := 0) (by decide)) c1).1
    exact b_X11_device_10 r C a1 M hI h
  · rw [if_neg c1] at h
    have g3 : xrg 0 2147483647 a1 := (x_c_nlt (x_rgt a1) (x_rgc (x := 0) (k := 0) (by decide)) c1).1
    refine x_run C e_X11_device_2 e_X11_device_2_k (pc' := 7) (lv' := [(0, .ref 14), (1, .int a1)]) (st' := [.int 4, .int a1, .ref 14]) (σ' := (M, L)) rfl ⟨trivial, trivial, trivial⟩ ?_
    refine x_icmp_le C (show decode cX11_device 7 = .ok (.if_icmp .le 7, 3) from by decide +kernel) (tgt := 14) (by decide) (fun c4 => ?_) (fun c4 => ?_)
    · rw [if_pos c4] at h
      have g5 : xrg 0 4 a1 := (x_c_le g3 (x_rgc (x := 4) (k := 4) (by decide)) c4).1
      refine x_run C e_X11_device_3 e_X11_device_3_k (pc' := 15) (lv' := [(0, .ref 14), (1, .int a1)]) (st' := [.int 0, .ref 14]) (σ' := (M, L)) rfl ⟨trivial, trivial⟩ ?_
      exact b_X11_device_15 r C a1 0 M (x_rgw (x_rgc (x := 0) (k := 0) (by decide)) (lo' := 0) (hi' := 1) (by decide) (by decide)) hI h
    · rw [if_neg c4] at h
      have g6 : xrg 5 2147483647 a1 := (x_c_nle g3 (x_rgc (x := 4) (k := 4) (by decide)) c4).1
      exact b_X11_device_10 r C a1 M hI h
-- X11_state
def e_X11_state_1 : List xI := [(0, .aload_n 0, 1, .null), (1, .iconst 0, 1, .int 0), (2, .putfield 42, 3, .null), (5, .aload_n 0, 1, .null), (6, .getfield 23, 3, .null)]
theorem e_X11_state_1_k : e_X11_state_1.all (fun q => xokB cX11_state q && xokL q) = true := by decide +kernel
def e_X11_state_2 : List xI := [(16, .aload_n 0, 1, .null), (17, .getfield 297, 3, .null)]
theorem e_X11_state_2_k : e_X11_state_2.all (fun q => xokB cX11_state q && xokL q) = true := by decide +kernel
def e_X11_state_3 : List xI := [(27, .iconst 0, 1, .int 0)]
theorem e_X11_state_3_k : e_X11_state_3.all (fun q => xokB cX11_state q && xokL q) = true := by decide +kernel
def e_X11_state_4 : List xI := [(23, .iconst 1, 1, .int 1)]
theorem e_X11_state_4_k : e_X11_state_4.all (fun q => xokB cX11_state q && xokL q) = true := by decide +kernel
def e_X11_state_5 : List xI := [(12, .iconst 2, 1, .int 2)]
theorem e_X11_state_5_k : e_X11_state_5.all (fun q => xokB cX11_state q && xokL q) = true := by decide +kernel
abbrev P_X11_state (r : Int32 × St) (L : Nat → Nat → Int64) : Option Value → xG → Prop := fun v σ' => PoI r.1 r.2 L v σ' ∧ xrg 0 2 r.1 ∧ Inv INVM r.2
abbrev R_X11_state : Room := { frames := 0, cells := 0, slots := 0, locals := 0 }
abbrev C_X11_state (l : Launch) (r : Int32 × St) (L : Nat → Nat → Int64) (V : XJ) : Prop := XC l yX11_state.cls yX11_state.name cX11_state 1 R_X11_state 0 0 fl_X11 kc_X11 LAY.length (xfin (some .int) LAY (P_X11_state r L)) V
def f_X11_state (M : St) : Int32 × St := (if (M 14 5) = 0 then (if (M 14 6) = 0 then (0, (xup M 14 0 0)) else (1, (xup M 14 0 0))) else (2, (xup M 14 0 0)))
set_option maxRecDepth 20000 in
set_option maxHeartbeats 4000000 in
theorem k_X11_state (l : Launch) (M : St) (L : Nat → Nat → Int64) (hI : Inv INVM M) : XM l yX11_state cX11_state 1 (some .int) R_X11_state LAY [.ref 14] (M, L) (P_X11_state (f_X11_state M) L) := by
  refine XM.of (by decide) (Nat.le_of_ble_eq_true rfl) LAY_in cl_ok fl_X11_ok kc_X11_ok (fun V C => ?_)
  obtain ⟨r, h⟩ : ∃ r, f_X11_state M = r := ⟨_, rfl⟩
  rw [h] at C
  change C_X11_state l r L V at C
  unfold f_X11_state at h
  show V 0 0 0 [(0, .ref 14)] [] LAY (M, L)
  refine x_run C e_X11_state_1 e_X11_state_1_k (pc' := 9) (lv' := [(0, .ref 14)]) (st' := [.int (M 14 5)]) (σ' := ((xup M 14 0 0), L)) rfl ⟨trivial, trivial, trivial, trivial, trivial, trivial⟩ ?_
  have hI1 : Inv INVM (xup M 14 0 0) := (hI.fld 14 0 0 (by decide))
  refine x_if_eq C (show decode cX11_state 9 = .ok (.ifCond .eq 7, 3) from by decide +kernel) (tgt := 16) (by decide) (fun c2 => ?_) (fun c2 => ?_)
  · rw [if_pos c2] at h
    have g3 : xrg 0 0 (M 14 5) := (x_c_eq (x_rgt (M 14 5)) (x_rgc (x := 0) (k := 0) (by decide)) c2).1
    refine x_run C e_X11_state_2 e_X11_state_2_k (pc' := 20) (lv' := [(0, .ref 14)]) (st' := [.int (M 14 6)]) (σ' := ((xup M 14 0 0), L)) rfl ⟨trivial, trivial, trivial⟩ ?_
    refine x_if_eq C (show decode cX11_state 20 = .ok (.ifCond .eq 7, 3) from by decide +kernel) (tgt := 27) (by decide) (fun c4 => ?_) (fun c4 => ?_)
    · rw [if_pos c4] at h
      have g5 : xrg 0 0 (M 14 6) := (x_c_eq (x_rgt (M 14 6)) (x_rgc (x := 0) (k := 0) (by decide)) c4).1
      refine x_run C e_X11_state_3 e_X11_state_3_k (pc' := 28) (lv' := [(0, .ref 14)]) (st' := [.int 0]) (σ' := ((xup M 14 0 0), L)) rfl ⟨trivial, trivial⟩ ?_
      subst h
      exact x_iret C (show decode cX11_state 28 = .ok (.ireturn, 1) from by decide +kernel) (x_finI rfl ⟨⟨rfl, rfl⟩, (x_rgw (x_rgc (x := 0) (k := 0) (by decide)) (lo' := 0) (hi' := 2) (by decide) (by decide)), hI1⟩) (Nat.le_refl 0) (Nat.le_refl 0)
    · rw [if_neg c4] at h
      refine x_run C e_X11_state_4 e_X11_state_4_k (pc' := 24) (lv' := [(0, .ref 14)]) (st' := [.int 1]) (σ' := ((xup M 14 0 0), L)) rfl ⟨trivial, trivial⟩ ?_
      refine x_goto C (show decode cX11_state 24 = .ok (.goto 4, 3) from by decide +kernel) (tgt := 28) (by decide) ?_
      subst h
      exact x_iret C (show decode cX11_state 28 = .ok (.ireturn, 1) from by decide +kernel) (x_finI rfl ⟨⟨rfl, rfl⟩, (x_rgw (x_rgc (x := 1) (k := 1) (by decide)) (lo' := 0) (hi' := 2) (by decide) (by decide)), hI1⟩) (Nat.le_refl 0) (Nat.le_refl 0)
  · rw [if_neg c2] at h
    refine x_run C e_X11_state_5 e_X11_state_5_k (pc' := 13) (lv' := [(0, .ref 14)]) (st' := [.int 2]) (σ' := ((xup M 14 0 0), L)) rfl ⟨trivial, trivial⟩ ?_
    refine x_goto C (show decode cX11_state 13 = .ok (.goto 15, 3) from by decide +kernel) (tgt := 28) (by decide) ?_
    subst h
    exact x_iret C (show decode cX11_state 28 = .ok (.ireturn, 1) from by decide +kernel) (x_finI rfl ⟨⟨rfl, rfl⟩, (x_rgw (x_rgc (x := 2) (k := 2) (by decide)) (lo' := 0) (hi' := 2) (by decide) (by decide)), hI1⟩) (Nat.le_refl 0) (Nat.le_refl 0)
-- X11_counted
def e_X11_counted_1 : List xI := [(0, .aload_n 0, 1, .null), (1, .iconst 0, 1, .int 0), (2, .putfield 42, 3, .null), (5, .iload_n 1, 1, .null)]
theorem e_X11_counted_1_k : e_X11_counted_1.all (fun q => xokB cX11_counted q && xokL q) = true := by decide +kernel
def e_X11_counted_2 : List xI := [(15, .iconst 0, 1, .int 0)]
theorem e_X11_counted_2_k : e_X11_counted_2.all (fun q => xokB cX11_counted q && xokL q) = true := by decide +kernel
def e_X11_counted_3 : List xI := [(9, .iload_n 1, 1, .null), (10, .bipush 63, 2, .int 63)]
theorem e_X11_counted_3_k : e_X11_counted_3.all (fun q => xokB cX11_counted q && xokL q) = true := by decide +kernel
def e_X11_counted_4 : List xI := [(19, .aload_n 0, 1, .null), (20, .getfield 39, 3, .null), (23, .iload_n 1, 1, .null), (24, .iaload, 1, .null)]
theorem e_X11_counted_4_k : e_X11_counted_4.all (fun q => xokB cX11_counted q && xokL q) = true := by decide +kernel
abbrev P_X11_counted (r : Int32 × St) (L : Nat → Nat → Int64) : Option Value → xG → Prop := fun v σ' => PoI r.1 r.2 L v σ' ∧ True ∧ Inv INVM r.2
abbrev R_X11_counted : Room := { frames := 0, cells := 0, slots := 0, locals := 0 }
abbrev C_X11_counted (l : Launch) (r : Int32 × St) (L : Nat → Nat → Int64) (V : XJ) : Prop := XC l yX11_counted.cls yX11_counted.name cX11_counted 2 R_X11_counted 0 0 fl_X11 kc_X11 LAY.length (xfin (some .int) LAY (P_X11_counted r L)) V
def f_X11_counted (a1 : Int32) (M : St) : Int32 × St := (if a1 < 0 then (0, (xup M 14 0 0)) else (if a1 ≤ 63 then ((M 21 a1.toNatClampNeg), (xup M 14 0 0)) else (0, (xup M 14 0 0))))
set_option maxRecDepth 20000 in
set_option maxHeartbeats 4000000 in
theorem k_X11_counted (l : Launch) (a1 : Int32) (M : St) (L : Nat → Nat → Int64) (hI : Inv INVM M) : XM l yX11_counted cX11_counted 2 (some .int) R_X11_counted LAY [.ref 14, .int a1] (M, L) (P_X11_counted (f_X11_counted a1 M) L) := by
  refine XM.of (by decide) (Nat.le_of_ble_eq_true rfl) LAY_in cl_ok fl_X11_ok kc_X11_ok (fun V C => ?_)
  obtain ⟨r, h⟩ : ∃ r, f_X11_counted a1 M = r := ⟨_, rfl⟩
  rw [h] at C
  change C_X11_counted l r L V at C
  unfold f_X11_counted at h
  show V 0 0 0 [(0, .ref 14), (1, .int a1)] [] LAY (M, L)
  refine x_run C e_X11_counted_1 e_X11_counted_1_k (pc' := 6) (lv' := [(0, .ref 14), (1, .int a1)]) (st' := [.int a1]) (σ' := ((xup M 14 0 0), L)) rfl ⟨trivial, trivial, trivial, trivial, trivial⟩ ?_
  have hI1 : Inv INVM (xup M 14 0 0) := (hI.fld 14 0 0 (by decide))
  refine x_if_lt C (show decode cX11_counted 6 = .ok (.ifCond .lt 9, 3) from by decide +kernel) (tgt := 15) (by decide) (fun c2 => ?_) (fun c2 => ?_)
  · rw [if_pos c2] at h
    have g3 : xrg (-2147483648) (-1) a1 := (x_c_lt (x_rgt a1) (x_rgc (x := 0) (k := 0) (by decide)) c2).1
    refine x_run C e_X11_counted_2 e_X11_counted_2_k (pc' := 16) (lv' := [(0, .ref 14), (1, .int a1)]) (st' := [.int 0]) (σ' := ((xup M 14 0 0), L)) rfl ⟨trivial, trivial⟩ ?_
    refine x_goto C (show decode cX11_counted 16 = .ok (.goto 9, 3) from by decide +kernel) (tgt := 25) (by decide) ?_
    subst h
    exact x_iret C (show decode cX11_counted 25 = .ok (.ireturn, 1) from by decide +kernel) (x_finI rfl ⟨⟨rfl, rfl⟩, trivial, hI1⟩) (Nat.le_refl 0) (Nat.le_refl 0)
  · rw [if_neg c2] at h
    have g4 : xrg 0 2147483647 a1 := (x_c_nlt (x_rgt a1) (x_rgc (x := 0) (k := 0) (by decide)) c2).1
    refine x_run C e_X11_counted_3 e_X11_counted_3_k (pc' := 12) (lv' := [(0, .ref 14), (1, .int a1)]) (st' := [.int 63, .int a1]) (σ' := ((xup M 14 0 0), L)) rfl ⟨trivial, trivial, trivial⟩ ?_
    refine x_icmp_le C (show decode cX11_counted 12 = .ok (.if_icmp .le 7, 3) from by decide +kernel) (tgt := 19) (by decide) (fun c5 => ?_) (fun c5 => ?_)
    · rw [if_pos c5] at h
      have g6 : xrg 0 63 a1 := (x_c_le g4 (x_rgc (x := 63) (k := 63) (by decide)) c5).1
      refine x_run C e_X11_counted_4 e_X11_counted_4_k (pc' := 25) (lv' := [(0, .ref 14), (1, .int a1)]) (st' := [.int (M 21 a1.toNatClampNeg)]) (σ' := ((xup M 14 0 0), L)) rfl ⟨trivial, trivial, trivial, (x_rgv g6 (by decide) (by decide)), trivial⟩ ?_
      subst h
      exact x_iret C (show decode cX11_counted 25 = .ok (.ireturn, 1) from by decide +kernel) (x_finI rfl ⟨⟨rfl, rfl⟩, trivial, hI1⟩) (Nat.le_refl 0) (Nat.le_refl 0)
    · rw [if_neg c5] at h
      have g7 : xrg 64 2147483647 a1 := (x_c_nle g4 (x_rgc (x := 63) (k := 63) (by decide)) c5).1
      refine x_run C e_X11_counted_2 e_X11_counted_2_k (pc' := 16) (lv' := [(0, .ref 14), (1, .int a1)]) (st' := [.int 0]) (σ' := ((xup M 14 0 0), L)) rfl ⟨trivial, trivial⟩ ?_
      refine x_goto C (show decode cX11_counted 16 = .ok (.goto 9, 3) from by decide +kernel) (tgt := 25) (by decide) ?_
      subst h
      exact x_iret C (show decode cX11_counted 25 = .ok (.ireturn, 1) from by decide +kernel) (x_finI rfl ⟨⟨rfl, rfl⟩, trivial, hI1⟩) (Nat.le_refl 0) (Nat.le_refl 0)
