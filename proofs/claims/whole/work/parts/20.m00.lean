def INVM : List (Nat × Nat × Int × Int) := [(14, 12, 0, 16), (14, 14, 0, 64), (14, 25, 0, 17), (14, 16, 0, 7), (14, 10, 0, 7), (14, 20, 0, 3), (14, 23, 0, 47)]
-- X11_thrown
def e_X11_thrown_1 : List xI := [(0, .aload_n 0, 1, .null), (1, .getfield 42, 3, .null)]
theorem e_X11_thrown_1_k : e_X11_thrown_1.all (fun q => xokB cX11_thrown q && xokL q) = true := by decide +kernel
abbrev P_X11_thrown (r : Int32) (M0 : St) (L : Nat → Nat → Int64) : Option Value → xG → Prop := fun v σ' => PoI r M0 L v σ' ∧ True ∧ Inv INVM M0
abbrev R_X11_thrown : Room := { frames := 0, cells := 0, slots := 0, locals := 0 }
abbrev C_X11_thrown (l : Launch) (r : Int32) (M0 : St) (L : Nat → Nat → Int64) (V : XJ) : Prop := XC l yX11_thrown.cls yX11_thrown.name cX11_thrown 1 R_X11_thrown 0 0 fl_X11 kc_X11 LAY.length (xfin (some .int) LAY (P_X11_thrown r M0 L)) V
def f_X11_thrown (M : St) : Int32 := (M 14 0)
set_option maxRecDepth 20000 in
set_option maxHeartbeats 4000000 in
theorem k_X11_thrown (l : Launch) (M : St) (L : Nat → Nat → Int64) (hI : Inv INVM M) : XM l yX11_thrown cX11_thrown 1 (some .int) R_X11_thrown LAY [.ref 14] (M, L) (P_X11_thrown (f_X11_thrown M) M L) := by
  refine XM.of (by decide) (Nat.le_of_ble_eq_true rfl) LAY_in cl_ok fl_X11_ok kc_X11_ok (fun V C => ?_)
  obtain ⟨r, h⟩ : ∃ r, f_X11_thrown M = r := ⟨_, rfl⟩
  rw [h] at C
  change C_X11_thrown l r M L V at C
  unfold f_X11_thrown at h
  show V 0 0 0 [(0, .ref 14)] [] LAY (M, L)
  refine x_run C e_X11_thrown_1 e_X11_thrown_1_k (pc' := 4) (lv' := [(0, .ref 14)]) (st' := [.int (M 14 0)]) (σ' := (M, L)) rfl ⟨trivial, trivial, trivial⟩ ?_
  subst h
  exact x_iret C (show decode cX11_thrown 4 = .ok (.ireturn, 1) from by decide +kernel) (x_finI rfl ⟨⟨rfl, rfl⟩, trivial, hI⟩) (Nat.le_refl 0) (Nat.le_refl 0)
-- X11_put
def e_X11_put_1 : List xI := [(0, .aload_n 0, 1, .null), (1, .iload_n 1, 1, .null)]
theorem e_X11_put_1_k : e_X11_put_1.all (fun q => xokB cX11_put q && xokL q) = true := by decide +kernel
def e_X11_put_2 : List xI := [(18, .iconst 1, 1, .int 1)]
theorem e_X11_put_2_k : e_X11_put_2.all (fun q => xokB cX11_put q && xokL q) = true := by decide +kernel
def e_X11_put_3 : List xI := [(23, .putfield 42, 3, .null), (26, .aload_n 0, 1, .null), (27, .getfield 42, 3, .null)]
theorem e_X11_put_3_k : e_X11_put_3.all (fun q => xokB cX11_put q && xokL q) = true := by decide +kernel
def e_X11_put_4 : List xI := [(5, .iload_n 1, 1, .null), (6, .sipush 2046, 3, .int 2046)]
theorem e_X11_put_4_k : e_X11_put_4.all (fun q => xokB cX11_put q && xokL q) = true := by decide +kernel
def e_X11_put_5 : List xI := [(12, .iload_n 1, 1, .null), (13, .iconst 2, 1, .int 2), (14, .irem, 1, .null)]
theorem e_X11_put_5_k : e_X11_put_5.all (fun q => xokB cX11_put q && xokL q) = true := by decide +kernel
def e_X11_put_6 : List xI := [(22, .iconst 0, 1, .int 0), (23, .putfield 42, 3, .null), (26, .aload_n 0, 1, .null), (27, .getfield 42, 3, .null)]
theorem e_X11_put_6_k : e_X11_put_6.all (fun q => xokB cX11_put q && xokL q) = true := by decide +kernel
def e_X11_put_7 : List xI := [(34, .aload_n 0, 1, .null), (35, .getfield 27, 3, .null), (38, .iload_n 1, 1, .null), (39, .iload_n 2, 1, .null), (40, .bipush 8, 2, .int 8), (42, .ishr, 1, .null), (43, .sipush 255, 3, .int 255), (46, .iand, 1, .null), (47, .iastore, 1, .null), (48, .aload_n 0, 1, .null), (49, .getfield 27, 3, .null), (52, .iload_n 1, 1, .null), (53, .iconst 1, 1, .int 1), (54, .iadd, 1, .null), (55, .iload_n 2, 1, .null), (56, .sipush 255, 3, .int 255), (59, .iand, 1, .null), (60, .iastore, 1, .null)]
theorem e_X11_put_7_k : e_X11_put_7.all (fun q => xokB cX11_put q && xokL q) = true := by decide +kernel
abbrev P_X11_put (r : St) (L : Nat → Nat → Int64) : Option Value → xG → Prop := fun v σ' => PoV r L v σ' ∧ Inv INVM r
abbrev R_X11_put : Room := { frames := 0, cells := 0, slots := 0, locals := 0 }
abbrev C_X11_put (l : Launch) (r : St) (L : Nat → Nat → Int64) (V : XJ) : Prop := XC l yX11_put.cls yX11_put.name cX11_put 3 R_X11_put 0 0 fl_X11 kc_X11 LAY.length (xfin none LAY (P_X11_put r L)) V
def f_X11_put (a1 : Int32) (a2 : Int32) (M : St) : St := (if a1 < 0 then (xup M 14 0 1) else (if 2046 < a1 then (xup M 14 0 1) else (if (a1 - a1 / 2 * 2) = 0 then (xup (xup (xup M 14 0 0) 18 a1.toNatClampNeg ((a2 >>> ((8 : Int32) &&& 31)) &&& 255)) 18 (a1 + 1).toNatClampNeg (a2 &&& 255)) else (xup M 14 0 1))))
set_option maxRecDepth 20000 in
set_option maxHeartbeats 4000000 in
theorem k_X11_put (l : Launch) (a1 : Int32) (a2 : Int32) (M : St) (L : Nat → Nat → Int64) (hI : Inv INVM M) : XM l yX11_put cX11_put 3 none R_X11_put LAY [.ref 14, .int a1, .int a2] (M, L) (P_X11_put (f_X11_put a1 a2 M) L) := by
  refine XM.of (by decide) (Nat.le_of_ble_eq_true rfl) LAY_in cl_ok fl_X11_ok kc_X11_ok (fun V C => ?_)
  obtain ⟨r, h⟩ : ∃ r, f_X11_put a1 a2 M = r := ⟨_, rfl⟩
  rw [h] at C
  change C_X11_put l r L V at C
  unfold f_X11_put at h
  show V 0 0 0 [(0, .ref 14), (1, .int a1), (2, .int a2)] [] LAY (M, L)
  refine x_run C e_X11_put_1 e_X11_put_1_k (pc' := 2) (lv' := [(0, .ref 14), (1, .int a1), (2, .int a2)]) (st' := [.int a1, .ref 14]) (σ' := (M, L)) rfl ⟨trivial, trivial, trivial⟩ ?_
  refine x_if_lt C (show decode cX11_put 2 = .ok (.ifCond .lt 16, 3) from by decide +kernel) (tgt := 18) (by decide) (fun c1 => ?_) (fun c1 => ?_)
  · rw [if_pos c1] at h
    have g2 : xrg (-2147483648) (-1) a1 := (x_c_lt (x_rgt a1) (x_rgc (x := 0) (k := 0) (by decide)) c1).1
    refine x_run C e_X11_put_2 e_X11_put_2_k (pc' := 19) (lv' := [(0, .ref 14), (1, .int a1), (2, .int a2)]) (st' := [.int 1, .ref 14]) (σ' := (M, L)) rfl ⟨trivial, trivial⟩ ?_
    refine x_goto C (show decode cX11_put 19 = .ok (.goto 4, 3) from by decide +kernel) (tgt := 23) (by decide) ?_
    refine x_run C e_X11_put_3 e_X11_put_3_k (pc' := 30) (lv' := [(0, .ref 14), (1, .int a1), (2, .int a2)]) (st' := [.int 1]) (σ' := ((xup M 14 0 1), L)) rfl ⟨trivial, trivial, trivial, trivial⟩ ?_
    have hI3 : Inv INVM (xup M 14 0 1) := (hI.fld 14 0 1 (by decide))
    refine x_if_le C (show decode cX11_put 30 = .ok (.ifCond .le 4, 3) from by decide +kernel) (tgt := 34) (by decide) (fun c4 => absurd c4 (by decide)) (fun c4 => ?_)
    subst h
    exact x_vret C (show decode cX11_put 33 = .ok (.return_, 1) from by decide +kernel) (x_finV ⟨⟨rfl, rfl⟩, hI3⟩) (Nat.le_refl 0) (Nat.le_refl 0)
  · rw [if_neg c1] at h
    have g5 : xrg 0 2147483647 a1 := (x_c_nlt (x_rgt a1) (x_rgc (x := 0) (k := 0) (by decide)) c1).1
    refine x_run C e_X11_put_4 e_X11_put_4_k (pc' := 9) (lv' := [(0, .ref 14), (1, .int a1), (2, .int a2)]) (st' := [.int 2046, .int a1, .ref 14]) (σ' := (M, L)) rfl ⟨trivial, trivial, trivial⟩ ?_
    refine x_icmp_gt C (show decode cX11_put 9 = .ok (.if_icmp .gt 9, 3) from by decide +kernel) (tgt := 18) (by decide) (fun c6 => ?_) (fun c6 => ?_)
    · rw [if_pos c6] at h
      have g7 : xrg 2047 2147483647 a1 := (x_c_lt (x_rgc (x := 2046) (k := 2046) (by decide)) g5 c6).2
      refine x_run C e_X11_put_2 e_X11_put_2_k (pc' := 19) (lv' := [(0, .ref 14), (1, .int a1), (2, .int a2)]) (st' := [.int 1, .ref 14]) (σ' := (M, L)) rfl ⟨trivial, trivial⟩ ?_
      refine x_goto C (show decode cX11_put 19 = .ok (.goto 4, 3) from by decide +kernel) (tgt := 23) (by decide) ?_
      refine x_run C e_X11_put_3 e_X11_put_3_k (pc' := 30) (lv' := [(0, .ref 14), (1, .int a1), (2, .int a2)]) (st' := [.int 1]) (σ' := ((xup M 14 0 1), L)) rfl ⟨trivial, trivial, trivial, trivial⟩ ?_
      have hI8 : Inv INVM (xup M 14 0 1) := (hI.fld 14 0 1 (by decide))
      refine x_if_le C (show decode cX11_put 30 = .ok (.ifCond .le 4, 3) from by decide +kernel) (tgt := 34) (by decide) (fun c9 => absurd c9 (by decide)) (fun c9 => ?_)
      subst h
      exact x_vret C (show decode cX11_put 33 = .ok (.return_, 1) from by decide +kernel) (x_finV ⟨⟨rfl, rfl⟩, hI8⟩) (Nat.le_refl 0) (Nat.le_refl 0)
    · rw [if_neg c6] at h
      have g10 : xrg 0 2046 a1 := (x_c_nlt (x_rgc (x := 2046) (k := 2046) (by decide)) g5 c6).2
      refine x_run C e_X11_put_5 e_X11_put_5_k (pc' := 15) (lv' := [(0, .ref 14), (1, .int a1), (2, .int a2)]) (st' := [.int (a1 - a1 / 2 * 2), .ref 14]) (σ' := (M, L)) rfl ⟨trivial, trivial, (by decide), trivial⟩ ?_
      refine x_if_eq C (show decode cX11_put 15 = .ok (.ifCond .eq 7, 3) from by decide +kernel) (tgt := 22) (by decide) (fun c11 => ?_) (fun c11 => ?_)
      · rw [if_pos c11] at h
        have g12 : xrg 0 0 (a1 - a1 / 2 * 2) := (x_c_eq (x_rgt (a1 - a1 / 2 * 2)) (x_rgc (x := 0) (k := 0) (by decide)) c11).1
        refine x_run C e_X11_put_6 e_X11_put_6_k (pc' := 30) (lv' := [(0, .ref 14), (1, .int a1), (2, .int a2)]) (st' := [.int 0]) (σ' := ((xup M 14 0 0), L)) rfl ⟨trivial, trivial, trivial, trivial, trivial⟩ ?_
        have hI13 : Inv INVM (xup M 14 0 0) := (hI.fld 14 0 0 (by decide))
        refine x_if_le C (show decode cX11_put 30 = .ok (.ifCond .le 4, 3) from by decide +kernel) (tgt := 34) (by decide) (fun c14 => ?_) (fun c14 => absurd c14 (by decide))
        refine x_run C e_X11_put_7 e_X11_put_7_k (pc' := 61) (lv' := [(0, .ref 14), (1, .int a1), (2, .int a2)]) (st' := []) (σ' := ((xup (xup (xup M 14 0 0) 18 a1.toNatClampNeg ((a2 >>> ((8 : Int32) &&& 31)) &&& 255)) 18 (a1 + 1).toNatClampNeg (a2 &&& 255)), L)) rfl ⟨trivial, trivial, trivial, trivial, trivial, trivial, trivial, trivial, (x_rgv g10 (by decide) (by decide)), trivial, trivial, trivial, trivial, trivial, trivial, trivial, trivial, (x_rgv (x_rg_add g10 (x_rgc (x := 1) (k := 1) (by decide)) (by decide) (by decide)) (by decide) (by decide)), trivial⟩ ?_
        have hI15 : Inv INVM (xup (xup (xup M 14 0 0) 18 a1.toNatClampNeg ((a2 >>> ((8 : Int32) &&& 31)) &&& 255)) 18 (a1 + 1).toNatClampNeg (a2 &&& 255)) := ((hI13.arr 18 (a1.toNatClampNeg) ((a2 >>> ((8 : Int32) &&& 31)) &&& 255) (by decide)).arr 18 ((a1 + 1).toNatClampNeg) (a2 &&& 255) (by decide))
        subst h
        exact x_vret C (show decode cX11_put 61 = .ok (.return_, 1) from by decide +kernel) (x_finV ⟨⟨rfl, rfl⟩, hI15⟩) (Nat.le_refl 0) (Nat.le_refl 0)
      · rw [if_neg c11] at h
        refine x_run C e_X11_put_2 e_X11_put_2_k (pc' := 19) (lv' := [(0, .ref 14), (1, .int a1), (2, .int a2)]) (st' := [.int 1, .ref 14]) (σ' := (M, L)) rfl ⟨trivial, trivial⟩ ?_
        refine x_goto C (show decode cX11_put 19 = .ok (.goto 4, 3) from by decide +kernel) (tgt := 23) (by decide) ?_
        refine x_run C e_X11_put_3 e_X11_put_3_k (pc' := 30) (lv' := [(0, .ref 14), (1, .int a1), (2, .int a2)]) (st' := [.int 1]) (σ' := ((xup M 14 0 1), L)) rfl ⟨trivial, trivial, trivial, trivial⟩ ?_
        have hI16 : Inv INVM (xup M 14 0 1) := (hI.fld 14 0 1 (by decide))
        refine x_if_le C (show decode cX11_put 30 = .ok (.ifCond .le 4, 3) from by decide +kernel) (tgt := 34) (by decide) (fun c17 => absurd c17 (by decide)) (fun c17 => ?_)
        subst h
        exact x_vret C (show decode cX11_put 33 = .ok (.return_, 1) from by decide +kernel) (x_finV ⟨⟨rfl, rfl⟩, hI16⟩) (Nat.le_refl 0) (Nat.le_refl 0)
-- X11_fence
def e_X11_fence_1 : List xI := [(0, .aload_n 0, 1, .null), (1, .iload_n 1, 1, .null)]
theorem e_X11_fence_1_k : e_X11_fence_1.all (fun q => xokB cX11_fence q && xokL q) = true := by decide +kernel
def e_X11_fence_2 : List xI := [(12, .iconst 1, 1, .int 1)]
theorem e_X11_fence_2_k : e_X11_fence_2.all (fun q => xokB cX11_fence q && xokL q) = true := by decide +kernel
def e_X11_fence_3 : List xI := [(17, .putfield 42, 3, .null), (20, .aload_n 0, 1, .null), (21, .aload_n 0, 1, .null), (22, .getfield 42, 3, .null)]
theorem e_X11_fence_3_k : e_X11_fence_3.all (fun q => xokB cX11_fence q && xokL q) = true := by decide +kernel
def e_X11_fence_4 : List xI := [(28, .aload_n 0, 1, .null), (29, .getfield 58, 3, .null)]
theorem e_X11_fence_4_k : e_X11_fence_4.all (fun q => xokB cX11_fence q && xokL q) = true := by decide +kernel
def e_X11_fence_5 : List xI := [(36, .putfield 58, 3, .null)]
theorem e_X11_fence_5_k : e_X11_fence_5.all (fun q => xokB cX11_fence q && xokL q) = true := by decide +kernel
def e_X11_fence_6 : List xI := [(5, .iload_n 1, 1, .null), (6, .sipush 2048, 3, .int 2048)]
theorem e_X11_fence_6_k : e_X11_fence_6.all (fun q => xokB cX11_fence q && xokL q) = true := by decide +kernel
def e_X11_fence_7 : List xI := [(16, .iconst 0, 1, .int 0), (17, .putfield 42, 3, .null), (20, .aload_n 0, 1, .null), (21, .aload_n 0, 1, .null), (22, .getfield 42, 3, .null)]
theorem e_X11_fence_7_k : e_X11_fence_7.all (fun q => xokB cX11_fence q && xokL q) = true := by decide +kernel
def e_X11_fence_8 : List xI := [(35, .iload_n 1, 1, .null), (36, .putfield 58, 3, .null)]
theorem e_X11_fence_8_k : e_X11_fence_8.all (fun q => xokB cX11_fence q && xokL q) = true := by decide +kernel
abbrev P_X11_fence (r : St) (L : Nat → Nat → Int64) : Option Value → xG → Prop := fun v σ' => PoV r L v σ' ∧ Inv INVM r
abbrev R_X11_fence : Room := { frames := 0, cells := 0, slots := 0, locals := 0 }
abbrev C_X11_fence (l : Launch) (r : St) (L : Nat → Nat → Int64) (V : XJ) : Prop := XC l yX11_fence.cls yX11_fence.name cX11_fence 2 R_X11_fence 0 0 fl_X11 kc_X11 LAY.length (xfin none LAY (P_X11_fence r L)) V
def f_X11_fence (a1 : Int32) (M : St) : St := (if a1 < 0 then (xup (xup M 14 0 1) 14 8 (M 14 8)) else (if a1 ≤ 2048 then (xup (xup M 14 0 0) 14 8 a1) else (xup (xup M 14 0 1) 14 8 (M 14 8))))
set_option maxRecDepth 20000 in
set_option maxHeartbeats 4000000 in
theorem k_X11_fence (l : Launch) (a1 : Int32) (M : St) (L : Nat → Nat → Int64) (hI : Inv INVM M) : XM l yX11_fence cX11_fence 2 none R_X11_fence LAY [.ref 14, .int a1] (M, L) (P_X11_fence (f_X11_fence a1 M) L) := by
  refine XM.of (by decide) (Nat.le_of_ble_eq_true rfl) LAY_in cl_ok fl_X11_ok kc_X11_ok (fun V C => ?_)
  obtain ⟨r, h⟩ : ∃ r, f_X11_fence a1 M = r := ⟨_, rfl⟩
  rw [h] at C
  change C_X11_fence l r L V at C
  unfold f_X11_fence at h
  show V 0 0 0 [(0, .ref 14), (1, .int a1)] [] LAY (M, L)
  refine x_run C e_X11_fence_1 e_X11_fence_1_k (pc' := 2) (lv' := [(0, .ref 14), (1, .int a1)]) (st' := [.int a1, .ref 14]) (σ' := (M, L)) rfl ⟨trivial, trivial, trivial⟩ ?_
  refine x_if_lt C (show decode cX11_fence 2 = .ok (.ifCond .lt 10, 3) from by decide +kernel) (tgt := 12) (by decide) (fun c1 => ?_) (fun c1 => ?_)
  · rw [if_pos c1] at h
    have g2 : xrg (-2147483648) (-1) a1 := (x_c_lt (x_rgt a1) (x_rgc (x := 0) (k := 0) (by decide)) c1).1
    refine x_run C e_X11_fence_2 e_X11_fence_2_k (pc' := 13) (lv' := [(0, .ref 14), (1, .int a1)]) (st' := [.int 1, .ref 14]) (σ' := (M, L)) rfl ⟨trivial, trivial⟩ ?_
    refine x_goto C (show decode cX11_fence 13 = .ok (.goto 4, 3) from by decide +kernel) (tgt := 17) (by decide) ?_
    refine x_run C e_X11_fence_3 e_X11_fence_3_k (pc' := 25) (lv' := [(0, .ref 14), (1, .int a1)]) (st' := [.int 1, .ref 14]) (σ' := ((xup M 14 0 1), L)) rfl ⟨trivial, trivial, trivial, trivial, trivial⟩ ?_
    have hI3 : Inv INVM (xup M 14 0 1) := (hI.fld 14 0 1 (by decide))
    refine x_if_le C (show decode cX11_fence 25 = .ok (.ifCond .le 10, 3) from by decide +kernel) (tgt := 35) (by decide) (fun c4 => absurd c4 (by decide)) (fun c4 => ?_)
    refine x_run C e_X11_fence_4 e_X11_fence_4_k (pc' := 32) (lv' := [(0, .ref 14), (1, .int a1)]) (st' := [.int (M 14 8), .ref 14]) (σ' := ((xup M 14 0 1), L)) rfl ⟨trivial, trivial, trivial⟩ ?_
    refine x_goto C (show decode cX11_fence 32 = .ok (.goto 4, 3) from by decide +kernel) (tgt := 36) (by decide) ?_
    refine x_run C e_X11_fence_5 e_X11_fence_5_k (pc' := 39) (lv' := [(0, .ref 14), (1, .int a1)]) (st' := []) (σ' := ((xup (xup M 14 0 1) 14 8 (M 14 8)), L)) rfl ⟨trivial, trivial⟩ ?_
    have hI5 : Inv INVM (xup (xup M 14 0 1) 14 8 (M 14 8)) := (hI3.fld 14 8 (M 14 8) (by decide))
    subst h
    exact x_vret C (show decode cX11_fence 39 = .ok (.return_, 1) from by decide +kernel) (x_finV ⟨⟨rfl, rfl⟩, hI5⟩) (Nat.le_refl 0) (Nat.le_refl 0)
  · rw [if_neg c1] at h
    have g6 : xrg 0 2147483647 a1 := (x_c_nlt (x_rgt a1) (x_rgc (x := 0) (k := 0) (by decide)) c1).1
    refine x_run C e_X11_fence_6 e_X11_fence_6_k (pc' := 9) (lv' := [(0, .ref 14), (1, .int a1)]) (st' := [.int 2048, .int a1, .ref 14]) (σ' := (M, L)) rfl ⟨trivial, trivial, trivial⟩ ?_
    refine x_icmp_le C (show decode cX11_fence 9 = .ok (.if_icmp .le 7, 3) from by decide +kernel) (tgt := 16) (by decide) (fun c7 => ?_) (fun c7 => ?_)
    · rw [if_pos c7] at h
      have g8 : xrg 0 2048 a1 := (x_c_le g6 (x_rgc (x := 2048) (k := 2048) (by decide)) c7).1
      refine x_run C e_X11_fence_7 e_X11_fence_7_k (pc' := 25) (lv' := [(0, .ref 14), (1, .int a1)]) (st' := [.int 0, .ref 14]) (σ' := ((xup M 14 0 0), L)) rfl ⟨trivial, trivial, trivial, trivial, trivial, trivial⟩ ?_
      have hI9 : Inv INVM (xup M 14 0 0) := (hI.fld 14 0 0 (by decide))
      refine x_if_le C (show decode cX11_fence 25 = .ok (.ifCond .le 10, 3) from by decide +kernel) (tgt := 35) (by decide) (fun c10 => ?_) (fun c10 => absurd c10 (by decide))
      refine x_run C e_X11_fence_8 e_X11_fence_8_k (pc' := 39) (lv' := [(0, .ref 14), (1, .int a1)]) (st' := []) (σ' := ((xup (xup M 14 0 0) 14 8 a1), L)) rfl ⟨trivial, trivial, trivial⟩ ?_
      have hI11 : Inv INVM (xup (xup M 14 0 0) 14 8 a1) := (hI9.fld 14 8 a1 (by decide))
      subst h
      exact x_vret C (show decode cX11_fence 39 = .ok (.return_, 1) from by decide +kernel) (x_finV ⟨⟨rfl, rfl⟩, hI11⟩) (Nat.le_refl 0) (Nat.le_refl 0)
    · rw [if_neg c7] at h
      have g12 : xrg 2049 2147483647 a1 := (x_c_nle g6 (x_rgc (x := 2048) (k := 2048) (by decide)) c7).1
      refine x_run C e_X11_fence_2 e_X11_fence_2_k (pc' := 13) (lv' := [(0, .ref 14), (1, .int a1)]) (st' := [.int 1, .ref 14]) (σ' := (M, L)) rfl ⟨trivial, trivial⟩ ?_
      refine x_goto C (show decode cX11_fence 13 = .ok (.goto 4, 3) from by decide +kernel) (tgt := 17) (by decide) ?_
      refine x_run C e_X11_fence_3 e_X11_fence_3_k (pc' := 25) (lv' := [(0, .ref 14), (1, .int a1)]) (st' := [.int 1, .ref 14]) (σ' := ((xup M 14 0 1), L)) rfl ⟨trivial, trivial, trivial, trivial, trivial⟩ ?_
      have hI13 : Inv INVM (xup M 14 0 1) := (hI.fld 14 0 1 (by decide))
      refine x_if_le C (show decode cX11_fence 25 = .ok (.ifCond .le 10, 3) from by decide +kernel) (tgt := 35) (by decide) (fun c14 => absurd c14 (by decide)) (fun c14 => ?_)
      refine x_run C e_X11_fence_4 e_X11_fence_4_k (pc' := 32) (lv' := [(0, .ref 14), (1, .int a1)]) (st' := [.int (M 14 8), .ref 14]) (σ' := ((xup M 14 0 1), L)) rfl ⟨trivial, trivial, trivial⟩ ?_
      refine x_goto C (show decode cX11_fence 32 = .ok (.goto 4, 3) from by decide +kernel) (tgt := 36) (by decide) ?_
      refine x_run C e_X11_fence_5 e_X11_fence_5_k (pc' := 39) (lv' := [(0, .ref 14), (1, .int a1)]) (st' := []) (σ' := ((xup (xup M 14 0 1) 14 8 (M 14 8)), L)) rfl ⟨trivial, trivial⟩ ?_
      have hI15 : Inv INVM (xup (xup M 14 0 1) 14 8 (M 14 8)) := (hI13.fld 14 8 (M 14 8) (by decide))
      subst h
      exact x_vret C (show decode cX11_fence 39 = .ok (.return_, 1) from by decide +kernel) (x_finV ⟨⟨rfl, rfl⟩, hI15⟩) (Nat.le_refl 0) (Nat.le_refl 0)
-- X11_setStatus
def e_X11_setStatus_1 : List xI := [(0, .iload_n 1, 1, .null), (1, .ldc 46, 2, .null), (3, .iand, 1, .null), (4, .istore_n 2, 1, .null), (5, .iload_n 2, 1, .null), (6, .aload_n 0, 1, .null), (7, .getfield 13, 3, .null), (10, .ixor, 1, .null), (11, .sipush 8192, 3, .int 8192), (14, .iand, 1, .null)]
theorem e_X11_setStatus_1_k : e_X11_setStatus_1.all (fun q => xokB cX11_setStatus q && xokL q) = true := by decide +kernel
def e_X11_setStatus_2 : List xI := [(18, .aload_n 0, 1, .null), (19, .getfield 7, 3, .null), (22, .bipush 15, 2, .int 15), (24, .iaload, 1, .null), (25, .istore_n 3, 1, .null), (26, .aload_n 0, 1, .null), (27, .getfield 7, 3, .null), (30, .bipush 15, 2, .int 15), (32, .aload_n 0, 1, .null), (33, .getfield 7, 3, .null), (36, .bipush 16, 2, .int 16), (38, .iaload, 1, .null), (39, .iastore, 1, .null), (40, .aload_n 0, 1, .null), (41, .getfield 7, 3, .null), (44, .bipush 16, 2, .int 16), (46, .iload_n 3, 1, .null), (47, .iastore, 1, .null)]
theorem e_X11_setStatus_2_k : e_X11_setStatus_2.all (fun q => xokB cX11_setStatus q && xokL q) = true := by decide +kernel
def e_X11_setStatus_3 : List xI := [(48, .aload_n 0, 1, .null), (49, .iload_n 2, 1, .null), (50, .putfield 13, 3, .null)]
theorem e_X11_setStatus_3_k : e_X11_setStatus_3.all (fun q => xokB cX11_setStatus q && xokL q) = true := by decide +kernel
abbrev P_X11_setStatus (r : St) (L : Nat → Nat → Int64) : Option Value → xG → Prop := fun v σ' => PoV r L v σ' ∧ Inv INVM r
abbrev R_X11_setStatus : Room := { frames := 0, cells := 0, slots := 0, locals := 0 }
abbrev C_X11_setStatus (l : Launch) (r : St) (L : Nat → Nat → Int64) (V : XJ) : Prop := XC l yX11_setStatus.cls yX11_setStatus.name cX11_setStatus 4 R_X11_setStatus 0 0 fl_X11 kc_X11 LAY.length (xfin none LAY (P_X11_setStatus r L)) V
def f_X11_setStatus_48 (x2 : Int32) (M : St) : St := (xup M 14 2 x2)
def f_X11_setStatus (a1 : Int32) (M : St) : St := (if (((a1 &&& 42783) ^^^ (M 14 2)) &&& 8192) = 0 then f_X11_setStatus_48 (a1 &&& 42783) M else f_X11_setStatus_48 (a1 &&& 42783) (xup (xup M 15 15 (M 15 16)) 15 16 (M 15 15)))
set_option maxRecDepth 20000 in
set_option maxHeartbeats 4000000 in
theorem b_X11_setStatus_48 {l : Launch} {L : Nat → Nat → Int64} {V : XJ} (r : St) (C : C_X11_setStatus l r L V) (x2 : Int32) (M : St) (wx2 : xrg 0 42783 x2) (hI : Inv INVM M) (h : f_X11_setStatus_48 x2 M = r) : V 0 0 48 [(0, .ref 14), (2, .int x2)] [] LAY (M, L) := by
  unfold f_X11_setStatus_48 at h
  refine x_run C e_X11_setStatus_3 e_X11_setStatus_3_k (pc' := 53) (lv' := [(0, .ref 14), (2, .int x2)]) (st' := []) (σ' := ((xup M 14 2 x2), L)) rfl ⟨trivial, trivial, trivial, trivial⟩ ?_
  have hI5 : Inv INVM (xup M 14 2 x2) := (hI.fld 14 2 x2 (by decide))
  subst h
  exact x_vret C (show decode cX11_setStatus 53 = .ok (.return_, 1) from by decide +kernel) (x_finV ⟨⟨rfl, rfl⟩, hI5⟩) (Nat.le_refl 0) (Nat.le_refl 0)
set_option maxRecDepth 20000 in
set_option maxHeartbeats 4000000 in
theorem k_X11_setStatus (l : Launch) (a1 : Int32) (M : St) (L : Nat → Nat → Int64) (hI : Inv INVM M) : XM l yX11_setStatus cX11_setStatus 4 none R_X11_setStatus LAY [.ref 14, .int a1] (M, L) (P_X11_setStatus (f_X11_setStatus a1 M) L) := by
  refine XM.of (by decide) (Nat.le_of_ble_eq_true rfl) LAY_in cl_ok fl_X11_ok kc_X11_ok (fun V C => ?_)
  obtain ⟨r, h⟩ : ∃ r, f_X11_setStatus a1 M = r := ⟨_, rfl⟩
  rw [h] at C
  change C_X11_setStatus l r L V at C
  unfold f_X11_setStatus at h
  show V 0 0 0 [(0, .ref 14), (1, .int a1)] [] LAY (M, L)
  refine x_run C e_X11_setStatus_1 e_X11_setStatus_1_k (pc' := 15) (lv' := [(2, .int (a1 &&& 42783)), (0, .ref 14), (1, .int a1)]) (st' := [.int (((a1 &&& 42783) ^^^ (M 14 2)) &&& 8192)]) (σ' := (M, L)) rfl ⟨trivial, trivial, trivial, trivial, trivial, trivial, trivial, trivial, trivial, trivial, trivial⟩ ?_
  refine x_if_eq C (show decode cX11_setStatus 15 = .ok (.ifCond .eq 33, 3) from by decide +kernel) (tgt := 48) (by decide) (fun c1 => ?_) (fun c1 => ?_)
  · rw [if_pos c1] at h
    have g2 : xrg 0 0 (((a1 &&& 42783) ^^^ (M 14 2)) &&& 8192) := (x_c_eq (x_rg_and (x := ((a1 &&& 42783) ^^^ (M 14 2))) (m := 8192) (k := 8192) (by decide) (by decide)) (x_rgc (x := 0) (k := 0) (by decide)) c1).1
    refine x_lv C [1, 0] rfl ?_
    exact b_X11_setStatus_48 r C (a1 &&& 42783) M (x_rg_and (x := a1) (m := 42783) (k := 42783) (by decide) (by decide)) hI h
  · rw [if_neg c1] at h
    have g3 : xrg 1 8192 (((a1 &&& 42783) ^^^ (M 14 2)) &&& 8192) := (x_c_ne (x_rg_and (x := ((a1 &&& 42783) ^^^ (M 14 2))) (m := 8192) (k := 8192) (by decide) (by decide)) (by decide) c1)
    refine x_run C e_X11_setStatus_2 e_X11_setStatus_2_k (pc' := 48) (lv' := [(3, .int (M 15 15)), (2, .int (a1 &&& 42783)), (0, .ref 14), (1, .int a1)]) (st' := []) (σ' := ((xup (xup M 15 15 (M 15 16)) 15 16 (M 15 15)), L)) rfl ⟨trivial, trivial, trivial, (x_rgv (x_rgc (x := 15) (k := 15) (by decide)) (by decide) (by decide)), trivial, trivial, trivial, trivial, trivial, trivial, trivial, (x_rgv (x_rgc (x := 16) (k := 16) (by decide)) (by decide) (by decide)), (x_rgv (x_rgc (x := 15) (k := 15) (by decide)) (by decide) (by decide)), trivial, trivial, trivial, trivial, (x_rgv (x_rgc (x := 16) (k := 16) (by decide)) (by decide) (by decide)), trivial⟩ ?_
    have hI4 : Inv INVM (xup (xup M 15 15 (M 15 16)) 15 16 (M 15 15)) := ((hI.arr 15 15 (M 15 16) (by decide)).arr 15 16 (M 15 15) (by decide))
    refine x_lv C [2, 1] rfl ?_
    exact b_X11_setStatus_48 r C (a1 &&& 42783) (xup (xup M 15 15 (M 15 16)) 15 16 (M 15 15)) (x_rg_and (x := a1) (m := 42783) (k := 42783) (by decide) (by decide)) hI4 h
-- X11_longAt
def e_X11_longAt_1 : List xI := [(0, .aload_n 0, 1, .null), (1, .getfield 27, 3, .null), (4, .iload_n 1, 1, .null), (5, .iaload, 1, .null), (6, .bipush 24, 2, .int 24), (8, .ishl, 1, .null), (9, .aload_n 0, 1, .null), (10, .getfield 27, 3, .null), (13, .iload_n 1, 1, .null), (14, .iconst 1, 1, .int 1), (15, .iadd, 1, .null), (16, .iaload, 1, .null), (17, .bipush 16, 2, .int 16), (19, .ishl, 1, .null), (20, .ior, 1, .null), (21, .aload_n 0, 1, .null), (22, .getfield 27, 3, .null), (25, .iload_n 1, 1, .null), (26, .iconst 2, 1, .int 2), (27, .iadd, 1, .null), (28, .iaload, 1, .null), (29, .bipush 8, 2, .int 8), (31, .ishl, 1, .null), (32, .ior, 1, .null), (33, .aload_n 0, 1, .null), (34, .getfield 27, 3, .null), (37, .iload_n 1, 1, .null), (38, .iconst 3, 1, .int 3), (39, .iadd, 1, .null), (40, .iaload, 1, .null), (41, .ior, 1, .null)]
theorem e_X11_longAt_1_k : e_X11_longAt_1.all (fun q => xokB cX11_longAt q && xokL q) = true := by decide +kernel
abbrev P_X11_longAt (r : Int32) (M0 : St) (L : Nat → Nat → Int64) : Option Value → xG → Prop := fun v σ' => PoI r M0 L v σ' ∧ True ∧ Inv INVM M0
abbrev R_X11_longAt : Room := { frames := 0, cells := 0, slots := 0, locals := 0 }
abbrev C_X11_longAt (l : Launch) (r : Int32) (M0 : St) (L : Nat → Nat → Int64) (V : XJ) : Prop := XC l yX11_longAt.cls yX11_longAt.name cX11_longAt 2 R_X11_longAt 0 0 fl_X11 kc_X11 LAY.length (xfin (some .int) LAY (P_X11_longAt r M0 L)) V
def f_X11_longAt (a1 : Int32) (M : St) : Int32 := (((((M 18 a1.toNatClampNeg) <<< ((24 : Int32) &&& 31)) ||| ((M 18 (a1 + 1).toNatClampNeg) <<< ((16 : Int32) &&& 31))) ||| ((M 18 (a1 + 2).toNatClampNeg) <<< ((8 : Int32) &&& 31))) ||| (M 18 (a1 + 3).toNatClampNeg))
set_option maxRecDepth 20000 in
set_option maxHeartbeats 4000000 in
theorem k_X11_longAt (l : Launch) (a1 : Int32) (M : St) (L : Nat → Nat → Int64) (hp1 : xrg 0 4 a1) (hI : Inv INVM M) : XM l yX11_longAt cX11_longAt 2 (some .int) R_X11_longAt LAY [.ref 14, .int a1] (M, L) (P_X11_longAt (f_X11_longAt a1 M) M L) := by
  refine XM.of (by decide) (Nat.le_of_ble_eq_true rfl) LAY_in cl_ok fl_X11_ok kc_X11_ok (fun V C => ?_)
  obtain ⟨r, h⟩ : ∃ r, f_X11_longAt a1 M = r := ⟨_, rfl⟩
  rw [h] at C
  change C_X11_longAt l r M L V at C
  unfold f_X11_longAt at h
  show V 0 0 0 [(0, .ref 14), (1, .int a1)] [] LAY (M, L)
  refine x_run C e_X11_longAt_1 e_X11_longAt_1_k (pc' := 42) (lv' := [(0, .ref 14), (1, .int a1)]) (st' := [.int (((((M 18 a1.toNatClampNeg) <<< ((24 : Int32) &&& 31)) ||| ((M 18 (a1 + 1).toNatClampNeg) <<< ((16 : Int32) &&& 31))) ||| ((M 18 (a1 + 2).toNatClampNeg) <<< ((8 : Int32) &&& 31))) ||| (M 18 (a1 + 3).toNatClampNeg))]) (σ' := (M, L)) rfl ⟨trivial, trivial, trivial, (x_rgv hp1 (by decide) (by decide)), trivial, trivial, trivial, trivial, trivial, trivial, trivial, (x_rgv (x_rg_add hp1 (x_rgc (x := 1) (k := 1) (by decide)) (by decide) (by decide)) (by decide) (by decide)), trivial, trivial, trivial, trivial, trivial, trivial, trivial, trivial, (x_rgv (x_rg_add hp1 (x_rgc (x := 2) (k := 2) (by decide)) (by decide) (by decide)) (by decide) (by decide)), trivial, trivial, trivial, trivial, trivial, trivial, trivial, trivial, (x_rgv (x_rg_add hp1 (x_rgc (x := 3) (k := 3) (by decide)) (by decide) (by decide)) (by decide) (by decide)), trivial, trivial⟩ ?_
  subst h
  exact x_iret C (show decode cX11_longAt 42 = .ok (.ireturn, 1) from by decide +kernel) (x_finI rfl ⟨⟨rfl, rfl⟩, trivial, hI⟩) (Nat.le_refl 0) (Nat.le_refl 0)
-- X11_reset
def e_X11_reset_1 : List xI := [(0, .aload_n 0, 1, .null), (1, .iconst 0, 1, .int 0), (2, .putfield 42, 3, .null), (5, .aload_n 0, 1, .null), (6, .aload_n 0, 1, .null), (7, .getfield 13, 3, .null), (10, .sipush 8192, 3, .int 8192), (13, .ior, 1, .null)]
theorem e_X11_reset_1_k : e_X11_reset_1.all (fun q => xokB cX11_reset q && xokL q) = true := by decide +kernel
def e_X11_reset_2 : List xI := [(17, .aload_n 0, 1, .null), (18, .sipush 9984, 3, .int 9984)]
theorem e_X11_reset_2_k : e_X11_reset_2.all (fun q => xokB cX11_reset q && xokL q) = true := by decide +kernel
def e_X11_reset_3 : List xI := [(24, .aload_n 0, 1, .null), (25, .getfield 7, 3, .null), (28, .bipush 15, 2, .int 15), (30, .aload_n 0, 1, .null), (31, .iconst 0, 1, .int 0)]
theorem e_X11_reset_3_k : e_X11_reset_3.all (fun q => xokB cX11_reset q && xokL q) = true := by decide +kernel
def e_X11_reset_4 : List xI := [(35, .iastore, 1, .null), (36, .aload_n 0, 1, .null), (37, .getfield 7, 3, .null), (40, .bipush 17, 2, .int 17), (42, .aload_n 0, 1, .null), (43, .iconst 4, 1, .int 4)]
theorem e_X11_reset_4_k : e_X11_reset_4.all (fun q => xokB cX11_reset q && xokL q) = true := by decide +kernel
def e_X11_reset_5 : List xI := [(47, .iastore, 1, .null), (48, .aload_n 0, 1, .null), (49, .iconst 0, 1, .int 0), (50, .putfield 70, 3, .null), (53, .aload_n 0, 1, .null), (54, .iconst 0, 1, .int 0), (55, .putfield 73, 3, .null), (58, .aload_n 0, 1, .null), (59, .iconst 0, 1, .int 0), (60, .putfield 76, 3, .null), (63, .aload_n 0, 1, .null), (64, .iconst 0, 1, .int 0), (65, .putfield 23, 3, .null), (68, .aload_n 0, 1, .null), (69, .iconst 0, 1, .int 0), (70, .putfield 297, 3, .null), (73, .aload_n 0, 1, .null), (74, .iconst (-1), 1, .int (-1)), (75, .putfield 36, 3, .null), (78, .aload_n 0, 1, .null), (79, .iconst 0, 1, .int 0), (80, .putfield 276, 3, .null)]
theorem e_X11_reset_5_k : e_X11_reset_5.all (fun q => xokB cX11_reset q && xokL q) = true := by decide +kernel
abbrev P_X11_reset (r : St) (L : Nat → Nat → Int64) : Option Value → xG → Prop := fun v σ' => PoV r L v σ' ∧ Inv INVM r
abbrev R_X11_reset : Room := { frames := 1, cells := 0, slots := 0, locals := 23 }
abbrev C_X11_reset (l : Launch) (r : St) (L : Nat → Nat → Int64) (V : XJ) : Prop := XC l yX11_reset.cls yX11_reset.name cX11_reset 1 R_X11_reset 0 0 fl_X11 kc_X11 LAY.length (xfin none LAY (P_X11_reset r L)) V
def f_X11_reset (M : St) : St := (xb (f_X11_setStatus ((M 14 2) ||| 8192) (xup M 14 0 0)) fun q2 => (xb (f_X11_setStatus 9984 q2) fun q5 => (xup (xup (xup (xup (xup (xup (xup (xup (xup q5 15 15 (f_X11_longAt 0 q5)) 15 17 (f_X11_longAt 4 (xup q5 15 15 (f_X11_longAt 0 q5)))) 14 9 0) 14 10 0) 14 11 0) 14 5 0) 14 6 0) 14 17 (-1)) 14 19 0)))
set_option maxRecDepth 20000 in
set_option maxHeartbeats 4000000 in
theorem k_X11_reset (l : Launch) (M : St) (L : Nat → Nat → Int64) (hI : Inv INVM M) : XM l yX11_reset cX11_reset 1 none R_X11_reset LAY [.ref 14] (M, L) (P_X11_reset (f_X11_reset M) L) := by
  refine XM.of (by decide) (Nat.le_of_ble_eq_true rfl) LAY_in cl_ok fl_X11_ok kc_X11_ok (fun V C => ?_)
  obtain ⟨r, h⟩ : ∃ r, f_X11_reset M = r := ⟨_, rfl⟩
  rw [h] at C
  change C_X11_reset l r L V at C
  unfold f_X11_reset at h
  show V 0 0 0 [(0, .ref 14)] [] LAY (M, L)
  refine x_run C e_X11_reset_1 e_X11_reset_1_k (pc' := 14) (lv' := [(0, .ref 14)]) (st' := [.int ((M 14 2) ||| 8192), .ref 14]) (σ' := ((xup M 14 0 0), L)) rfl ⟨trivial, trivial, trivial, trivial, trivial, trivial, trivial, trivial, trivial⟩ ?_
  have hI1 : Inv INVM (xup M 14 0 0) := (hI.fld 14 0 0 (by decide))
  refine x_callV C (k := 14) (ci := 8) (rest := []) (avs := [.int ((M 14 2) ||| 8192)]) (k_X11_setStatus l ((M 14 2) ||| 8192) (xup M 14 0 0) L hI1) yoX11_setStatus ml_X11_202 rfl rfl rfl rfl ⟨Nat.zero_le _, Nat.zero_le _⟩ (show decode cX11_reset 14 = .ok (.invokevirtual 202, 3) from by decide +kernel) rfl (fun v σ' hPo => ?_)
  obtain ⟨⟨rfl, rfl⟩, hI4⟩ := hPo
  generalize hq2 : f_X11_setStatus ((M 14 2) ||| 8192) (xup M 14 0 0) = q2 at h hI4 ⊢
  have h := xb_eq h
  show V 0 0 17 [(0, .ref 14)] [] LAY (q2, L)
  refine x_run C e_X11_reset_2 e_X11_reset_2_k (pc' := 21) (lv' := [(0, .ref 14)]) (st' := [.int 9984, .ref 14]) (σ' := (q2, L)) rfl ⟨trivial, trivial, trivial⟩ ?_
  refine x_callV C (k := 14) (ci := 8) (rest := []) (avs := [.int 9984]) (k_X11_setStatus l 9984 q2 L hI4) yoX11_setStatus ml_X11_202 rfl rfl rfl rfl ⟨Nat.zero_le _, Nat.zero_le _⟩ (show decode cX11_reset 21 = .ok (.invokevirtual 202, 3) from by decide +kernel) rfl (fun v σ' hPo => ?_)
  obtain ⟨⟨rfl, rfl⟩, hI7⟩ := hPo
  generalize hq5 : f_X11_setStatus 9984 q2 = q5 at h hI7 ⊢
  have h := xb_eq h
  show V 0 0 24 [(0, .ref 14)] [] LAY (q5, L)
  refine x_run C e_X11_reset_3 e_X11_reset_3_k (pc' := 32) (lv' := [(0, .ref 14)]) (st' := [.int 0, .ref 14, .int 15, .ref 15]) (σ' := (q5, L)) rfl ⟨trivial, trivial, trivial, trivial, trivial, trivial⟩ ?_
  refine x_callV C (k := 14) (ci := 8) (rest := [.int 15, .ref 15]) (avs := [.int 0]) (k_X11_longAt l 0 q5 L (x_rgw (x_rgc (x := 0) (k := 0) (by decide)) (lo' := 0) (hi' := 4) (by decide) (by decide)) hI7) yoX11_longAt ml_X11_306 rfl rfl rfl rfl ⟨Nat.zero_le _, Nat.zero_le _⟩ (show decode cX11_reset 32 = .ok (.invokevirtual 306, 3) from by decide +kernel) rfl (fun v σ' hPo => ?_)
  obtain ⟨⟨rfl, rfl⟩, g9, hI10⟩ := hPo
  show V 0 0 35 [(0, .ref 14)] [.int (f_X11_longAt 0 q5), .int 15, .ref 15] LAY (q5, L)
  refine x_run C e_X11_reset_4 e_X11_reset_4_k (pc' := 44) (lv' := [(0, .ref 14)]) (st' := [.int 4, .ref 14, .int 17, .ref 15]) (σ' := ((xup q5 15 15 (f_X11_longAt 0 q5)), L)) rfl ⟨(x_rgv (x_rgc (x := 15) (k := 15) (by decide)) (by decide) (by decide)), trivial, trivial, trivial, trivial, trivial, trivial⟩ ?_
  have hI11 : Inv INVM (xup q5 15 15 (f_X11_longAt 0 q5)) := (hI7.arr 15 15 (f_X11_longAt 0 q5) (by decide))
  refine x_callV C (k := 14) (ci := 8) (rest := [.int 17, .ref 15]) (avs := [.int 4]) (k_X11_longAt l 4 (xup q5 15 15 (f_X11_longAt 0 q5)) L (x_rgw (x_rgc (x := 4) (k := 4) (by decide)) (lo' := 0) (hi' := 4) (by decide) (by decide)) hI11) yoX11_longAt ml_X11_306 rfl rfl rfl rfl ⟨Nat.zero_le _, Nat.zero_le _⟩ (show decode cX11_reset 44 = .ok (.invokevirtual 306, 3) from by decide +kernel) rfl (fun v σ' hPo => ?_)
  obtain ⟨⟨rfl, rfl⟩, g13, hI14⟩ := hPo
  show V 0 0 47 [(0, .ref 14)] [.int (f_X11_longAt 4 (xup q5 15 15 (f_X11_longAt 0 q5))), .int 17, .ref 15] LAY ((xup q5 15 15 (f_X11_longAt 0 q5)), L)
  refine x_run C e_X11_reset_5 e_X11_reset_5_k (pc' := 83) (lv' := [(0, .ref 14)]) (st' := []) (σ' := ((xup (xup (xup (xup (xup (xup (xup (xup (xup q5 15 15 (f_X11_longAt 0 q5)) 15 17 (f_X11_longAt 4 (xup q5 15 15 (f_X11_longAt 0 q5)))) 14 9 0) 14 10 0) 14 11 0) 14 5 0) 14 6 0) 14 17 (-1)) 14 19 0), L)) rfl ⟨(x_rgv (x_rgc (x := 17) (k := 17) (by decide)) (by decide) (by decide)), trivial, trivial, trivial, trivial, trivial, trivial, trivial, trivial, (x_rgb (x_rgw (x_rgc (x := 0) (k := 0) (by decide)) (lo' := 0) (hi' := 1) (by decide) (by decide))), trivial, trivial, (x_rgb (x_rgw (x_rgc (x := 0) (k := 0) (by decide)) (lo' := 0) (hi' := 1) (by decide) (by decide))), trivial, trivial, (x_rgb (x_rgw (x_rgc (x := 0) (k := 0) (by decide)) (lo' := 0) (hi' := 1) (by decide) (by decide))), trivial, trivial, trivial, trivial, trivial, trivial, trivial⟩ ?_
  have hI15 : Inv INVM (xup (xup (xup (xup (xup (xup (xup (xup (xup q5 15 15 (f_X11_longAt 0 q5)) 15 17 (f_X11_longAt 4 (xup q5 15 15 (f_X11_longAt 0 q5)))) 14 9 0) 14 10 0) 14 11 0) 14 5 0) 14 6 0) 14 17 (-1)) 14 19 0) := ((((((((hI11.arr 15 17 (f_X11_longAt 4 (xup q5 15 15 (f_X11_longAt 0 q5))) (by decide)).fld 14 9 0 (by decide)).set 14 10 (x_rgc (x := 0) (k := 0) (by decide)) (by decide)).fld 14 11 0 (by decide)).fld 14 5 0 (by decide)).fld 14 6 0 (by decide)).fld 14 17 (-1) (by decide)).fld 14 19 0 (by decide))
  subst h
  exact x_vret C (show decode cX11_reset 83 = .ok (.return_, 1) from by decide +kernel) (x_finV ⟨⟨rfl, rfl⟩, hI15⟩) (Nat.le_refl 0) (Nat.le_refl 0)
-- X11_keep__16
def e_X11_keep__16_1 : List xI := [(0, .iconst 0, 1, .int 0), (1, .istore_n 2, 1, .null)]
theorem e_X11_keep__16_1_k : e_X11_keep__16_1.all (fun q => xokB cX11_keep q && xokL q) = true := by decide +kernel
def e_X11_keep__16_2 : List xI := [(2, .iload_n 2, 1, .null), (3, .bipush 18, 2, .int 18)]
theorem e_X11_keep__16_2_k : e_X11_keep__16_2.all (fun q => xokB cX11_keep q && xokL q) = true := by decide +kernel
def e_X11_keep__16_3 : List xI := [(23, .aload_n 1, 1, .null), (24, .bipush 18, 2, .int 18), (26, .aload_n 0, 1, .null), (27, .getfield 13, 3, .null), (30, .iastore, 1, .null)]
theorem e_X11_keep__16_3_k : e_X11_keep__16_3.all (fun q => xokB cX11_keep q && xokL q) = true := by decide +kernel
def e_X11_keep__16_4 : List xI := [(8, .aload_n 1, 1, .null), (9, .iload_n 2, 1, .null), (10, .aload_n 0, 1, .null), (11, .getfield 7, 3, .null), (14, .iload_n 2, 1, .null), (15, .iaload, 1, .null), (16, .iastore, 1, .null), (17, .iinc 2 1, 3, .null)]
theorem e_X11_keep__16_4_k : e_X11_keep__16_4.all (fun q => xokB cX11_keep q && xokL q) = true := by decide +kernel
abbrev P_X11_keep__16 (r : St) (L : Nat → Nat → Int64) : Option Value → xG → Prop := fun v σ' => PoV r L v σ' ∧ Inv INVM r
abbrev R_X11_keep__16 : Room := { frames := 0, cells := 0, slots := 0, locals := 0 }
abbrev C_X11_keep__16 (l : Launch) (r : St) (L : Nat → Nat → Int64) (V : XJ) : Prop := XC l yX11_keep.cls yX11_keep.name cX11_keep 3 R_X11_keep__16 0 0 fl_X11 kc_X11 LAY.length (xfin none LAY (P_X11_keep__16 r L)) V
def f_X11_keep__16_2 : Nat → Int32 → St → St
  | 0, x2, M => M
  | n + 1, x2, M => (if 18 ≤ x2 then (xup M 16 18 (M 14 2)) else f_X11_keep__16_2 n (x2 + 1) (xup M 16 x2.toNatClampNeg (M 15 x2.toNatClampNeg)))
def f_X11_keep__16 (M : St) : St := f_X11_keep__16_2 ((((18 : Int32)).toInt - (0 : Int32).toInt).toNat + 1) 0 M
set_option maxRecDepth 20000 in
set_option maxHeartbeats 4000000 in
theorem b_X11_keep__16_2 {l : Launch} {L : Nat → Nat → Int64} {V : XJ} (r : St) (C : C_X11_keep__16 l r L V) : ∀ (n : Nat) (x2 : Int32) (M : St), xrg 0 18 x2 → Inv INVM M → (((18 : Int32)).toInt - x2.toInt).toNat < n → f_X11_keep__16_2 n x2 M = r → V 0 0 2 [(0, .ref 14), (1, .ref 16), (2, .int x2)] [] LAY (M, L) := by
  intro n
  induction n with
  | zero => intro x2 M  wx2 hI hm; exact absurd hm (Nat.not_lt_zero _)
  | succ n ih =>
    intro x2 M  wx2 hI hm h
    unfold f_X11_keep__16_2 at h
    refine x_run C e_X11_keep__16_2 e_X11_keep__16_2_k (pc' := 5) (lv' := [(0, .ref 14), (1, .ref 16), (2, .int x2)]) (st' := [.int 18, .int x2]) (σ' := (M, L)) rfl ⟨trivial, trivial, trivial⟩ ?_
    refine x_icmp_ge C (show decode cX11_keep 5 = .ok (.if_icmp .ge 18, 3) from by decide +kernel) (tgt := 23) (by decide) (fun c1 => ?_) (fun c1 => ?_)
    · rw [if_pos c1] at h
      have g2 : xrg 18 18 x2 := (x_c_le (x_rgc (x := 18) (k := 18) (by decide)) wx2 c1).2
      refine x_run C e_X11_keep__16_3 e_X11_keep__16_3_k (pc' := 31) (lv' := [(0, .ref 14), (1, .ref 16), (2, .int x2)]) (st' := []) (σ' := ((xup M 16 18 (M 14 2)), L)) rfl ⟨trivial, trivial, trivial, trivial, (x_rgv (x_rgc (x := 18) (k := 18) (by decide)) (by decide) (by decide)), trivial⟩ ?_
      have hI3 : Inv INVM (xup M 16 18 (M 14 2)) := (hI.arr 16 18 (M 14 2) (by decide))
      subst h
      exact x_vret C (show decode cX11_keep 31 = .ok (.return_, 1) from by decide +kernel) (x_finV ⟨⟨rfl, rfl⟩, hI3⟩) (Nat.le_refl 0) (Nat.le_refl 0)
    · rw [if_neg c1] at h
      have g4 : xrg 0 17 x2 := (x_c_nle (x_rgc (x := 18) (k := 18) (by decide)) wx2 c1).2
      have hk5 := x_meas (x_nle c1) hm
      refine x_run C e_X11_keep__16_4 e_X11_keep__16_4_k (pc' := 20) (lv' := [(2, .int (x2 + 1)), (0, .ref 14), (1, .ref 16)]) (st' := []) (σ' := ((xup M 16 x2.toNatClampNeg (M 15 x2.toNatClampNeg)), L)) rfl ⟨trivial, trivial, trivial, trivial, trivial, (x_rgv g4 (by decide) (by decide)), (x_rgv g4 (by decide) (by decide)), trivial, trivial⟩ ?_
      have hI6 : Inv INVM (xup M 16 x2.toNatClampNeg (M 15 x2.toNatClampNeg)) := (hI.arr 16 (x2.toNatClampNeg) (M 15 x2.toNatClampNeg) (by decide))
      refine x_goto C (show decode cX11_keep 20 = .ok (.goto (-18), 3) from by decide +kernel) (tgt := 2) (by decide) ?_
      refine x_lv C [1, 2, 0] rfl ?_
      exact ih (x2 + 1) (xup M 16 x2.toNatClampNeg (M 15 x2.toNatClampNeg)) (x_rgw (x_rg_add g4 (x_rgc (x := 1) (k := 1) (by decide)) (by decide) (by decide)) (lo' := 0) (hi' := 18) (by decide) (by decide)) hI6 (hk5) h
set_option maxRecDepth 20000 in
set_option maxHeartbeats 4000000 in
theorem k_X11_keep__16 (l : Launch) (M : St) (L : Nat → Nat → Int64) (hI : Inv INVM M) : XM l yX11_keep cX11_keep 3 none R_X11_keep__16 LAY [.ref 14, .ref 16] (M, L) (P_X11_keep__16 (f_X11_keep__16 M) L) := by
  refine XM.of (by decide) (Nat.le_of_ble_eq_true rfl) LAY_in cl_ok fl_X11_ok kc_X11_ok (fun V C => ?_)
  obtain ⟨r, h⟩ : ∃ r, f_X11_keep__16 M = r := ⟨_, rfl⟩
  rw [h] at C
  change C_X11_keep__16 l r L V at C
  unfold f_X11_keep__16 at h
  show V 0 0 0 [(0, .ref 14), (1, .ref 16)] [] LAY (M, L)
  refine x_run C e_X11_keep__16_1 e_X11_keep__16_1_k (pc' := 2) (lv' := [(2, .int 0), (0, .ref 14), (1, .ref 16)]) (st' := []) (σ' := (M, L)) rfl ⟨trivial, trivial, trivial⟩ ?_
  refine x_lv C [1, 2, 0] rfl ?_
  exact b_X11_keep__16_2 r C ((((18 : Int32)).toInt - (0 : Int32).toInt).toNat + 1) 0 M (x_rgw (x_rgc (x := 0) (k := 0) (by decide)) (lo' := 0) (hi' := 18) (by decide) (by decide)) hI (Nat.lt_succ_self _) h
-- X11_keep__17
def e_X11_keep__17_1 : List xI := [(0, .iconst 0, 1, .int 0), (1, .istore_n 2, 1, .null)]
theorem e_X11_keep__17_1_k : e_X11_keep__17_1.all (fun q => xokB cX11_keep q && xokL q) = true := by decide +kernel
def e_X11_keep__17_2 : List xI := [(2, .iload_n 2, 1, .null), (3, .bipush 18, 2, .int 18)]
theorem e_X11_keep__17_2_k : e_X11_keep__17_2.all (fun q => xokB cX11_keep q && xokL q) = true := by decide +kernel
def e_X11_keep__17_3 : List xI := [(23, .aload_n 1, 1, .null), (24, .bipush 18, 2, .int 18), (26, .aload_n 0, 1, .null), (27, .getfield 13, 3, .null), (30, .iastore, 1, .null)]
theorem e_X11_keep__17_3_k : e_X11_keep__17_3.all (fun q => xokB cX11_keep q && xokL q) = true := by decide +kernel
def e_X11_keep__17_4 : List xI := [(8, .aload_n 1, 1, .null), (9, .iload_n 2, 1, .null), (10, .aload_n 0, 1, .null), (11, .getfield 7, 3, .null), (14, .iload_n 2, 1, .null), (15, .iaload, 1, .null), (16, .iastore, 1, .null), (17, .iinc 2 1, 3, .null)]
theorem e_X11_keep__17_4_k : e_X11_keep__17_4.all (fun q => xokB cX11_keep q && xokL q) = true := by decide +kernel
abbrev P_X11_keep__17 (r : St) (L : Nat → Nat → Int64) : Option Value → xG → Prop := fun v σ' => PoV r L v σ' ∧ Inv INVM r
abbrev R_X11_keep__17 : Room := { frames := 0, cells := 0, slots := 0, locals := 0 }
abbrev C_X11_keep__17 (l : Launch) (r : St) (L : Nat → Nat → Int64) (V : XJ) : Prop := XC l yX11_keep.cls yX11_keep.name cX11_keep 3 R_X11_keep__17 0 0 fl_X11 kc_X11 LAY.length (xfin none LAY (P_X11_keep__17 r L)) V
def f_X11_keep__17_2 : Nat → Int32 → St → St
  | 0, x2, M => M
  | n + 1, x2, M => (if 18 ≤ x2 then (xup M 17 18 (M 14 2)) else f_X11_keep__17_2 n (x2 + 1) (xup M 17 x2.toNatClampNeg (M 15 x2.toNatClampNeg)))
def f_X11_keep__17 (M : St) : St := f_X11_keep__17_2 ((((18 : Int32)).toInt - (0 : Int32).toInt).toNat + 1) 0 M
set_option maxRecDepth 20000 in
set_option maxHeartbeats 4000000 in
theorem b_X11_keep__17_2 {l : Launch} {L : Nat → Nat → Int64} {V : XJ} (r : St) (C : C_X11_keep__17 l r L V) : ∀ (n : Nat) (x2 : Int32) (M : St), xrg 0 18 x2 → Inv INVM M → (((18 : Int32)).toInt - x2.toInt).toNat < n → f_X11_keep__17_2 n x2 M = r → V 0 0 2 [(0, .ref 14), (1, .ref 17), (2, .int x2)] [] LAY (M, L) := by
  intro n
  induction n with
  | zero => intro x2 M  wx2 hI hm; exact absurd hm (Nat.not_lt_zero _)
  | succ n ih =>
    intro x2 M  wx2 hI hm h
    unfold f_X11_keep__17_2 at h
    refine x_run C e_X11_keep__17_2 e_X11_keep__17_2_k (pc' := 5) (lv' := [(0, .ref 14), (1, .ref 17), (2, .int x2)]) (st' := [.int 18, .int x2]) (σ' := (M, L)) rfl ⟨trivial, trivial, trivial⟩ ?_
    refine x_icmp_ge C (show decode cX11_keep 5 = .ok (.if_icmp .ge 18, 3) from by decide +kernel) (tgt := 23) (by decide) (fun c1 => ?_) (fun c1 => ?_)
    · rw [if_pos c1] at h
      have g2 : xrg 18 18 x2 := (x_c_le (x_rgc (x := 18) (k := 18) (by decide)) wx2 c1).2
      refine x_run C e_X11_keep__17_3 e_X11_keep__17_3_k (pc' := 31) (lv' := [(0, .ref 14), (1, .ref 17), (2, .int x2)]) (st' := []) (σ' := ((xup M 17 18 (M 14 2)), L)) rfl ⟨trivial, trivial, trivial, trivial, (x_rgv (x_rgc (x := 18) (k := 18) (by decide)) (by decide) (by decide)), trivial⟩ ?_
      have hI3 : Inv INVM (xup M 17 18 (M 14 2)) := (hI.arr 17 18 (M 14 2) (by decide))
      subst h
      exact x_vret C (show decode cX11_keep 31 = .ok (.return_, 1) from by decide +kernel) (x_finV ⟨⟨rfl, rfl⟩, hI3⟩) (Nat.le_refl 0) (Nat.le_refl 0)
    · rw [if_neg c1] at h
      have g4 : xrg 0 17 x2 := (x_c_nle (x_rgc (x := 18) (k := 18) (by decide)) wx2 c1).2
      have hk5 := x_meas (x_nle c1) hm
      refine x_run C e_X11_keep__17_4 e_X11_keep__17_4_k (pc' := 20) (lv' := [(2, .int (x2 + 1)), (0, .ref 14), (1, .ref 17)]) (st' := []) (σ' := ((xup M 17 x2.toNatClampNeg (M 15 x2.toNatClampNeg)), L)) rfl ⟨trivial, trivial, trivial, trivial, trivial, (x_rgv g4 (by decide) (by decide)), (x_rgv g4 (by decide) (by decide)), trivial, trivial⟩ ?_
      have hI6 : Inv INVM (xup M 17 x2.toNatClampNeg (M 15 x2.toNatClampNeg)) := (hI.arr 17 (x2.toNatClampNeg) (M 15 x2.toNatClampNeg) (by decide))
      refine x_goto C (show decode cX11_keep 20 = .ok (.goto (-18), 3) from by decide +kernel) (tgt := 2) (by decide) ?_
      refine x_lv C [1, 2, 0] rfl ?_
      exact ih (x2 + 1) (xup M 17 x2.toNatClampNeg (M 15 x2.toNatClampNeg)) (x_rgw (x_rg_add g4 (x_rgc (x := 1) (k := 1) (by decide)) (by decide) (by decide)) (lo' := 0) (hi' := 18) (by decide) (by decide)) hI6 (hk5) h
set_option maxRecDepth 20000 in
set_option maxHeartbeats 4000000 in
theorem k_X11_keep__17 (l : Launch) (M : St) (L : Nat → Nat → Int64) (hI : Inv INVM M) : XM l yX11_keep cX11_keep 3 none R_X11_keep__17 LAY [.ref 14, .ref 17] (M, L) (P_X11_keep__17 (f_X11_keep__17 M) L) := by
  refine XM.of (by decide) (Nat.le_of_ble_eq_true rfl) LAY_in cl_ok fl_X11_ok kc_X11_ok (fun V C => ?_)
  obtain ⟨r, h⟩ : ∃ r, f_X11_keep__17 M = r := ⟨_, rfl⟩
  rw [h] at C
  change C_X11_keep__17 l r L V at C
  unfold f_X11_keep__17 at h
  show V 0 0 0 [(0, .ref 14), (1, .ref 17)] [] LAY (M, L)
  refine x_run C e_X11_keep__17_1 e_X11_keep__17_1_k (pc' := 2) (lv' := [(2, .int 0), (0, .ref 14), (1, .ref 17)]) (st' := []) (σ' := (M, L)) rfl ⟨trivial, trivial, trivial⟩ ?_
  refine x_lv C [1, 2, 0] rfl ?_
  exact b_X11_keep__17_2 r C ((((18 : Int32)).toInt - (0 : Int32).toInt).toNat + 1) 0 M (x_rgw (x_rgc (x := 0) (k := 0) (by decide)) (lo' := 0) (hi' := 18) (by decide) (by decide)) hI (Nat.lt_succ_self _) h
-- X11_has
def e_X11_has_1 : List xI := [(0, .aload_n 0, 1, .null), (1, .getfield 13, 3, .null), (4, .iload_n 1, 1, .null), (5, .iand, 1, .null)]
theorem e_X11_has_1_k : e_X11_has_1.all (fun q => xokB cX11_has q && xokL q) = true := by decide +kernel
def e_X11_has_2 : List xI := [(13, .iconst 0, 1, .int 0)]
theorem e_X11_has_2_k : e_X11_has_2.all (fun q => xokB cX11_has q && xokL q) = true := by decide +kernel
def e_X11_has_3 : List xI := [(9, .iconst 1, 1, .int 1)]
theorem e_X11_has_3_k : e_X11_has_3.all (fun q => xokB cX11_has q && xokL q) = true := by decide +kernel
abbrev P_X11_has (r : Int32) (M0 : St) (L : Nat → Nat → Int64) : Option Value → xG → Prop := fun v σ' => PoI r M0 L v σ' ∧ xrg 0 1 r ∧ Inv INVM M0
abbrev R_X11_has : Room := { frames := 0, cells := 0, slots := 0, locals := 0 }
abbrev C_X11_has (l : Launch) (r : Int32) (M0 : St) (L : Nat → Nat → Int64) (V : XJ) : Prop := XC l yX11_has.cls yX11_has.name cX11_has 2 R_X11_has 0 0 fl_X11 kc_X11 LAY.length (xfin (some .boolean) LAY (P_X11_has r M0 L)) V
def f_X11_has (a1 : Int32) (M : St) : Int32 := (if ((M 14 2) &&& a1) = 0 then 0 else 1)
set_option maxRecDepth 20000 in
set_option maxHeartbeats 4000000 in
theorem k_X11_has (l : Launch) (a1 : Int32) (M : St) (L : Nat → Nat → Int64) (hI : Inv INVM M) : XM l yX11_has cX11_has 2 (some .boolean) R_X11_has LAY [.ref 14, .int a1] (M, L) (P_X11_has (f_X11_has a1 M) M L) := by
  refine XM.of (by decide) (Nat.le_of_ble_eq_true rfl) LAY_in cl_ok fl_X11_ok kc_X11_ok (fun V C => ?_)
  obtain ⟨r, h⟩ : ∃ r, f_X11_has a1 M = r := ⟨_, rfl⟩
  rw [h] at C
  change C_X11_has l r M L V at C
  unfold f_X11_has at h
  show V 0 0 0 [(0, .ref 14), (1, .int a1)] [] LAY (M, L)
  refine x_run C e_X11_has_1 e_X11_has_1_k (pc' := 6) (lv' := [(0, .ref 14), (1, .int a1)]) (st' := [.int ((M 14 2) &&& a1)]) (σ' := (M, L)) rfl ⟨trivial, trivial, trivial, trivial, trivial⟩ ?_
  refine x_if_eq C (show decode cX11_has 6 = .ok (.ifCond .eq 7, 3) from by decide +kernel) (tgt := 13) (by decide) (fun c1 => ?_) (fun c1 => ?_)
  · rw [if_pos c1] at h
    have g2 : xrg 0 0 ((M 14 2) &&& a1) := (x_c_eq (x_rgt ((M 14 2) &&& a1)) (x_rgc (x := 0) (k := 0) (by decide)) c1).1
    refine x_run C e_X11_has_2 e_X11_has_2_k (pc' := 14) (lv' := [(0, .ref 14), (1, .int a1)]) (st' := [.int 0]) (σ' := (M, L)) rfl ⟨trivial, trivial⟩ ?_
    subst h
    exact x_iret C (show decode cX11_has 14 = .ok (.ireturn, 1) from by decide +kernel) (x_finI (x_nb (x_rgw (x_rgc (x := 0) (k := 0) (by decide)) (lo' := 0) (hi' := 1) (by decide) (by decide))) ⟨⟨rfl, rfl⟩, (x_rgw (x_rgc (x := 0) (k := 0) (by decide)) (lo' := 0) (hi' := 1) (by decide) (by decide)), hI⟩) (Nat.le_refl 0) (Nat.le_refl 0)
  · rw [if_neg c1] at h
    refine x_run C e_X11_has_3 e_X11_has_3_k (pc' := 10) (lv' := [(0, .ref 14), (1, .int a1)]) (st' := [.int 1]) (σ' := (M, L)) rfl ⟨trivial, trivial⟩ ?_
    refine x_goto C (show decode cX11_has 10 = .ok (.goto 4, 3) from by decide +kernel) (tgt := 14) (by decide) ?_
    subst h
    exact x_iret C (show decode cX11_has 14 = .ok (.ireturn, 1) from by decide +kernel) (x_finI (x_nb (x_rgw (x_rgc (x := 1) (k := 1) (by decide)) (lo' := 0) (hi' := 1) (by decide) (by decide))) ⟨⟨rfl, rfl⟩, (x_rgw (x_rgc (x := 1) (k := 1) (by decide)) (lo' := 0) (hi' := 1) (by decide) (by decide)), hI⟩) (Nat.le_refl 0) (Nat.le_refl 0)
-- X11_isDevice
def e_X11_isDevice_1 : List xI := [(0, .iload_n 0, 1, .null), (1, .sipush 4096, 3, .int 4096)]
theorem e_X11_isDevice_1_k : e_X11_isDevice_1.all (fun q => xokB cX11_isDevice q && xokL q) = true := by decide +kernel
def e_X11_isDevice_2 : List xI := [(18, .iconst 0, 1, .int 0)]
theorem e_X11_isDevice_2_k : e_X11_isDevice_2.all (fun q => xokB cX11_isDevice q && xokL q) = true := by decide +kernel
def e_X11_isDevice_3 : List xI := [(7, .iload_n 0, 1, .null), (8, .sipush 4103, 3, .int 4103)]
theorem e_X11_isDevice_3_k : e_X11_isDevice_3.all (fun q => xokB cX11_isDevice q && xokL q) = true := by decide +kernel
def e_X11_isDevice_4 : List xI := [(14, .iconst 1, 1, .int 1)]
theorem e_X11_isDevice_4_k : e_X11_isDevice_4.all (fun q => xokB cX11_isDevice q && xokL q) = true := by decide +kernel
abbrev P_X11_isDevice (r : Int32) (M0 : St) (L : Nat → Nat → Int64) : Option Value → xG → Prop := fun v σ' => PoI r M0 L v σ' ∧ xrg 0 1 r ∧ True
abbrev R_X11_isDevice : Room := { frames := 0, cells := 0, slots := 0, locals := 0 }
abbrev C_X11_isDevice (l : Launch) (r : Int32) (M0 : St) (L : Nat → Nat → Int64) (V : XJ) : Prop := XC l yX11_isDevice.cls yX11_isDevice.name cX11_isDevice 1 R_X11_isDevice 0 0 fl_X11 kc_X11 LAY.length (xfin (some .boolean) LAY (P_X11_isDevice r M0 L)) V
def f_X11_isDevice (a1 : Int32) : Int32 := (if a1 < 4096 then 0 else (if 4103 < a1 then 0 else 1))
set_option maxRecDepth 20000 in
set_option maxHeartbeats 4000000 in
theorem k_X11_isDevice (l : Launch) (a1 : Int32) (M : St) (L : Nat → Nat → Int64) : XM l yX11_isDevice cX11_isDevice 1 (some .boolean) R_X11_isDevice LAY [.int a1] (M, L) (P_X11_isDevice (f_X11_isDevice a1) M L) := by
  refine XM.of (by decide) (Nat.le_of_ble_eq_true rfl) LAY_in cl_ok fl_X11_ok kc_X11_ok (fun V C => ?_)
  obtain ⟨r, h⟩ : ∃ r, f_X11_isDevice a1 = r := ⟨_, rfl⟩
  rw [h] at C
  change C_X11_isDevice l r M L V at C
  unfold f_X11_isDevice at h
  show V 0 0 0 [(0, .int a1)] [] LAY (M, L)
  refine x_run C e_X11_isDevice_1 e_X11_isDevice_1_k (pc' := 4) (lv' := [(0, .int a1)]) (st' := [.int 4096, .int a1]) (σ' := (M, L)) rfl ⟨trivial, trivial, trivial⟩ ?_
  refine x_icmp_lt C (show decode cX11_isDevice 4 = .ok (.if_icmp .lt 14, 3) from by decide +kernel) (tgt := 18) (by decide) (fun c1 => ?_) (fun c1 => ?_)
  · rw [if_pos c1] at h
    have g2 : xrg (-2147483648) 4095 a1 := (x_c_lt (x_rgt a1) (x_rgc (x := 4096) (k := 4096) (by decide)) c1).1
    refine x_run C e_X11_isDevice_2 e_X11_isDevice_2_k (pc' := 19) (lv' := [(0, .int a1)]) (st' := [.int 0]) (σ' := (M, L)) rfl ⟨trivial, trivial⟩ ?_
    subst h
    exact x_iret C (show decode cX11_isDevice 19 = .ok (.ireturn, 1) from by decide +kernel) (x_finI (x_nb (x_rgw (x_rgc (x := 0) (k := 0) (by decide)) (lo' := 0) (hi' := 1) (by decide) (by decide))) ⟨⟨rfl, rfl⟩, (x_rgw (x_rgc (x := 0) (k := 0) (by decide)) (lo' := 0) (hi' := 1) (by decide) (by decide)), trivial⟩) (Nat.le_refl 0) (Nat.le_refl 0)
  · rw [if_neg c1] at h
    have g3 : xrg 4096 2147483647 a1 := (x_c_nlt (x_rgt a1) (x_rgc (x := 4096) (k := 4096) (by decide)) c1).1
    refine x_run C e_X11_isDevice_3 e_X11_isDevice_3_k (pc' := 11) (lv' := [(0, .int a1)]) (st' := [.int 4103, .int a1]) (σ' := (M, L)) rfl ⟨trivial, trivial, trivial⟩ ?_
    refine x_icmp_gt C (show decode cX11_isDevice 11 = .ok (.if_icmp .gt 7, 3) from by decide +kernel) (tgt := 18) (by decide) (fun c4 => ?_) (fun c4 => ?_)
    · rw [if_pos c4] at h
      have g5 : xrg 4104 2147483647 a1 := (x_c_lt (x_rgc (x := 4103) (k := 4103) (by decide)) g3 c4).2
      refine x_run C e_X11_isDevice_2 e_X11_isDevice_2_k (pc' := 19) (lv' := [(0, .int a1)]) (st' := [.int 0]) (σ' := (M, L)) rfl ⟨trivial, trivial⟩ ?_
      subst h
      exact x_iret C (show decode cX11_isDevice 19 = .ok (.ireturn, 1) from by decide +kernel) (x_finI (x_nb (x_rgw (x_rgc (x := 0) (k := 0) (by decide)) (lo' := 0) (hi' := 1) (by decide) (by decide))) ⟨⟨rfl, rfl⟩, (x_rgw (x_rgc (x := 0) (k := 0) (by decide)) (lo' := 0) (hi' := 1) (by decide) (by decide)), trivial⟩) (Nat.le_refl 0) (Nat.le_refl 0)
    · rw [if_neg c4] at h
      have g6 : xrg 4096 4103 a1 := (x_c_nlt (x_rgc (x := 4103) (k := 4103) (by decide)) g3 c4).2
      refine x_run C e_X11_isDevice_4 e_X11_isDevice_4_k (pc' := 15) (lv' := [(0, .int a1)]) (st' := [.int 1]) (σ' := (M, L)) rfl ⟨trivial, trivial⟩ ?_
      refine x_goto C (show decode cX11_isDevice 15 = .ok (.goto 4, 3) from by decide +kernel) (tgt := 19) (by decide) ?_
      subst h
      exact x_iret C (show decode cX11_isDevice 19 = .ok (.ireturn, 1) from by decide +kernel) (x_finI (x_nb (x_rgw (x_rgc (x := 1) (k := 1) (by decide)) (lo' := 0) (hi' := 1) (by decide) (by decide))) ⟨⟨rfl, rfl⟩, (x_rgw (x_rgc (x := 1) (k := 1) (by decide)) (lo' := 0) (hi' := 1) (by decide) (by decide)), trivial⟩) (Nat.le_refl 0) (Nat.le_refl 0)
-- X11_fails
def e_X11_fails_1 : List xI := [(0, .aload_n 0, 1, .null), (1, .getfield 47, 3, .null)]
theorem e_X11_fails_1_k : e_X11_fails_1.all (fun q => xokB cX11_fails q && xokL q) = true := by decide +kernel
def e_X11_fails_2 : List xI := [(9, .iload_n 2, 1, .null)]
theorem e_X11_fails_2_k : e_X11_fails_2.all (fun q => xokB cX11_fails q && xokL q) = true := by decide +kernel
def e_X11_fails_3 : List xI := [(13, .iload_n 1, 1, .null), (14, .iconst 1, 1, .int 1), (15, .iand, 1, .null), (16, .iconst 1, 1, .int 1)]
theorem e_X11_fails_3_k : e_X11_fails_3.all (fun q => xokB cX11_fails q && xokL q) = true := by decide +kernel
def e_X11_fails_4 : List xI := [(20, .iconst 1, 1, .int 1)]
theorem e_X11_fails_4_k : e_X11_fails_4.all (fun q => xokB cX11_fails q && xokL q) = true := by decide +kernel
def e_X11_fails_5 : List xI := [(7, .iconst 1, 1, .int 1)]
theorem e_X11_fails_5_k : e_X11_fails_5.all (fun q => xokB cX11_fails q && xokL q) = true := by decide +kernel
def e_X11_fails_6 : List xI := [(24, .iconst 0, 1, .int 0)]
theorem e_X11_fails_6_k : e_X11_fails_6.all (fun q => xokB cX11_fails q && xokL q) = true := by decide +kernel
def e_X11_fails_7 : List xI := [(25, .istore 5, 2, .null), (27, .iconst 0, 1, .int 0), (28, .istore 6, 2, .null), (30, .iconst 0, 1, .int 0), (31, .istore 7, 2, .null)]
theorem e_X11_fails_7_k : e_X11_fails_7.all (fun q => xokB cX11_fails q && xokL q) = true := by decide +kernel
def e_X11_fails_8 : List xI := [(33, .iload 7, 2, .null), (35, .iconst 1, 1, .int 1), (36, .iload_n 2, 1, .null), (37, .ishl, 1, .null)]
theorem e_X11_fails_8_k : e_X11_fails_8.all (fun q => xokB cX11_fails q && xokL q) = true := by decide +kernel
def e_X11_fails_9 : List xI := [(115, .aload_n 0, 1, .null), (116, .iload 5, 2, .null)]
theorem e_X11_fails_9_k : e_X11_fails_9.all (fun q => xokB cX11_fails q && xokL q) = true := by decide +kernel
def e_X11_fails_10 : List xI := [(125, .iload 6, 2, .null)]
theorem e_X11_fails_10_k : e_X11_fails_10.all (fun q => xokB cX11_fails q && xokL q) = true := by decide +kernel
def e_X11_fails_11 : List xI := [(134, .iconst 0, 1, .int 0)]
theorem e_X11_fails_11_k : e_X11_fails_11.all (fun q => xokB cX11_fails q && xokL q) = true := by decide +kernel
def e_X11_fails_12 : List xI := [(130, .iconst 2, 1, .int 2)]
theorem e_X11_fails_12_k : e_X11_fails_12.all (fun q => xokB cX11_fails q && xokL q) = true := by decide +kernel
def e_X11_fails_13 : List xI := [(121, .iconst 3, 1, .int 3)]
theorem e_X11_fails_13_k : e_X11_fails_13.all (fun q => xokB cX11_fails q && xokL q) = true := by decide +kernel
def e_X11_fails_14 : List xI := [(41, .iload_n 1, 1, .null), (42, .iload 7, 2, .null), (44, .iadd, 1, .null), (45, .ldc 50, 2, .null), (47, .iand, 1, .null), (48, .istore 8, 2, .null), (50, .iload 6, 2, .null)]
theorem e_X11_fails_14_k : e_X11_fails_14.all (fun q => xokB cX11_fails q && xokL q) = true := by decide +kernel
def e_X11_fails_15 : List xI := [(55, .iload 8, 2, .null), (57, .sipush 2047, 3, .int 2047)]
theorem e_X11_fails_15_k : e_X11_fails_15.all (fun q => xokB cX11_fails q && xokL q) = true := by decide +kernel
def e_X11_fails_16 : List xI := [(63, .iload 8, 2, .null)]
theorem e_X11_fails_16_k : e_X11_fails_16.all (fun q => xokB cX11_fails q && xokL q) = true := by decide +kernel
def e_X11_fails_17 : List xI := [(135, .putfield 47, 3, .null), (138, .aload_n 0, 1, .null), (139, .iload_n 1, 1, .null), (140, .ldc 50, 2, .null), (142, .iand, 1, .null), (143, .putfield 61, 3, .null), (146, .aload_n 0, 1, .null), (147, .iload 4, 2, .null), (149, .putfield 64, 3, .null), (152, .aload_n 0, 1, .null), (153, .getfield 47, 3, .null)]
theorem e_X11_fails_17_k : e_X11_fails_17.all (fun q => xokB cX11_fails q && xokL q) = true := by decide +kernel
def e_X11_fails_18 : List xI := [(163, .iconst 0, 1, .int 0)]
theorem e_X11_fails_18_k : e_X11_fails_18.all (fun q => xokB cX11_fails q && xokL q) = true := by decide +kernel
def e_X11_fails_19 : List xI := [(159, .iconst 1, 1, .int 1)]
theorem e_X11_fails_19_k : e_X11_fails_19.all (fun q => xokB cX11_fails q && xokL q) = true := by decide +kernel
def e_X11_fails_20 : List xI := [(102, .iconst 1, 1, .int 1)]
theorem e_X11_fails_20_k : e_X11_fails_20.all (fun q => xokB cX11_fails q && xokL q) = true := by decide +kernel
def e_X11_fails_21 : List xI := [(71, .iload 8, 2, .null)]
theorem e_X11_fails_21_k : e_X11_fails_21.all (fun q => xokB cX11_fails q && xokL q) = true := by decide +kernel
def e_X11_fails_22 : List xI := [(79, .aload_n 0, 1, .null), (80, .sipush 8192, 3, .int 8192)]
theorem e_X11_fails_22_k : e_X11_fails_22.all (fun q => xokB cX11_fails q && xokL q) = true := by decide +kernel
def e_X11_fails_23 : List xI := [(107, .istore 6, 2, .null), (109, .iinc 7 1, 3, .null)]
theorem e_X11_fails_23_k : e_X11_fails_23.all (fun q => xokB cX11_fails q && xokL q) = true := by decide +kernel
def e_X11_fails_24 : List xI := [(89, .iload_n 3, 1, .null)]
theorem e_X11_fails_24_k : e_X11_fails_24.all (fun q => xokB cX11_fails q && xokL q) = true := by decide +kernel
def e_X11_fails_25 : List xI := [(93, .iload 8, 2, .null), (95, .aload_n 0, 1, .null), (96, .getfield 58, 3, .null)]
theorem e_X11_fails_25_k : e_X11_fails_25.all (fun q => xokB cX11_fails q && xokL q) = true := by decide +kernel
def e_X11_fails_26 : List xI := [(106, .iconst 0, 1, .int 0)]
theorem e_X11_fails_26_k : e_X11_fails_26.all (fun q => xokB cX11_fails q && xokL q) = true := by decide +kernel
abbrev P_X11_fails (r : Int32 × St) (L : Nat → Nat → Int64) : Option Value → xG → Prop := fun v σ' => PoI r.1 r.2 L v σ' ∧ xrg 0 1 r.1 ∧ Inv INVM r.2
abbrev R_X11_fails : Room := { frames := 1, cells := 0, slots := 0, locals := 21 }
abbrev C_X11_fails (l : Launch) (r : Int32 × St) (L : Nat → Nat → Int64) (V : XJ) : Prop := XC l yX11_fails.cls yX11_fails.name cX11_fails 9 R_X11_fails 0 0 fl_X11 kc_X11 LAY.length (xfin (some .boolean) LAY (P_X11_fails r L)) V
def f_X11_fails_135 (x1 : Int32) (x4 : Int32) (s0 : Int32) (M : St) : Int32 × St := (if s0 = 0 then (0, (xup (xup (xup M 14 20 s0) 14 21 (x1 &&& 16777215)) 14 22 x4)) else (1, (xup (xup (xup M 14 20 s0) 14 21 (x1 &&& 16777215)) 14 22 x4)))
def f_X11_fails_107 (rec : Int32 → Int32 → Int32 → Int32 → Int32 → Int32 → Int32 → St → Int32 × St) (x1 : Int32) (x2 : Int32) (x3 : Int32) (x4 : Int32) (x5 : Int32) (x7 : Int32) (s0 : Int32) (M : St) : Int32 × St := rec x1 x2 x3 x4 x5 s0 (x7 + 1) M
def f_X11_fails_106 (rec : Int32 → Int32 → Int32 → Int32 → Int32 → Int32 → Int32 → St → Int32 × St) (x1 : Int32) (x2 : Int32) (x3 : Int32) (x4 : Int32) (x5 : Int32) (x7 : Int32) (M : St) : Int32 × St := f_X11_fails_107 (rec) x1 x2 x3 x4 x5 x7 0 M
def f_X11_fails_102 (rec : Int32 → Int32 → Int32 → Int32 → Int32 → Int32 → Int32 → St → Int32 × St) (x1 : Int32) (x2 : Int32) (x3 : Int32) (x4 : Int32) (x5 : Int32) (x7 : Int32) (M : St) : Int32 × St := f_X11_fails_107 (rec) x1 x2 x3 x4 x5 x7 1 M
def f_X11_fails_89 (rec : Int32 → Int32 → Int32 → Int32 → Int32 → Int32 → Int32 → St → Int32 × St) (x1 : Int32) (x2 : Int32) (x3 : Int32) (x4 : Int32) (x5 : Int32) (x7 : Int32) (x8 : Int32) (M : St) : Int32 × St := (if x3 = 0 then f_X11_fails_106 (rec) x1 x2 x3 x4 x5 x7 M else (if (M 14 8) ≤ x8 then f_X11_fails_106 (rec) x1 x2 x3 x4 x5 x7 M else f_X11_fails_102 (rec) x1 x2 x3 x4 x5 x7 M))
def f_X11_fails_71 (rec : Int32 → Int32 → Int32 → Int32 → Int32 → Int32 → Int32 → St → Int32 × St) (x1 : Int32) (x2 : Int32) (x3 : Int32) (x4 : Int32) (x5 : Int32) (x7 : Int32) (x8 : Int32) (M : St) : Int32 × St := (if (f_X11_isDevice x8) = 0 then f_X11_fails_89 (rec) x1 x2 x3 x4 x5 x7 x8 M else (if (f_X11_has 8192 M) = 0 then f_X11_fails_102 (rec) x1 x2 x3 x4 x5 x7 M else f_X11_fails_89 (rec) x1 x2 x3 x4 x5 x7 x8 M))
def f_X11_fails_33 : Nat → Int32 → Int32 → Int32 → Int32 → Int32 → Int32 → Int32 → St → Int32 × St
  | 0, x1, x2, x3, x4, x5, x6, x7, M => (0, M)
  | n + 1, x1, x2, x3, x4, x5, x6, x7, M => (if ((1 : Int32) <<< (x2 &&& 31)) ≤ x7 then (if x5 = 0 then (if x6 = 0 then f_X11_fails_135 x1 x4 0 M else f_X11_fails_135 x1 x4 2 M) else f_X11_fails_135 x1 x4 3 M) else (if x6 = 0 then (if ((x1 + x7) &&& 16777215) ≤ 2047 then f_X11_fails_71 (f_X11_fails_33 n) x1 x2 x3 x4 x5 x7 ((x1 + x7) &&& 16777215) M else (if (f_X11_isDevice ((x1 + x7) &&& 16777215)) = 0 then f_X11_fails_102 (f_X11_fails_33 n) x1 x2 x3 x4 x5 x7 M else f_X11_fails_71 (f_X11_fails_33 n) x1 x2 x3 x4 x5 x7 ((x1 + x7) &&& 16777215) M)) else f_X11_fails_102 (f_X11_fails_33 n) x1 x2 x3 x4 x5 x7 M))
def f_X11_fails_25 (x1 : Int32) (x2 : Int32) (x3 : Int32) (x4 : Int32) (s0 : Int32) (M : St) : Int32 × St := f_X11_fails_33 ((((1 : Int32) <<< (x2 &&& 31)).toInt - (0 : Int32).toInt).toNat + 1) x1 x2 x3 x4 s0 0 0 M
def f_X11_fails_24 (x1 : Int32) (x2 : Int32) (x3 : Int32) (x4 : Int32) (M : St) : Int32 × St := f_X11_fails_25 x1 x2 x3 x4 0 M
def f_X11_fails (a1 : Int32) (a2 : Int32) (a3 : Int32) (a4 : Int32) (M : St) : Int32 × St := (if (M 14 20) = 0 then (if a2 ≤ 0 then f_X11_fails_24 a1 a2 a3 a4 M else (if (a1 &&& 1) = 1 then f_X11_fails_25 a1 a2 a3 a4 1 M else f_X11_fails_24 a1 a2 a3 a4 M)) else (1, M))
set_option maxRecDepth 20000 in
set_option maxHeartbeats 4000000 in
theorem b_X11_fails_135 {l : Launch} {L : Nat → Nat → Int64} {V : XJ} (r : Int32 × St) (C : C_X11_fails l r L V) (x1 : Int32) (x4 : Int32) (s0 : Int32) (M : St) (ws0 : xrg 0 3 s0) (hI : Inv INVM M) (h : f_X11_fails_135 x1 x4 s0 M = r) : V 0 0 135 [(0, .ref 14), (1, .int x1), (4, .int x4)] [.int s0, .ref 14] LAY (M, L) := by
  unfold f_X11_fails_135 at h
  refine x_run C e_X11_fails_17 e_X11_fails_17_k (pc' := 156) (lv' := [(0, .ref 14), (1, .int x1), (4, .int x4)]) (st' := [.int s0]) (σ' := ((xup (xup (xup M 14 20 s0) 14 21 (x1 &&& 16777215)) 14 22 x4), L)) rfl ⟨trivial, trivial, trivial, trivial, trivial, trivial, trivial, trivial, trivial, trivial, trivial, trivial⟩ ?_
  have hI34 : Inv INVM (xup (xup (xup M 14 20 s0) 14 21 (x1 &&& 16777215)) 14 22 x4) := (((hI.set 14 20 ws0 (by decide)).fld 14 21 (x1 &&& 16777215) (by decide)).fld 14 22 x4 (by decide))
  refine x_if_eq C (show decode cX11_fails 156 = .ok (.ifCond .eq 7, 3) from by decide +kernel) (tgt := 163) (by decide) (fun c35 => ?_) (fun c35 => ?_)
  · rw [if_pos c35] at h
    have g36 : xrg 0 0 s0 := (x_c_eq ws0 (x_rgc (x := 0) (k := 0) (by decide)) c35).1
    refine x_run C e_X11_fails_18 e_X11_fails_18_k (pc' := 164) (lv' := [(0, .ref 14), (1, .int x1), (4, .int x4)]) (st' := [.int 0]) (σ' := ((xup (xup (xup M 14 20 s0) 14 21 (x1 &&& 16777215)) 14 22 x4), L)) rfl ⟨trivial, trivial⟩ ?_
    subst h
    exact x_iret C (show decode cX11_fails 164 = .ok (.ireturn, 1) from by decide +kernel) (x_finI (x_nb (x_rgw (x_rgc (x := 0) (k := 0) (by decide)) (lo' := 0) (hi' := 1) (by decide) (by decide))) ⟨⟨rfl, rfl⟩, (x_rgw (x_rgc (x := 0) (k := 0) (by decide)) (lo' := 0) (hi' := 1) (by decide) (by decide)), hI34⟩) (Nat.le_refl 0) (Nat.le_refl 0)
  · rw [if_neg c35] at h
    have g37 : xrg 1 3 s0 := (x_c_ne ws0 (by decide) c35)
    refine x_run C e_X11_fails_19 e_X11_fails_19_k (pc' := 160) (lv' := [(0, .ref 14), (1, .int x1), (4, .int x4)]) (st' := [.int 1]) (σ' := ((xup (xup (xup M 14 20 s0) 14 21 (x1 &&& 16777215)) 14 22 x4), L)) rfl ⟨trivial, trivial⟩ ?_
    refine x_goto C (show decode cX11_fails 160 = .ok (.goto 4, 3) from by decide +kernel) (tgt := 164) (by decide) ?_
    subst h
    exact x_iret C (show decode cX11_fails 164 = .ok (.ireturn, 1) from by decide +kernel) (x_finI (x_nb (x_rgw (x_rgc (x := 1) (k := 1) (by decide)) (lo' := 0) (hi' := 1) (by decide) (by decide))) ⟨⟨rfl, rfl⟩, (x_rgw (x_rgc (x := 1) (k := 1) (by decide)) (lo' := 0) (hi' := 1) (by decide) (by decide)), hI34⟩) (Nat.le_refl 0) (Nat.le_refl 0)
set_option maxRecDepth 20000 in
set_option maxHeartbeats 4000000 in
theorem b_X11_fails_107 {l : Launch} {L : Nat → Nat → Int64} {V : XJ} (r : Int32 × St) (C : C_X11_fails l r L V) (n : Nat) (rec : Int32 → Int32 → Int32 → Int32 → Int32 → Int32 → Int32 → St → Int32 × St) (hrec : ∀ (x1 : Int32) (x2 : Int32) (x3 : Int32) (x4 : Int32) (x5 : Int32) (x6 : Int32) (x7 : Int32) (M : St), xrg 0 1 x5 → xrg 0 1 x6 → Inv INVM M → (((1 : Int32) <<< (x2 &&& 31)).toInt - x7.toInt).toNat < n → rec x1 x2 x3 x4 x5 x6 x7 M = r → V 0 0 33 [(0, .ref 14), (1, .int x1), (2, .int x2), (3, .int x3), (4, .int x4), (5, .int x5), (6, .int x6), (7, .int x7)] [] LAY (M, L)) (x1 : Int32) (x2 : Int32) (x3 : Int32) (x4 : Int32) (x5 : Int32) (x7 : Int32) (s0 : Int32) (M : St) (wx5 : xrg 0 1 x5) (ws0 : xrg 0 1 s0) (hI : Inv INVM M) (hk : (((1 : Int32) <<< (x2 &&& 31)).toInt - (x7 + 1).toInt).toNat < n) (h : f_X11_fails_107 rec x1 x2 x3 x4 x5 x7 s0 M = r) : V 0 0 107 [(0, .ref 14), (1, .int x1), (2, .int x2), (3, .int x3), (4, .int x4), (5, .int x5), (7, .int x7)] [.int s0] LAY (M, L) := by
  unfold f_X11_fails_107 at h
  refine x_run C e_X11_fails_23 e_X11_fails_23_k (pc' := 112) (lv' := [(7, .int (x7 + 1)), (6, .int s0), (0, .ref 14), (1, .int x1), (2, .int x2), (3, .int x3), (4, .int x4), (5, .int x5)]) (st' := []) (σ' := (M, L)) rfl ⟨trivial, trivial, trivial⟩ ?_
  refine x_goto C (show decode cX11_fails 112 = .ok (.goto (-79), 3) from by decide +kernel) (tgt := 33) (by decide) ?_
  refine x_lv C [2, 3, 4, 5, 6, 7, 1, 0] rfl ?_
  exact hrec x1 x2 x3 x4 x5 s0 (x7 + 1) M wx5 ws0 hI (hk) h
set_option maxRecDepth 20000 in
set_option maxHeartbeats 4000000 in
theorem b_X11_fails_106 {l : Launch} {L : Nat → Nat → Int64} {V : XJ} (r : Int32 × St) (C : C_X11_fails l r L V) (n : Nat) (rec : Int32 → Int32 → Int32 → Int32 → Int32 → Int32 → Int32 → St → Int32 × St) (hrec : ∀ (x1 : Int32) (x2 : Int32) (x3 : Int32) (x4 : Int32) (x5 : Int32) (x6 : Int32) (x7 : Int32) (M : St), xrg 0 1 x5 → xrg 0 1 x6 → Inv INVM M → (((1 : Int32) <<< (x2 &&& 31)).toInt - x7.toInt).toNat < n → rec x1 x2 x3 x4 x5 x6 x7 M = r → V 0 0 33 [(0, .ref 14), (1, .int x1), (2, .int x2), (3, .int x3), (4, .int x4), (5, .int x5), (6, .int x6), (7, .int x7)] [] LAY (M, L)) (x1 : Int32) (x2 : Int32) (x3 : Int32) (x4 : Int32) (x5 : Int32) (x7 : Int32) (M : St) (wx5 : xrg 0 1 x5) (hI : Inv INVM M) (hk : (((1 : Int32) <<< (x2 &&& 31)).toInt - (x7 + 1).toInt).toNat < n) (h : f_X11_fails_106 rec x1 x2 x3 x4 x5 x7 M = r) : V 0 0 106 [(0, .ref 14), (1, .int x1), (2, .int x2), (3, .int x3), (4, .int x4), (5, .int x5), (7, .int x7)] [] LAY (M, L) := by
  unfold f_X11_fails_106 at h
  refine x_run C e_X11_fails_26 e_X11_fails_26_k (pc' := 107) (lv' := [(0, .ref 14), (1, .int x1), (2, .int x2), (3, .int x3), (4, .int x4), (5, .int x5), (7, .int x7)]) (st' := [.int 0]) (σ' := (M, L)) rfl ⟨trivial, trivial⟩ ?_
  exact b_X11_fails_107 r C n rec hrec x1 x2 x3 x4 x5 x7 0 M wx5 (x_rgw (x_rgc (x := 0) (k := 0) (by decide)) (lo' := 0) (hi' := 1) (by decide) (by decide)) hI (hk) h
set_option maxRecDepth 20000 in
set_option maxHeartbeats 4000000 in
theorem b_X11_fails_102 {l : Launch} {L : Nat → Nat → Int64} {V : XJ} (r : Int32 × St) (C : C_X11_fails l r L V) (n : Nat) (rec : Int32 → Int32 → Int32 → Int32 → Int32 → Int32 → Int32 → St → Int32 × St) (hrec : ∀ (x1 : Int32) (x2 : Int32) (x3 : Int32) (x4 : Int32) (x5 : Int32) (x6 : Int32) (x7 : Int32) (M : St), xrg 0 1 x5 → xrg 0 1 x6 → Inv INVM M → (((1 : Int32) <<< (x2 &&& 31)).toInt - x7.toInt).toNat < n → rec x1 x2 x3 x4 x5 x6 x7 M = r → V 0 0 33 [(0, .ref 14), (1, .int x1), (2, .int x2), (3, .int x3), (4, .int x4), (5, .int x5), (6, .int x6), (7, .int x7)] [] LAY (M, L)) (x1 : Int32) (x2 : Int32) (x3 : Int32) (x4 : Int32) (x5 : Int32) (x7 : Int32) (M : St) (wx5 : xrg 0 1 x5) (hI : Inv INVM M) (hk : (((1 : Int32) <<< (x2 &&& 31)).toInt - (x7 + 1).toInt).toNat < n) (h : f_X11_fails_102 rec x1 x2 x3 x4 x5 x7 M = r) : V 0 0 102 [(0, .ref 14), (1, .int x1), (2, .int x2), (3, .int x3), (4, .int x4), (5, .int x5), (7, .int x7)] [] LAY (M, L) := by
  unfold f_X11_fails_102 at h
  refine x_run C e_X11_fails_20 e_X11_fails_20_k (pc' := 103) (lv' := [(0, .ref 14), (1, .int x1), (2, .int x2), (3, .int x3), (4, .int x4), (5, .int x5), (7, .int x7)]) (st' := [.int 1]) (σ' := (M, L)) rfl ⟨trivial, trivial⟩ ?_
  refine x_goto C (show decode cX11_fails 103 = .ok (.goto 4, 3) from by decide +kernel) (tgt := 107) (by decide) ?_
  exact b_X11_fails_107 r C n rec hrec x1 x2 x3 x4 x5 x7 1 M wx5 (x_rgw (x_rgc (x := 1) (k := 1) (by decide)) (lo' := 0) (hi' := 1) (by decide) (by decide)) hI (hk) h
set_option maxRecDepth 20000 in
set_option maxHeartbeats 4000000 in
theorem b_X11_fails_89 {l : Launch} {L : Nat → Nat → Int64} {V : XJ} (r : Int32 × St) (C : C_X11_fails l r L V) (n : Nat) (rec : Int32 → Int32 → Int32 → Int32 → Int32 → Int32 → Int32 → St → Int32 × St) (hrec : ∀ (x1 : Int32) (x2 : Int32) (x3 : Int32) (x4 : Int32) (x5 : Int32) (x6 : Int32) (x7 : Int32) (M : St), xrg 0 1 x5 → xrg 0 1 x6 → Inv INVM M → (((1 : Int32) <<< (x2 &&& 31)).toInt - x7.toInt).toNat < n → rec x1 x2 x3 x4 x5 x6 x7 M = r → V 0 0 33 [(0, .ref 14), (1, .int x1), (2, .int x2), (3, .int x3), (4, .int x4), (5, .int x5), (6, .int x6), (7, .int x7)] [] LAY (M, L)) (x1 : Int32) (x2 : Int32) (x3 : Int32) (x4 : Int32) (x5 : Int32) (x7 : Int32) (x8 : Int32) (M : St) (wx5 : xrg 0 1 x5) (wx8 : xrg 0 16777215 x8) (hI : Inv INVM M) (hk : (((1 : Int32) <<< (x2 &&& 31)).toInt - (x7 + 1).toInt).toNat < n) (h : f_X11_fails_89 rec x1 x2 x3 x4 x5 x7 x8 M = r) : V 0 0 89 [(0, .ref 14), (1, .int x1), (2, .int x2), (3, .int x3), (4, .int x4), (5, .int x5), (7, .int x7), (8, .int x8)] [] LAY (M, L) := by
  unfold f_X11_fails_89 at h
  refine x_run C e_X11_fails_24 e_X11_fails_24_k (pc' := 90) (lv' := [(0, .ref 14), (1, .int x1), (2, .int x2), (3, .int x3), (4, .int x4), (5, .int x5), (7, .int x7), (8, .int x8)]) (st' := [.int x3]) (σ' := (M, L)) rfl ⟨trivial, trivial⟩ ?_
  refine x_if_eq C (show decode cX11_fails 90 = .ok (.ifCond .eq 16, 3) from by decide +kernel) (tgt := 106) (by decide) (fun c50 => ?_) (fun c50 => ?_)
  · rw [if_pos c50] at h
    have g51 : xrg 0 0 x3 := (x_c_eq (x_rgt x3) (x_rgc (x := 0) (k := 0) (by decide)) c50).1
    refine x_lv C [0, 1, 2, 3, 4, 5, 6] rfl ?_
    exact b_X11_fails_106 r C n rec hrec x1 x2 x3 x4 x5 x7 M wx5 hI (hk) h
  · rw [if_neg c50] at h
    refine x_run C e_X11_fails_25 e_X11_fails_25_k (pc' := 99) (lv' := [(0, .ref 14), (1, .int x1), (2, .int x2), (3, .int x3), (4, .int x4), (5, .int x5), (7, .int x7), (8, .int x8)]) (st' := [.int (M 14 8), .int x8]) (σ' := (M, L)) rfl ⟨trivial, trivial, trivial, trivial⟩ ?_
    refine x_icmp_ge C (show decode cX11_fails 99 = .ok (.if_icmp .ge 7, 3) from by decide +kernel) (tgt := 106) (by decide) (fun c52 => ?_) (fun c52 => ?_)
    · rw [if_pos c52] at h
      have g53 : xrg (-2147483648) 16777215 (M 14 8) := (x_c_le (x_rgt (M 14 8)) wx8 c52).1
      refine x_lv C [0, 1, 2, 3, 4, 5, 6] rfl ?_
      exact b_X11_fails_106 r C n rec hrec x1 x2 x3 x4 x5 x7 M wx5 hI (hk) h
    · rw [if_neg c52] at h
      have g54 : xrg 1 2147483647 (M 14 8) := (x_c_nle (x_rgt (M 14 8)) wx8 c52).1
      refine x_lv C [0, 1, 2, 3, 4, 5, 6] rfl ?_
      exact b_X11_fails_102 r C n rec hrec x1 x2 x3 x4 x5 x7 M wx5 hI (hk) h
set_option maxRecDepth 20000 in
set_option maxHeartbeats 4000000 in
theorem b_X11_fails_71 {l : Launch} {L : Nat → Nat → Int64} {V : XJ} (r : Int32 × St) (C : C_X11_fails l r L V) (n : Nat) (rec : Int32 → Int32 → Int32 → Int32 → Int32 → Int32 → Int32 → St → Int32 × St) (hrec : ∀ (x1 : Int32) (x2 : Int32) (x3 : Int32) (x4 : Int32) (x5 : Int32) (x6 : Int32) (x7 : Int32) (M : St), xrg 0 1 x5 → xrg 0 1 x6 → Inv INVM M → (((1 : Int32) <<< (x2 &&& 31)).toInt - x7.toInt).toNat < n → rec x1 x2 x3 x4 x5 x6 x7 M = r → V 0 0 33 [(0, .ref 14), (1, .int x1), (2, .int x2), (3, .int x3), (4, .int x4), (5, .int x5), (6, .int x6), (7, .int x7)] [] LAY (M, L)) (x1 : Int32) (x2 : Int32) (x3 : Int32) (x4 : Int32) (x5 : Int32) (x7 : Int32) (x8 : Int32) (M : St) (wx5 : xrg 0 1 x5) (wx8 : xrg 0 16777215 x8) (hI : Inv INVM M) (hk : (((1 : Int32) <<< (x2 &&& 31)).toInt - (x7 + 1).toInt).toNat < n) (h : f_X11_fails_71 rec x1 x2 x3 x4 x5 x7 x8 M = r) : V 0 0 71 [(0, .ref 14), (1, .int x1), (2, .int x2), (3, .int x3), (4, .int x4), (5, .int x5), (7, .int x7), (8, .int x8)] [] LAY (M, L) := by
  unfold f_X11_fails_71 at h
  refine x_run C e_X11_fails_21 e_X11_fails_21_k (pc' := 73) (lv' := [(0, .ref 14), (1, .int x1), (2, .int x2), (3, .int x3), (4, .int x4), (5, .int x5), (7, .int x7), (8, .int x8)]) (st' := [.int x8]) (σ' := (M, L)) rfl ⟨trivial, trivial⟩ ?_
  refine x_callS C (rest := []) (avs := [.int x8]) (k_X11_isDevice l x8 M L) yoX11_isDevice ml_X11_51 rfl ⟨Nat.zero_le _, Nat.zero_le _⟩ (show decode cX11_fails 73 = .ok (.invokestatic 51, 3) from by decide +kernel) rfl (fun v σ' hPo => ?_)
  obtain ⟨⟨rfl, rfl⟩, g39, -⟩ := hPo
  show V 0 0 76 [(0, .ref 14), (1, .int x1), (2, .int x2), (3, .int x3), (4, .int x4), (5, .int x5), (7, .int x7), (8, .int x8)] [.int (f_X11_isDevice x8)] LAY (M, L)
  refine x_if_eq C (show decode cX11_fails 76 = .ok (.ifCond .eq 13, 3) from by decide +kernel) (tgt := 89) (by decide) (fun c41 => ?_) (fun c41 => ?_)
  · rw [if_pos c41] at h
    have g42 : xrg 0 0 (f_X11_isDevice x8) := (x_c_eq g39 (x_rgc (x := 0) (k := 0) (by decide)) c41).1
    exact b_X11_fails_89 r C n rec hrec x1 x2 x3 x4 x5 x7 x8 M wx5 wx8 hI (hk) h
  · rw [if_neg c41] at h
    have g43 : xrg 1 1 (f_X11_isDevice x8) := (x_c_ne g39 (by decide) c41)
    refine x_run C e_X11_fails_22 e_X11_fails_22_k (pc' := 83) (lv' := [(0, .ref 14), (1, .int x1), (2, .int x2), (3, .int x3), (4, .int x4), (5, .int x5), (7, .int x7), (8, .int x8)]) (st' := [.int 8192, .ref 14]) (σ' := (M, L)) rfl ⟨trivial, trivial, trivial⟩ ?_
    refine x_callV C (k := 14) (ci := 8) (rest := []) (avs := [.int 8192]) (k_X11_has l 8192 M L hI) yoX11_has ml_X11_55 rfl rfl rfl rfl ⟨Nat.zero_le _, Nat.zero_le _⟩ (show decode cX11_fails 83 = .ok (.invokevirtual 55, 3) from by decide +kernel) rfl (fun v σ' hPo => ?_)
    obtain ⟨⟨rfl, rfl⟩, g45, hI46⟩ := hPo
    show V 0 0 86 [(0, .ref 14), (1, .int x1), (2, .int x2), (3, .int x3), (4, .int x4), (5, .int x5), (7, .int x7), (8, .int x8)] [.int (f_X11_has 8192 M)] LAY (M, L)
    refine x_if_eq C (show decode cX11_fails 86 = .ok (.ifCond .eq 16, 3) from by decide +kernel) (tgt := 102) (by decide) (fun c47 => ?_) (fun c47 => ?_)
    · rw [if_pos c47] at h
      have g48 : xrg 0 0 (f_X11_has 8192 M) := (x_c_eq g45 (x_rgc (x := 0) (k := 0) (by decide)) c47).1
      refine x_lv C [0, 1, 2, 3, 4, 5, 6] rfl ?_
      exact b_X11_fails_102 r C n rec hrec x1 x2 x3 x4 x5 x7 M wx5 hI (hk) h
    · rw [if_neg c47] at h
      have g49 : xrg 1 1 (f_X11_has 8192 M) := (x_c_ne g45 (by decide) c47)
      exact b_X11_fails_89 r C n rec hrec x1 x2 x3 x4 x5 x7 x8 M wx5 wx8 hI (hk) h
set_option maxRecDepth 20000 in
set_option maxHeartbeats 4000000 in
theorem b_X11_fails_33 {l : Launch} {L : Nat → Nat → Int64} {V : XJ} (r : Int32 × St) (C : C_X11_fails l r L V) : ∀ (n : Nat) (x1 : Int32) (x2 : Int32) (x3 : Int32) (x4 : Int32) (x5 : Int32) (x6 : Int32) (x7 : Int32) (M : St), xrg 0 1 x5 → xrg 0 1 x6 → Inv INVM M → (((1 : Int32) <<< (x2 &&& 31)).toInt - x7.toInt).toNat < n → f_X11_fails_33 n x1 x2 x3 x4 x5 x6 x7 M = r → V 0 0 33 [(0, .ref 14), (1, .int x1), (2, .int x2), (3, .int x3), (4, .int x4), (5, .int x5), (6, .int x6), (7, .int x7)] [] LAY (M, L) := by
  intro n
  induction n with
  | zero => intro x1 x2 x3 x4 x5 x6 x7 M  wx5 wx6 hI hm; exact absurd hm (Nat.not_lt_zero _)
  | succ n ih =>
    intro x1 x2 x3 x4 x5 x6 x7 M  wx5 wx6 hI hm h
    unfold f_X11_fails_33 at h
    refine x_run C e_X11_fails_8 e_X11_fails_8_k (pc' := 38) (lv' := [(0, .ref 14), (1, .int x1), (2, .int x2), (3, .int x3), (4, .int x4), (5, .int x5), (6, .int x6), (7, .int x7)]) (st' := [.int ((1 : Int32) <<< (x2 &&& 31)), .int x7]) (σ' := (M, L)) rfl ⟨trivial, trivial, trivial, trivial, trivial⟩ ?_
    refine x_icmp_ge C (show decode cX11_fails 38 = .ok (.if_icmp .ge 77, 3) from by decide +kernel) (tgt := 115) (by decide) (fun c10 => ?_) (fun c10 => ?_)
    · rw [if_pos c10] at h
      have g11 : xrg (-2147483648) 2147483647 ((1 : Int32) <<< (x2 &&& 31)) := (x_c_le (x_rgt ((1 : Int32) <<< (x2 &&& 31))) (x_rgt x7) c10).1
      have g12 : xrg (-2147483648) 2147483647 x7 := (x_c_le (x_rgt ((1 : Int32) <<< (x2 &&& 31))) (x_rgt x7) c10).2
      refine x_run C e_X11_fails_9 e_X11_fails_9_k (pc' := 118) (lv' := [(0, .ref 14), (1, .int x1), (2, .int x2), (3, .int x3), (4, .int x4), (5, .int x5), (6, .int x6), (7, .int x7)]) (st' := [.int x5, .ref 14]) (σ' := (M, L)) rfl ⟨trivial, trivial, trivial⟩ ?_
      refine x_if_eq C (show decode cX11_fails 118 = .ok (.ifCond .eq 7, 3) from by decide +kernel) (tgt := 125) (by decide) (fun c13 => ?_) (fun c13 => ?_)
      · rw [if_pos c13] at h
        have g14 : xrg 0 0 x5 := (x_c_eq wx5 (x_rgc (x := 0) (k := 0) (by decide)) c13).1
        refine x_run C e_X11_fails_10 e_X11_fails_10_k (pc' := 127) (lv' := [(0, .ref 14), (1, .int x1), (2, .int x2), (3, .int x3), (4, .int x4), (5, .int x5), (6, .int x6), (7, .int x7)]) (st' := [.int x6, .ref 14]) (σ' := (M, L)) rfl ⟨trivial, trivial⟩ ?_
        refine x_if_eq C (show decode cX11_fails 127 = .ok (.ifCond .eq 7, 3) from by decide +kernel) (tgt := 134) (by decide) (fun c15 => ?_) (fun c15 => ?_)
        · rw [if_pos c15] at h
          have g16 : xrg 0 0 x6 := (x_c_eq wx6 (x_rgc (x := 0) (k := 0) (by decide)) c15).1
          refine x_run C e_X11_fails_11 e_X11_fails_11_k (pc' := 135) (lv' := [(0, .ref 14), (1, .int x1), (2, .int x2), (3, .int x3), (4, .int x4), (5, .int x5), (6, .int x6), (7, .int x7)]) (st' := [.int 0, .ref 14]) (σ' := (M, L)) rfl ⟨trivial, trivial⟩ ?_
          refine x_lv C [0, 1, 4] rfl ?_
          exact b_X11_fails_135 r C x1 x4 0 M (x_rgw (x_rgc (x := 0) (k := 0) (by decide)) (lo' := 0) (hi' := 3) (by decide) (by decide)) hI h
        · rw [if_neg c15] at h
          have g17 : xrg 1 1 x6 := (x_c_ne wx6 (by decide) c15)
          refine x_run C e_X11_fails_12 e_X11_fails_12_k (pc' := 131) (lv' := [(0, .ref 14), (1, .int x1), (2, .int x2), (3, .int x3), (4, .int x4), (5, .int x5), (6, .int x6), (7, .int x7)]) (st' := [.int 2, .ref 14]) (σ' := (M, L)) rfl ⟨trivial, trivial⟩ ?_
          refine x_goto C (show decode cX11_fails 131 = .ok (.goto 4, 3) from by decide +kernel) (tgt := 135) (by decide) ?_
          refine x_lv C [0, 1, 4] rfl ?_
          exact b_X11_fails_135 r C x1 x4 2 M (x_rgw (x_rgc (x := 2) (k := 2) (by decide)) (lo' := 0) (hi' := 3) (by decide) (by decide)) hI h
      · rw [if_neg c13] at h
        have g18 : xrg 1 1 x5 := (x_c_ne wx5 (by decide) c13)
        refine x_run C e_X11_fails_13 e_X11_fails_13_k (pc' := 122) (lv' := [(0, .ref 14), (1, .int x1), (2, .int x2), (3, .int x3), (4, .int x4), (5, .int x5), (6, .int x6), (7, .int x7)]) (st' := [.int 3, .ref 14]) (σ' := (M, L)) rfl ⟨trivial, trivial⟩ ?_
        refine x_goto C (show decode cX11_fails 122 = .ok (.goto 13, 3) from by decide +kernel) (tgt := 135) (by decide) ?_
        refine x_lv C [0, 1, 4] rfl ?_
        exact b_X11_fails_135 r C x1 x4 3 M (x_rgw (x_rgc (x := 3) (k := 3) (by decide)) (lo' := 0) (hi' := 3) (by decide) (by decide)) hI h
    · rw [if_neg c10] at h
      have g19 : xrg (-2147483647) 2147483647 ((1 : Int32) <<< (x2 &&& 31)) := (x_c_nle (x_rgt ((1 : Int32) <<< (x2 &&& 31))) (x_rgt x7) c10).1
      have g20 : xrg (-2147483648) 2147483646 x7 := (x_c_nle (x_rgt ((1 : Int32) <<< (x2 &&& 31))) (x_rgt x7) c10).2
      have hk21 := x_meas (x_nle c10) hm
      refine x_run C e_X11_fails_14 e_X11_fails_14_k (pc' := 52) (lv' := [(8, .int ((x1 + x7) &&& 16777215)), (0, .ref 14), (1, .int x1), (2, .int x2), (3, .int x3), (4, .int x4), (5, .int x5), (6, .int x6), (7, .int x7)]) (st' := [.int x6]) (σ' := (M, L)) rfl ⟨trivial, trivial, trivial, trivial, trivial, trivial, trivial, trivial⟩ ?_
      refine x_if_ne C (show decode cX11_fails 52 = .ok (.ifCond .ne 50, 3) from by decide +kernel) (tgt := 102) (by decide) (fun c22 => ?_) (fun c22 => ?_)
      · rw [if_neg c22] at h
        have g23 : xrg 1 1 x6 := (x_c_ne wx6 (by decide) c22)
        refine x_lv C [1, 2, 3, 4, 5, 6, 8] rfl ?_
        exact b_X11_fails_102 r C n (f_X11_fails_33 n) ih x1 x2 x3 x4 x5 x7 M wx5 hI (hk21) h
      · rw [if_pos c22] at h
        have g24 : xrg 0 0 x6 := (x_c_eq wx6 (x_rgc (x := 0) (k := 0) (by decide)) c22).1
        refine x_run C e_X11_fails_15 e_X11_fails_15_k (pc' := 60) (lv' := [(8, .int ((x1 + x7) &&& 16777215)), (0, .ref 14), (1, .int x1), (2, .int x2), (3, .int x3), (4, .int x4), (5, .int x5), (6, .int x6), (7, .int x7)]) (st' := [.int 2047, .int ((x1 + x7) &&& 16777215)]) (σ' := (M, L)) rfl ⟨trivial, trivial, trivial⟩ ?_
        refine x_icmp_le C (show decode cX11_fails 60 = .ok (.if_icmp .le 11, 3) from by decide +kernel) (tgt := 71) (by decide) (fun c25 => ?_) (fun c25 => ?_)
        · rw [if_pos c25] at h
          have g26 : xrg 0 2047 ((x1 + x7) &&& 16777215) := (x_c_le (x_rg_and (x := (x1 + x7)) (m := 16777215) (k := 16777215) (by decide) (by decide)) (x_rgc (x := 2047) (k := 2047) (by decide)) c25).1
          refine x_lv C [1, 2, 3, 4, 5, 6, 8, 0] rfl ?_
          exact b_X11_fails_71 r C n (f_X11_fails_33 n) ih x1 x2 x3 x4 x5 x7 ((x1 + x7) &&& 16777215) M wx5 (x_rgw g26 (lo' := 0) (hi' := 16777215) (by decide) (by decide)) hI (hk21) h
        · rw [if_neg c25] at h
          have g27 : xrg 2048 16777215 ((x1 + x7) &&& 16777215) := (x_c_nle (x_rg_and (x := (x1 + x7)) (m := 16777215) (k := 16777215) (by decide) (by decide)) (x_rgc (x := 2047) (k := 2047) (by decide)) c25).1
          refine x_run C e_X11_fails_16 e_X11_fails_16_k (pc' := 65) (lv' := [(8, .int ((x1 + x7) &&& 16777215)), (0, .ref 14), (1, .int x1), (2, .int x2), (3, .int x3), (4, .int x4), (5, .int x5), (6, .int x6), (7, .int x7)]) (st' := [.int ((x1 + x7) &&& 16777215)]) (σ' := (M, L)) rfl ⟨trivial, trivial⟩ ?_
          refine x_callS C (rest := []) (avs := [.int ((x1 + x7) &&& 16777215)]) (k_X11_isDevice l ((x1 + x7) &&& 16777215) M L) yoX11_isDevice ml_X11_51 rfl ⟨Nat.zero_le _, Nat.zero_le _⟩ (show decode cX11_fails 65 = .ok (.invokestatic 51, 3) from by decide +kernel) rfl (fun v σ' hPo => ?_)
          obtain ⟨⟨rfl, rfl⟩, g29, -⟩ := hPo
          show V 0 0 68 [(8, .int ((x1 + x7) &&& 16777215)), (0, .ref 14), (1, .int x1), (2, .int x2), (3, .int x3), (4, .int x4), (5, .int x5), (6, .int x6), (7, .int x7)] [.int (f_X11_isDevice ((x1 + x7) &&& 16777215))] LAY (M, L)
          refine x_if_eq C (show decode cX11_fails 68 = .ok (.ifCond .eq 34, 3) from by decide +kernel) (tgt := 102) (by decide) (fun c31 => ?_) (fun c31 => ?_)
          · rw [if_pos c31] at h
            have g32 : xrg 0 0 (f_X11_isDevice ((x1 + x7) &&& 16777215)) := (x_c_eq g29 (x_rgc (x := 0) (k := 0) (by decide)) c31).1
            refine x_lv C [1, 2, 3, 4, 5, 6, 8] rfl ?_
            exact b_X11_fails_102 r C n (f_X11_fails_33 n) ih x1 x2 x3 x4 x5 x7 M wx5 hI (hk21) h
          · rw [if_neg c31] at h
            have g33 : xrg 1 1 (f_X11_isDevice ((x1 + x7) &&& 16777215)) := (x_c_ne g29 (by decide) c31)
            refine x_lv C [1, 2, 3, 4, 5, 6, 8, 0] rfl ?_
            exact b_X11_fails_71 r C n (f_X11_fails_33 n) ih x1 x2 x3 x4 x5 x7 ((x1 + x7) &&& 16777215) M wx5 (x_rgw g27 (lo' := 0) (hi' := 16777215) (by decide) (by decide)) hI (hk21) h
set_option maxRecDepth 20000 in
set_option maxHeartbeats 4000000 in
theorem b_X11_fails_25 {l : Launch} {L : Nat → Nat → Int64} {V : XJ} (r : Int32 × St) (C : C_X11_fails l r L V) (x1 : Int32) (x2 : Int32) (x3 : Int32) (x4 : Int32) (s0 : Int32) (M : St) (ws0 : xrg 0 1 s0) (hI : Inv INVM M) (h : f_X11_fails_25 x1 x2 x3 x4 s0 M = r) : V 0 0 25 [(0, .ref 14), (1, .int x1), (2, .int x2), (3, .int x3), (4, .int x4)] [.int s0] LAY (M, L) := by
  unfold f_X11_fails_25 at h
  refine x_run C e_X11_fails_7 e_X11_fails_7_k (pc' := 33) (lv' := [(7, .int 0), (6, .int 0), (5, .int s0), (0, .ref 14), (1, .int x1), (2, .int x2), (3, .int x3), (4, .int x4)]) (st' := []) (σ' := (M, L)) rfl ⟨trivial, trivial, trivial, trivial, trivial, trivial⟩ ?_
  refine x_lv C [3, 4, 5, 6, 7, 2, 1, 0] rfl ?_
  exact b_X11_fails_33 r C ((((1 : Int32) <<< (x2 &&& 31)).toInt - (0 : Int32).toInt).toNat + 1) x1 x2 x3 x4 s0 0 0 M ws0 (x_rgw (x_rgc (x := 0) (k := 0) (by decide)) (lo' := 0) (hi' := 1) (by decide) (by decide)) hI (Nat.lt_succ_self _) h
set_option maxRecDepth 20000 in
set_option maxHeartbeats 4000000 in
theorem b_X11_fails_24 {l : Launch} {L : Nat → Nat → Int64} {V : XJ} (r : Int32 × St) (C : C_X11_fails l r L V) (x1 : Int32) (x2 : Int32) (x3 : Int32) (x4 : Int32) (M : St) (hI : Inv INVM M) (h : f_X11_fails_24 x1 x2 x3 x4 M = r) : V 0 0 24 [(0, .ref 14), (1, .int x1), (2, .int x2), (3, .int x3), (4, .int x4)] [] LAY (M, L) := by
  unfold f_X11_fails_24 at h
  refine x_run C e_X11_fails_6 e_X11_fails_6_k (pc' := 25) (lv' := [(0, .ref 14), (1, .int x1), (2, .int x2), (3, .int x3), (4, .int x4)]) (st' := [.int 0]) (σ' := (M, L)) rfl ⟨trivial, trivial⟩ ?_
  exact b_X11_fails_25 r C x1 x2 x3 x4 0 M (x_rgw (x_rgc (x := 0) (k := 0) (by decide)) (lo' := 0) (hi' := 1) (by decide) (by decide)) hI h
set_option maxRecDepth 20000 in
set_option maxHeartbeats 4000000 in
theorem k_X11_fails (l : Launch) (a1 : Int32) (a2 : Int32) (a3 : Int32) (a4 : Int32) (M : St) (L : Nat → Nat → Int64) (hI : Inv INVM M) : XM l yX11_fails cX11_fails 9 (some .boolean) R_X11_fails LAY [.ref 14, .int a1, .int a2, .int a3, .int a4] (M, L) (P_X11_fails (f_X11_fails a1 a2 a3 a4 M) L) := by
  refine XM.of (by decide) (Nat.le_of_ble_eq_true rfl) LAY_in cl_ok fl_X11_ok kc_X11_ok (fun V C => ?_)
  obtain ⟨r, h⟩ : ∃ r, f_X11_fails a1 a2 a3 a4 M = r := ⟨_, rfl⟩
  rw [h] at C
  change C_X11_fails l r L V at C
  unfold f_X11_fails at h
  show V 0 0 0 [(0, .ref 14), (1, .int a1), (2, .int a2), (3, .int a3), (4, .int a4)] [] LAY (M, L)
  refine x_run C e_X11_fails_1 e_X11_fails_1_k (pc' := 4) (lv' := [(0, .ref 14), (1, .int a1), (2, .int a2), (3, .int a3), (4, .int a4)]) (st' := [.int (M 14 20)]) (σ' := (M, L)) rfl ⟨trivial, trivial, trivial⟩ ?_
  refine x_if_eq C (show decode cX11_fails 4 = .ok (.ifCond .eq 5, 3) from by decide +kernel) (tgt := 9) (by decide) (fun c1 => ?_) (fun c1 => ?_)
  · rw [if_pos c1] at h
    have g2 : xrg 0 0 (M 14 20) := (x_c_eq (hI.at 5 rfl) (x_rgc (x := 0) (k := 0) (by decide)) c1).1
    refine x_run C e_X11_fails_2 e_X11_fails_2_k (pc' := 10) (lv' := [(0, .ref 14), (1, .int a1), (2, .int a2), (3, .int a3), (4, .int a4)]) (st' := [.int a2]) (σ' := (M, L)) rfl ⟨trivial, trivial⟩ ?_
    refine x_if_le C (show decode cX11_fails 10 = .ok (.ifCond .le 14, 3) from by decide +kernel) (tgt := 24) (by decide) (fun c3 => ?_) (fun c3 => ?_)
    · rw [if_pos c3] at h
      have g4 : xrg (-2147483648) 0 a2 := (x_c_le (x_rgt a2) (x_rgc (x := 0) (k := 0) (by decide)) c3).1
      exact b_X11_fails_24 r C a1 a2 a3 a4 M hI h
    · rw [if_neg c3] at h
      have g5 : xrg 1 2147483647 a2 := (x_c_nle (x_rgt a2) (x_rgc (x := 0) (k := 0) (by decide)) c3).1
      refine x_run C e_X11_fails_3 e_X11_fails_3_k (pc' := 17) (lv' := [(0, .ref 14), (1, .int a1), (2, .int a2), (3, .int a3), (4, .int a4)]) (st' := [.int 1, .int (a1 &&& 1)]) (σ' := (M, L)) rfl ⟨trivial, trivial, trivial, trivial, trivial⟩ ?_
      refine x_icmp_ne C (show decode cX11_fails 17 = .ok (.if_icmp .ne 7, 3) from by decide +kernel) (tgt := 24) (by decide) (fun c6 => ?_) (fun c6 => ?_)
      · rw [if_neg c6] at h
        have g7 : xrg 0 0 (a1 &&& 1) := (x_c_neh (x_rg_and (x := a1) (m := 1) (k := 1) (by decide) (by decide)) (by decide) c6)
        exact b_X11_fails_24 r C a1 a2 a3 a4 M hI h
      · rw [if_pos c6] at h
        have g8 : xrg 1 1 (a1 &&& 1) := (x_c_eq (x_rg_and (x := a1) (m := 1) (k := 1) (by decide) (by decide)) (x_rgc (x := 1) (k := 1) (by decide)) c6).1
        refine x_run C e_X11_fails_4 e_X11_fails_4_k (pc' := 21) (lv' := [(0, .ref 14), (1, .int a1), (2, .int a2), (3, .int a3), (4, .int a4)]) (st' := [.int 1]) (σ' := (M, L)) rfl ⟨trivial, trivial⟩ ?_
        refine x_goto C (show decode cX11_fails 21 = .ok (.goto 4, 3) from by decide +kernel) (tgt := 25) (by decide) ?_
        exact b_X11_fails_25 r C a1 a2 a3 a4 1 M (x_rgw (x_rgc (x := 1) (k := 1) (by decide)) (lo' := 0) (hi' := 1) (by decide) (by decide)) hI h
  · rw [if_neg c1] at h
    have g9 : xrg 1 3 (M 14 20) := (x_c_ne (hI.at 5 rfl) (by decide) c1)
    refine x_run C e_X11_fails_5 e_X11_fails_5_k (pc' := 8) (lv' := [(0, .ref 14), (1, .int a1), (2, .int a2), (3, .int a3), (4, .int a4)]) (st' := [.int 1]) (σ' := (M, L)) rfl ⟨trivial, trivial⟩ ?_
    subst h
    exact x_iret C (show decode cX11_fails 8 = .ok (.ireturn, 1) from by decide +kernel) (x_finI (x_nb (x_rgw (x_rgc (x := 1) (k := 1) (by decide)) (lo' := 0) (hi' := 1) (by decide) (by decide))) ⟨⟨rfl, rfl⟩, (x_rgw (x_rgc (x := 1) (k := 1) (by decide)) (lo' := 0) (hi' := 1) (by decide) (by decide)), hI⟩) (Nat.le_refl 0) (Nat.le_refl 0)
-- X11_writeByte
def e_X11_writeByte_1 : List xI := [(0, .iload_n 1, 1, .null), (1, .sipush 2048, 3, .int 2048)]
theorem e_X11_writeByte_1_k : e_X11_writeByte_1.all (fun q => xokB cX11_writeByte q && xokL q) = true := by decide +kernel
def e_X11_writeByte_2 : List xI := [(7, .aload_n 0, 1, .null), (8, .getfield 27, 3, .null), (11, .iload_n 1, 1, .null), (12, .iload_n 2, 1, .null), (13, .iastore, 1, .null)]
theorem e_X11_writeByte_2_k : e_X11_writeByte_2.all (fun q => xokB cX11_writeByte q && xokL q) = true := by decide +kernel
def e_X11_writeByte_3 : List xI := [(14, .iload_n 1, 1, .null), (15, .sipush 4096, 3, .int 4096)]
theorem e_X11_writeByte_3_k : e_X11_writeByte_3.all (fun q => xokB cX11_writeByte q && xokL q) = true := by decide +kernel
def e_X11_writeByte_4 : List xI := [(21, .aload_n 0, 1, .null), (22, .getfield 79, 3, .null), (25, .bipush 64, 2, .int 64)]
theorem e_X11_writeByte_4_k : e_X11_writeByte_4.all (fun q => xokB cX11_writeByte q && xokL q) = true := by decide +kernel
def e_X11_writeByte_5 : List xI := [(30, .aload_n 0, 1, .null), (31, .getfield 33, 3, .null), (34, .aload_n 0, 1, .null), (35, .getfield 79, 3, .null), (38, .iload_n 2, 1, .null), (39, .iastore, 1, .null), (40, .aload_n 0, 1, .null), (41, .dup, 1, .null), (42, .getfield 79, 3, .null), (45, .iconst 1, 1, .int 1), (46, .iadd, 1, .null), (47, .putfield 79, 3, .null)]
theorem e_X11_writeByte_5_k : e_X11_writeByte_5.all (fun q => xokB cX11_writeByte q && xokL q) = true := by decide +kernel
def e_X11_writeByte_6 : List xI := [(50, .iload_n 1, 1, .null), (51, .sipush 4098, 3, .int 4098)]
theorem e_X11_writeByte_6_k : e_X11_writeByte_6.all (fun q => xokB cX11_writeByte q && xokL q) = true := by decide +kernel
def e_X11_writeByte_7 : List xI := [(57, .aload_n 0, 1, .null), (58, .iload_n 2, 1, .null), (59, .bipush 8, 2, .int 8), (61, .ishl, 1, .null), (62, .aload_n 0, 1, .null), (63, .getfield 70, 3, .null), (66, .sipush 255, 3, .int 255), (69, .iand, 1, .null), (70, .ior, 1, .null), (71, .putfield 70, 3, .null)]
theorem e_X11_writeByte_7_k : e_X11_writeByte_7.all (fun q => xokB cX11_writeByte q && xokL q) = true := by decide +kernel
def e_X11_writeByte_8 : List xI := [(74, .iload_n 1, 1, .null), (75, .sipush 4099, 3, .int 4099)]
theorem e_X11_writeByte_8_k : e_X11_writeByte_8.all (fun q => xokB cX11_writeByte q && xokL q) = true := by decide +kernel
def e_X11_writeByte_9 : List xI := [(81, .aload_n 0, 1, .null), (82, .aload_n 0, 1, .null), (83, .getfield 70, 3, .null), (86, .ldc 82, 2, .null), (88, .iand, 1, .null), (89, .iload_n 2, 1, .null), (90, .ior, 1, .null), (91, .putfield 70, 3, .null)]
theorem e_X11_writeByte_9_k : e_X11_writeByte_9.all (fun q => xokB cX11_writeByte q && xokL q) = true := by decide +kernel
def e_X11_writeByte_10 : List xI := [(94, .iload_n 1, 1, .null), (95, .sipush 4100, 3, .int 4100)]
theorem e_X11_writeByte_10_k : e_X11_writeByte_10.all (fun q => xokB cX11_writeByte q && xokL q) = true := by decide +kernel
def e_X11_writeByte_11 : List xI := [(101, .aload_n 0, 1, .null), (102, .iload_n 2, 1, .null), (103, .bipush 7, 2, .int 7), (105, .iand, 1, .null), (106, .putfield 73, 3, .null)]
theorem e_X11_writeByte_11_k : e_X11_writeByte_11.all (fun q => xokB cX11_writeByte q && xokL q) = true := by decide +kernel
def e_X11_writeByte_12 : List xI := [(109, .iload_n 1, 1, .null), (110, .sipush 4101, 3, .int 4101)]
theorem e_X11_writeByte_12_k : e_X11_writeByte_12.all (fun q => xokB cX11_writeByte q && xokL q) = true := by decide +kernel
def e_X11_writeByte_13 : List xI := [(116, .aload_n 0, 1, .null), (117, .iconst 0, 1, .int 0), (118, .putfield 76, 3, .null)]
theorem e_X11_writeByte_13_k : e_X11_writeByte_13.all (fun q => xokB cX11_writeByte q && xokL q) = true := by decide +kernel
abbrev P_X11_writeByte (r : St) (L : Nat → Nat → Int64) : Option Value → xG → Prop := fun v σ' => PoV r L v σ' ∧ Inv INVM r
abbrev R_X11_writeByte : Room := { frames := 0, cells := 0, slots := 0, locals := 0 }
abbrev C_X11_writeByte (l : Launch) (r : St) (L : Nat → Nat → Int64) (V : XJ) : Prop := XC l yX11_writeByte.cls yX11_writeByte.name cX11_writeByte 3 R_X11_writeByte 0 0 fl_X11 kc_X11 LAY.length (xfin none LAY (P_X11_writeByte r L)) V
def f_X11_writeByte_109 (x1 : Int32) (M : St) : St := (if x1 = 4101 then (xup M 14 11 0) else M)
def f_X11_writeByte_94 (x1 : Int32) (x2 : Int32) (M : St) : St := (if x1 = 4100 then f_X11_writeByte_109 x1 (xup M 14 10 (x2 &&& 7)) else f_X11_writeByte_109 x1 M)
def f_X11_writeByte_74 (x1 : Int32) (x2 : Int32) (M : St) : St := (if x1 = 4099 then f_X11_writeByte_94 x1 x2 (xup M 14 9 (((M 14 9) &&& 65280) ||| x2)) else f_X11_writeByte_94 x1 x2 M)
def f_X11_writeByte_50 (x1 : Int32) (x2 : Int32) (M : St) : St := (if x1 = 4098 then f_X11_writeByte_74 x1 x2 (xup M 14 9 ((x2 <<< ((8 : Int32) &&& 31)) ||| ((M 14 9) &&& 255))) else f_X11_writeByte_74 x1 x2 M)
def f_X11_writeByte_14 (x1 : Int32) (x2 : Int32) (M : St) : St := (if x1 = 4096 then (if 64 ≤ (M 14 14) then f_X11_writeByte_50 x1 x2 M else f_X11_writeByte_50 x1 x2 (xup (xup M 20 (M 14 14).toNatClampNeg x2) 14 14 ((M 14 14) + 1))) else f_X11_writeByte_50 x1 x2 M)
def f_X11_writeByte (a1 : Int32) (a2 : Int32) (M : St) : St := (if 2048 ≤ a1 then f_X11_writeByte_14 a1 a2 M else f_X11_writeByte_14 a1 a2 (xup M 18 a1.toNatClampNeg a2))
set_option maxRecDepth 20000 in
set_option maxHeartbeats 4000000 in
theorem b_X11_writeByte_109 {l : Launch} {L : Nat → Nat → Int64} {V : XJ} (r : St) (C : C_X11_writeByte l r L V) (x1 : Int32) (M : St) (wx1 : xrg 0 2147483647 x1) (hI : Inv INVM M) (h : f_X11_writeByte_109 x1 M = r) : V 0 0 109 [(0, .ref 14), (1, .int x1)] [] LAY (M, L) := by
  unfold f_X11_writeByte_109 at h
  refine x_run C e_X11_writeByte_12 e_X11_writeByte_12_k (pc' := 113) (lv' := [(0, .ref 14), (1, .int x1)]) (st' := [.int 4101, .int x1]) (σ' := (M, L)) rfl ⟨trivial, trivial, trivial⟩ ?_
  refine x_icmp_ne C (show decode cX11_writeByte 113 = .ok (.if_icmp .ne 8, 3) from by decide +kernel) (tgt := 121) (by decide) (fun c20 => ?_) (fun c20 => ?_)
  · rw [if_neg c20] at h
    subst h
    exact x_vret C (show decode cX11_writeByte 121 = .ok (.return_, 1) from by decide +kernel) (x_finV ⟨⟨rfl, rfl⟩, hI⟩) (Nat.le_refl 0) (Nat.le_refl 0)
  · rw [if_pos c20] at h
    have g21 : xrg 4101 4101 x1 := (x_c_eq wx1 (x_rgc (x := 4101) (k := 4101) (by decide)) c20).1
    refine x_run C e_X11_writeByte_13 e_X11_writeByte_13_k (pc' := 121) (lv' := [(0, .ref 14), (1, .int x1)]) (st' := []) (σ' := ((xup M 14 11 0), L)) rfl ⟨trivial, trivial, (x_rgb (x_rgw (x_rgc (x := 0) (k := 0) (by decide)) (lo' := 0) (hi' := 1) (by decide) (by decide))), trivial⟩ ?_
    have hI22 : Inv INVM (xup M 14 11 0) := (hI.fld 14 11 0 (by decide))
    subst h
    exact x_vret C (show decode cX11_writeByte 121 = .ok (.return_, 1) from by decide +kernel) (x_finV ⟨⟨rfl, rfl⟩, hI22⟩) (Nat.le_refl 0) (Nat.le_refl 0)
set_option maxRecDepth 20000 in
set_option maxHeartbeats 4000000 in
theorem b_X11_writeByte_94 {l : Launch} {L : Nat → Nat → Int64} {V : XJ} (r : St) (C : C_X11_writeByte l r L V) (x1 : Int32) (x2 : Int32) (M : St) (wx1 : xrg 0 2147483647 x1) (hI : Inv INVM M) (h : f_X11_writeByte_94 x1 x2 M = r) : V 0 0 94 [(0, .ref 14), (1, .int x1), (2, .int x2)] [] LAY (M, L) := by
  unfold f_X11_writeByte_94 at h
  refine x_run C e_X11_writeByte_10 e_X11_writeByte_10_k (pc' := 98) (lv' := [(0, .ref 14), (1, .int x1), (2, .int x2)]) (st' := [.int 4100, .int x1]) (σ' := (M, L)) rfl ⟨trivial, trivial, trivial⟩ ?_
  refine x_icmp_ne C (show decode cX11_writeByte 98 = .ok (.if_icmp .ne 11, 3) from by decide +kernel) (tgt := 109) (by decide) (fun c17 => ?_) (fun c17 => ?_)
  · rw [if_neg c17] at h
    refine x_lv C [0, 1] rfl ?_
    exact b_X11_writeByte_109 r C x1 M wx1 hI h
  · rw [if_pos c17] at h
    have g18 : xrg 4100 4100 x1 := (x_c_eq wx1 (x_rgc (x := 4100) (k := 4100) (by decide)) c17).1
    refine x_run C e_X11_writeByte_11 e_X11_writeByte_11_k (pc' := 109) (lv' := [(0, .ref 14), (1, .int x1), (2, .int x2)]) (st' := []) (σ' := ((xup M 14 10 (x2 &&& 7)), L)) rfl ⟨trivial, trivial, trivial, trivial, trivial, trivial⟩ ?_
    have hI19 : Inv INVM (xup M 14 10 (x2 &&& 7)) := (hI.set 14 10 (x_rg_and (x := x2) (m := 7) (k := 7) (by decide) (by decide)) (by decide))
    refine x_lv C [0, 1] rfl ?_
    exact b_X11_writeByte_109 r C x1 (xup M 14 10 (x2 &&& 7)) (x_rgw g18 (lo' := 0) (hi' := 2147483647) (by decide) (by decide)) hI19 h
set_option maxRecDepth 20000 in
set_option maxHeartbeats 4000000 in
theorem b_X11_writeByte_74 {l : Launch} {L : Nat → Nat → Int64} {V : XJ} (r : St) (C : C_X11_writeByte l r L V) (x1 : Int32) (x2 : Int32) (M : St) (wx1 : xrg 0 2147483647 x1) (hI : Inv INVM M) (h : f_X11_writeByte_74 x1 x2 M = r) : V 0 0 74 [(0, .ref 14), (1, .int x1), (2, .int x2)] [] LAY (M, L) := by
  unfold f_X11_writeByte_74 at h
  refine x_run C e_X11_writeByte_8 e_X11_writeByte_8_k (pc' := 78) (lv' := [(0, .ref 14), (1, .int x1), (2, .int x2)]) (st' := [.int 4099, .int x1]) (σ' := (M, L)) rfl ⟨trivial, trivial, trivial⟩ ?_
  refine x_icmp_ne C (show decode cX11_writeByte 78 = .ok (.if_icmp .ne 16, 3) from by decide +kernel) (tgt := 94) (by decide) (fun c14 => ?_) (fun c14 => ?_)
  · rw [if_neg c14] at h
    exact b_X11_writeByte_94 r C x1 x2 M wx1 hI h
  · rw [if_pos c14] at h
    have g15 : xrg 4099 4099 x1 := (x_c_eq wx1 (x_rgc (x := 4099) (k := 4099) (by decide)) c14).1
    refine x_run C e_X11_writeByte_9 e_X11_writeByte_9_k (pc' := 94) (lv' := [(0, .ref 14), (1, .int x1), (2, .int x2)]) (st' := []) (σ' := ((xup M 14 9 (((M 14 9) &&& 65280) ||| x2)), L)) rfl ⟨trivial, trivial, trivial, trivial, trivial, trivial, trivial, trivial, trivial⟩ ?_
    have hI16 : Inv INVM (xup M 14 9 (((M 14 9) &&& 65280) ||| x2)) := (hI.fld 14 9 (((M 14 9) &&& 65280) ||| x2) (by decide))
    exact b_X11_writeByte_94 r C x1 x2 (xup M 14 9 (((M 14 9) &&& 65280) ||| x2)) (x_rgw g15 (lo' := 0) (hi' := 2147483647) (by decide) (by decide)) hI16 h
set_option maxRecDepth 20000 in
set_option maxHeartbeats 4000000 in
theorem b_X11_writeByte_50 {l : Launch} {L : Nat → Nat → Int64} {V : XJ} (r : St) (C : C_X11_writeByte l r L V) (x1 : Int32) (x2 : Int32) (M : St) (wx1 : xrg 0 2147483647 x1) (hI : Inv INVM M) (h : f_X11_writeByte_50 x1 x2 M = r) : V 0 0 50 [(0, .ref 14), (1, .int x1), (2, .int x2)] [] LAY (M, L) := by
  unfold f_X11_writeByte_50 at h
  refine x_run C e_X11_writeByte_6 e_X11_writeByte_6_k (pc' := 54) (lv' := [(0, .ref 14), (1, .int x1), (2, .int x2)]) (st' := [.int 4098, .int x1]) (σ' := (M, L)) rfl ⟨trivial, trivial, trivial⟩ ?_
  refine x_icmp_ne C (show decode cX11_writeByte 54 = .ok (.if_icmp .ne 20, 3) from by decide +kernel) (tgt := 74) (by decide) (fun c11 => ?_) (fun c11 => ?_)
  · rw [if_neg c11] at h
    exact b_X11_writeByte_74 r C x1 x2 M wx1 hI h
  · rw [if_pos c11] at h
    have g12 : xrg 4098 4098 x1 := (x_c_eq wx1 (x_rgc (x := 4098) (k := 4098) (by decide)) c11).1
    refine x_run C e_X11_writeByte_7 e_X11_writeByte_7_k (pc' := 74) (lv' := [(0, .ref 14), (1, .int x1), (2, .int x2)]) (st' := []) (σ' := ((xup M 14 9 ((x2 <<< ((8 : Int32) &&& 31)) ||| ((M 14 9) &&& 255))), L)) rfl ⟨trivial, trivial, trivial, trivial, trivial, trivial, trivial, trivial, trivial, trivial, trivial⟩ ?_
    have hI13 : Inv INVM (xup M 14 9 ((x2 <<< ((8 : Int32) &&& 31)) ||| ((M 14 9) &&& 255))) := (hI.fld 14 9 ((x2 <<< ((8 : Int32) &&& 31)) ||| ((M 14 9) &&& 255)) (by decide))
    exact b_X11_writeByte_74 r C x1 x2 (xup M 14 9 ((x2 <<< ((8 : Int32) &&& 31)) ||| ((M 14 9) &&& 255))) (x_rgw g12 (lo' := 0) (hi' := 2147483647) (by decide) (by decide)) hI13 h
set_option maxRecDepth 20000 in
set_option maxHeartbeats 4000000 in
theorem b_X11_writeByte_14 {l : Launch} {L : Nat → Nat → Int64} {V : XJ} (r : St) (C : C_X11_writeByte l r L V) (x1 : Int32) (x2 : Int32) (M : St) (wx1 : xrg 0 2147483647 x1) (hI : Inv INVM M) (h : f_X11_writeByte_14 x1 x2 M = r) : V 0 0 14 [(0, .ref 14), (1, .int x1), (2, .int x2)] [] LAY (M, L) := by
  unfold f_X11_writeByte_14 at h
  refine x_run C e_X11_writeByte_3 e_X11_writeByte_3_k (pc' := 18) (lv' := [(0, .ref 14), (1, .int x1), (2, .int x2)]) (st' := [.int 4096, .int x1]) (σ' := (M, L)) rfl ⟨trivial, trivial, trivial⟩ ?_
  refine x_icmp_ne C (show decode cX11_writeByte 18 = .ok (.if_icmp .ne 32, 3) from by decide +kernel) (tgt := 50) (by decide) (fun c5 => ?_) (fun c5 => ?_)
  · rw [if_neg c5] at h
    exact b_X11_writeByte_50 r C x1 x2 M wx1 hI h
  · rw [if_pos c5] at h
    have g6 : xrg 4096 4096 x1 := (x_c_eq wx1 (x_rgc (x := 4096) (k := 4096) (by decide)) c5).1
    refine x_run C e_X11_writeByte_4 e_X11_writeByte_4_k (pc' := 27) (lv' := [(0, .ref 14), (1, .int x1), (2, .int x2)]) (st' := [.int 64, .int (M 14 14)]) (σ' := (M, L)) rfl ⟨trivial, trivial, trivial, trivial⟩ ?_
    refine x_icmp_ge C (show decode cX11_writeByte 27 = .ok (.if_icmp .ge 23, 3) from by decide +kernel) (tgt := 50) (by decide) (fun c7 => ?_) (fun c7 => ?_)
    · rw [if_pos c7] at h
      have g8 : xrg 64 64 (M 14 14) := (x_c_le (x_rgc (x := 64) (k := 64) (by decide)) (hI.at 1 rfl) c7).2
      exact b_X11_writeByte_50 r C x1 x2 M (x_rgw g6 (lo' := 0) (hi' := 2147483647) (by decide) (by decide)) hI h
    · rw [if_neg c7] at h
      have g9 : xrg 0 63 (M 14 14) := (x_c_nle (x_rgc (x := 64) (k := 64) (by decide)) (hI.at 1 rfl) c7).2
      refine x_run C e_X11_writeByte_5 e_X11_writeByte_5_k (pc' := 50) (lv' := [(0, .ref 14), (1, .int x1), (2, .int x2)]) (st' := []) (σ' := ((xup (xup M 20 (M 14 14).toNatClampNeg x2) 14 14 ((M 14 14) + 1)), L)) rfl ⟨trivial, trivial, trivial, trivial, trivial, (x_rgv g9 (by decide) (by decide)), trivial, trivial, trivial, trivial, trivial, trivial, trivial⟩ ?_
      have hI10 : Inv INVM (xup (xup M 20 (M 14 14).toNatClampNeg x2) 14 14 ((M 14 14) + 1)) := ((hI.arr 20 ((M 14 14).toNatClampNeg) x2 (by decide)).set 14 14 (x_rg_add g9 (x_rgc (x := 1) (k := 1) (by decide)) (by decide) (by decide)) (by decide))
      exact b_X11_writeByte_50 r C x1 x2 (xup (xup M 20 (M 14 14).toNatClampNeg x2) 14 14 ((M 14 14) + 1)) (x_rgw g6 (lo' := 0) (hi' := 2147483647) (by decide) (by decide)) hI10 h
set_option maxRecDepth 20000 in
set_option maxHeartbeats 4000000 in
theorem k_X11_writeByte (l : Launch) (a1 : Int32) (a2 : Int32) (M : St) (L : Nat → Nat → Int64) (hp1 : xrg 0 2147483647 a1) (hI : Inv INVM M) : XM l yX11_writeByte cX11_writeByte 3 none R_X11_writeByte LAY [.ref 14, .int a1, .int a2] (M, L) (P_X11_writeByte (f_X11_writeByte a1 a2 M) L) := by
  refine XM.of (by decide) (Nat.le_of_ble_eq_true rfl) LAY_in cl_ok fl_X11_ok kc_X11_ok (fun V C => ?_)
  obtain ⟨r, h⟩ : ∃ r, f_X11_writeByte a1 a2 M = r := ⟨_, rfl⟩
  rw [h] at C
  change C_X11_writeByte l r L V at C
  unfold f_X11_writeByte at h
  show V 0 0 0 [(0, .ref 14), (1, .int a1), (2, .int a2)] [] LAY (M, L)
  refine x_run C e_X11_writeByte_1 e_X11_writeByte_1_k (pc' := 4) (lv' := [(0, .ref 14), (1, .int a1), (2, .int a2)]) (st' := [.int 2048, .int a1]) (σ' := (M, L)) rfl ⟨trivial, trivial, trivial⟩ ?_
  refine x_icmp_ge C (show decode cX11_writeByte 4 = .ok (.if_icmp .ge 10, 3) from by decide +kernel) (tgt := 14) (by decide) (fun c1 => ?_) (fun c1 => ?_)
  · rw [if_pos c1] at h
    have g2 : xrg 2048 2147483647 a1 := (x_c_le (x_rgc (x := 2048) (k := 2048) (by decide)) hp1 c1).2
    exact b_X11_writeByte_14 r C a1 a2 M (x_rgw g2 (lo' := 0) (hi' := 2147483647) (by decide) (by decide)) hI h
  · rw [if_neg c1] at h
    have g3 : xrg 0 2047 a1 := (x_c_nle (x_rgc (x := 2048) (k := 2048) (by decide)) hp1 c1).2
    refine x_run C e_X11_writeByte_2 e_X11_writeByte_2_k (pc' := 14) (lv' := [(0, .ref 14), (1, .int a1), (2, .int a2)]) (st' := []) (σ' := ((xup M 18 a1.toNatClampNeg a2), L)) rfl ⟨trivial, trivial, trivial, trivial, (x_rgv g3 (by decide) (by decide)), trivial⟩ ?_
    have hI4 : Inv INVM (xup M 18 a1.toNatClampNeg a2) := (hI.arr 18 (a1.toNatClampNeg) a2 (by decide))
    exact b_X11_writeByte_14 r C a1 a2 (xup M 18 a1.toNatClampNeg a2) (x_rgw g3 (lo' := 0) (hi' := 2147483647) (by decide) (by decide)) hI4 h
-- X11_write
def e_X11_write_1 : List xI := [(0, .aload_n 0, 1, .null), (1, .iload_n 1, 1, .null), (2, .iload_n 2, 1, .null), (3, .iconst 1, 1, .int 1), (4, .iconst 0, 1, .int 0)]
theorem e_X11_write_1_k : e_X11_write_1.all (fun q => xokB cX11_write q && xokL q) = true := by decide +kernel
def e_X11_write_2 : List xI := [(12, .iconst 1, 1, .int 1), (13, .iload_n 2, 1, .null), (14, .ishl, 1, .null), (15, .istore 4, 2, .null), (17, .iconst 0, 1, .int 0), (18, .istore 5, 2, .null)]
theorem e_X11_write_2_k : e_X11_write_2.all (fun q => xokB cX11_write q && xokL q) = true := by decide +kernel
def e_X11_write_3 : List xI := [(20, .iload 5, 2, .null), (22, .iload 4, 2, .null)]
theorem e_X11_write_3_k : e_X11_write_3.all (fun q => xokB cX11_write q && xokL q) = true := by decide +kernel
def e_X11_write_4 : List xI := [(27, .aload_n 0, 1, .null), (28, .iload_n 1, 1, .null), (29, .iload 5, 2, .null), (31, .iadd, 1, .null), (32, .ldc 50, 2, .null), (34, .iand, 1, .null), (35, .iload_n 3, 1, .null), (36, .bipush 8, 2, .int 8), (38, .iload 4, 2, .null), (40, .iconst 1, 1, .int 1), (41, .isub, 1, .null), (42, .iload 5, 2, .null), (44, .isub, 1, .null), (45, .imul, 1, .null), (46, .ishr, 1, .null), (47, .sipush 255, 3, .int 255), (50, .iand, 1, .null)]
theorem e_X11_write_4_k : e_X11_write_4.all (fun q => xokB cX11_write q && xokL q) = true := by decide +kernel
def e_X11_write_5 : List xI := [(54, .iinc 5 1, 3, .null)]
theorem e_X11_write_5_k : e_X11_write_5.all (fun q => xokB cX11_write q && xokL q) = true := by decide +kernel
abbrev P_X11_write (r : St) (L : Nat → Nat → Int64) : Option Value → xG → Prop := fun v σ' => PoV r L v σ' ∧ Inv INVM r
abbrev R_X11_write : Room := { frames := 2, cells := 0, slots := 0, locals := 49 }
abbrev C_X11_write (l : Launch) (r : St) (L : Nat → Nat → Int64) (V : XJ) : Prop := XC l yX11_write.cls yX11_write.name cX11_write 6 R_X11_write 0 0 fl_X11 kc_X11 LAY.length (xfin none LAY (P_X11_write r L)) V
def f_X11_write_20 : Nat → Int32 → Int32 → Int32 → Int32 → St → St
  | 0, x1, x3, x4, x5, M => M
  | n + 1, x1, x3, x4, x5, M => (if x4 ≤ x5 then M else (xb (f_X11_writeByte ((x1 + x5) &&& 16777215) ((x3 >>> ((8 * ((x4 - 1) - x5)) &&& 31)) &&& 255) M) fun q12 => f_X11_write_20 n x1 x3 x4 (x5 + 1) q12))
def f_X11_write (a1 : Int32) (a2 : Int32) (a3 : Int32) (M : St) : St := (xb (f_X11_fails a1 a2 1 0 M) fun q1 => (if q1.1 = 0 then f_X11_write_20 (((((1 : Int32) <<< (a2 &&& 31))).toInt - (0 : Int32).toInt).toNat + 1) a1 a3 ((1 : Int32) <<< (a2 &&& 31)) 0 q1.2 else q1.2))
set_option maxRecDepth 20000 in
set_option maxHeartbeats 4000000 in
theorem b_X11_write_20 {l : Launch} {L : Nat → Nat → Int64} {V : XJ} (r : St) (C : C_X11_write l r L V) : ∀ (n : Nat) (x1 : Int32) (x3 : Int32) (x4 : Int32) (x5 : Int32) (M : St), xrg 0 2147483647 x5 → Inv INVM M → ((x4).toInt - x5.toInt).toNat < n → f_X11_write_20 n x1 x3 x4 x5 M = r → V 0 0 20 [(0, .ref 14), (1, .int x1), (3, .int x3), (4, .int x4), (5, .int x5)] [] LAY (M, L) := by
  intro n
  induction n with
  | zero => intro x1 x3 x4 x5 M  wx5 hI hm; exact absurd hm (Nat.not_lt_zero _)
  | succ n ih =>
    intro x1 x3 x4 x5 M  wx5 hI hm h
    unfold f_X11_write_20 at h
    refine x_run C e_X11_write_3 e_X11_write_3_k (pc' := 24) (lv' := [(0, .ref 14), (1, .int x1), (3, .int x3), (4, .int x4), (5, .int x5)]) (st' := [.int x4, .int x5]) (σ' := (M, L)) rfl ⟨trivial, trivial, trivial⟩ ?_
    refine x_icmp_ge C (show decode cX11_write 24 = .ok (.if_icmp .ge 36, 3) from by decide +kernel) (tgt := 60) (by decide) (fun c7 => ?_) (fun c7 => ?_)
    · rw [if_pos c7] at h
      have g8 : xrg (-2147483648) 2147483647 x4 := (x_c_le (x_rgt x4) wx5 c7).1
      subst h
      exact x_vret C (show decode cX11_write 60 = .ok (.return_, 1) from by decide +kernel) (x_finV ⟨⟨rfl, rfl⟩, hI⟩) (Nat.le_refl 0) (Nat.le_refl 0)
    · rw [if_neg c7] at h
      have g9 : xrg 1 2147483647 x4 := (x_c_nle (x_rgt x4) wx5 c7).1
      have g10 : xrg 0 2147483646 x5 := (x_c_nle (x_rgt x4) wx5 c7).2
      have hk11 := x_meas (x_nle c7) hm
      refine x_run C e_X11_write_4 e_X11_write_4_k (pc' := 51) (lv' := [(0, .ref 14), (1, .int x1), (3, .int x3), (4, .int x4), (5, .int x5)]) (st' := [.int ((x3 >>> ((8 * ((x4 - 1) - x5)) &&& 31)) &&& 255), .int ((x1 + x5) &&& 16777215), .ref 14]) (σ' := (M, L)) rfl ⟨trivial, trivial, trivial, trivial, trivial, trivial, trivial, trivial, trivial, trivial, trivial, trivial, trivial, trivial, trivial, trivial, trivial, trivial⟩ ?_
      refine x_callV C (k := 14) (ci := 8) (rest := []) (avs := [.int ((x1 + x5) &&& 16777215), .int ((x3 >>> ((8 * ((x4 - 1) - x5)) &&& 31)) &&& 255)]) (k_X11_writeByte l ((x1 + x5) &&& 16777215) ((x3 >>> ((8 * ((x4 - 1) - x5)) &&& 31)) &&& 255) M L (x_rgw (x_rg_and (x := (x1 + x5)) (m := 16777215) (k := 16777215) (by decide) (by decide)) (lo' := 0) (hi' := 2147483647) (by decide) (by decide)) hI) yoX11_writeByte ml_X11_91 rfl rfl rfl rfl ⟨Nat.zero_le _, Nat.zero_le _⟩ (show decode cX11_write 51 = .ok (.invokevirtual 91, 3) from by decide +kernel) rfl (fun v σ' hPo => ?_)
      obtain ⟨⟨rfl, rfl⟩, hI14⟩ := hPo
      generalize hq12 : f_X11_writeByte ((x1 + x5) &&& 16777215) ((x3 >>> ((8 * ((x4 - 1) - x5)) &&& 31)) &&& 255) M = q12 at h hI14 ⊢
      have h := xb_eq h
      show V 0 0 54 [(0, .ref 14), (1, .int x1), (3, .int x3), (4, .int x4), (5, .int x5)] [] LAY (q12, L)
      refine x_run C e_X11_write_5 e_X11_write_5_k (pc' := 57) (lv' := [(5, .int (x5 + 1)), (0, .ref 14), (1, .int x1), (3, .int x3), (4, .int x4)]) (st' := []) (σ' := (q12, L)) rfl ⟨trivial, trivial⟩ ?_
      refine x_goto C (show decode cX11_write 57 = .ok (.goto (-37), 3) from by decide +kernel) (tgt := 20) (by decide) ?_
      refine x_lv C [1, 2, 3, 4, 0] rfl ?_
      exact ih x1 x3 x4 (x5 + 1) q12 (x_rgw (x_rg_add g10 (x_rgc (x := 1) (k := 1) (by decide)) (by decide) (by decide)) (lo' := 0) (hi' := 2147483647) (by decide) (by decide)) hI14 (hk11) h
set_option maxRecDepth 20000 in
set_option maxHeartbeats 4000000 in
theorem k_X11_write (l : Launch) (a1 : Int32) (a2 : Int32) (a3 : Int32) (M : St) (L : Nat → Nat → Int64) (hI : Inv INVM M) : XM l yX11_write cX11_write 6 none R_X11_write LAY [.ref 14, .int a1, .int a2, .int a3] (M, L) (P_X11_write (f_X11_write a1 a2 a3 M) L) := by
  refine XM.of (by decide) (Nat.le_of_ble_eq_true rfl) LAY_in cl_ok fl_X11_ok kc_X11_ok (fun V C => ?_)
  obtain ⟨r, h⟩ : ∃ r, f_X11_write a1 a2 a3 M = r := ⟨_, rfl⟩
  rw [h] at C
  change C_X11_write l r L V at C
  unfold f_X11_write at h
  show V 0 0 0 [(0, .ref 14), (1, .int a1), (2, .int a2), (3, .int a3)] [] LAY (M, L)
  refine x_run C e_X11_write_1 e_X11_write_1_k (pc' := 5) (lv' := [(0, .ref 14), (1, .int a1), (2, .int a2), (3, .int a3)]) (st' := [.int 0, .int 1, .int a2, .int a1, .ref 14]) (σ' := (M, L)) rfl ⟨trivial, trivial, trivial, trivial, trivial, trivial⟩ ?_
  refine x_callV C (k := 14) (ci := 8) (rest := []) (avs := [.int a1, .int a2, .int 1, .int 0]) (k_X11_fails l a1 a2 1 0 M L hI) yoX11_fails ml_X11_83 rfl rfl rfl rfl ⟨Nat.zero_le _, Nat.zero_le _⟩ (show decode cX11_write 5 = .ok (.invokevirtual 83, 3) from by decide +kernel) rfl (fun v σ' hPo => ?_)
  obtain ⟨⟨rfl, rfl⟩, g2, hI3⟩ := hPo
  generalize hq1 : f_X11_fails a1 a2 1 0 M = q1 at h g2 hI3 ⊢
  obtain ⟨r1, M1⟩ := q1
  have h := xb_eq h
  try dsimp only at h g2 hI3
  show V 0 0 8 [(0, .ref 14), (1, .int a1), (2, .int a2), (3, .int a3)] [.int r1] LAY (M1, L)
  refine x_if_eq C (show decode cX11_write 8 = .ok (.ifCond .eq 4, 3) from by decide +kernel) (tgt := 12) (by decide) (fun c4 => ?_) (fun c4 => ?_)
  · rw [if_pos c4] at h
    have g5 : xrg 0 0 r1 := (x_c_eq g2 (x_rgc (x := 0) (k := 0) (by decide)) c4).1
    refine x_run C e_X11_write_2 e_X11_write_2_k (pc' := 20) (lv' := [(5, .int 0), (4, .int ((1 : Int32) <<< (a2 &&& 31))), (0, .ref 14), (1, .int a1), (2, .int a2), (3, .int a3)]) (st' := []) (σ' := (M1, L)) rfl ⟨trivial, trivial, trivial, trivial, trivial, trivial, trivial⟩ ?_
    refine x_lv C [2, 3, 5, 1, 0] rfl ?_
    exact b_X11_write_20 r C (((((1 : Int32) <<< (a2 &&& 31))).toInt - (0 : Int32).toInt).toNat + 1) a1 a3 ((1 : Int32) <<< (a2 &&& 31)) 0 M1 (x_rgw (x_rgc (x := 0) (k := 0) (by decide)) (lo' := 0) (hi' := 2147483647) (by decide) (by decide)) hI3 (Nat.lt_succ_self _) h
  · rw [if_neg c4] at h
    have g6 : xrg 1 1 r1 := (x_c_ne g2 (by decide) c4)
    subst h
    exact x_vret C (show decode cX11_write 11 = .ok (.return_, 1) from by decide +kernel) (x_finV ⟨⟨rfl, rfl⟩, hI3⟩) (Nat.le_refl 0) (Nat.le_refl 0)
-- X11_push
def e_X11_push_1 : List xI := [(0, .aload_n 0, 1, .null), (1, .getfield 7, 3, .null), (4, .bipush 15, 2, .int 15), (6, .dup2, 1, .null), (7, .iaload, 1, .null), (8, .iconst 1, 1, .int 1), (9, .iload_n 1, 1, .null), (10, .ishl, 1, .null), (11, .isub, 1, .null), (12, .iastore, 1, .null), (13, .aload_n 0, 1, .null), (14, .aload_n 0, 1, .null), (15, .getfield 7, 3, .null), (18, .bipush 15, 2, .int 15), (20, .iaload, 1, .null), (21, .iload_n 1, 1, .null), (22, .iload_n 2, 1, .null)]
theorem e_X11_push_1_k : e_X11_push_1.all (fun q => xokB cX11_push q && xokL q) = true := by decide +kernel
abbrev P_X11_push (r : St) (L : Nat → Nat → Int64) : Option Value → xG → Prop := fun v σ' => PoV r L v σ' ∧ Inv INVM r
abbrev R_X11_push : Room := { frames := 3, cells := 0, slots := 0, locals := 74 }
abbrev C_X11_push (l : Launch) (r : St) (L : Nat → Nat → Int64) (V : XJ) : Prop := XC l yX11_push.cls yX11_push.name cX11_push 3 R_X11_push 0 0 fl_X11 kc_X11 LAY.length (xfin none LAY (P_X11_push r L)) V
def f_X11_push (a1 : Int32) (a2 : Int32) (M : St) : St := (xb (f_X11_write ((M 15 15) - ((1 : Int32) <<< (a1 &&& 31))) a1 a2 (xup M 15 15 ((M 15 15) - ((1 : Int32) <<< (a1 &&& 31))))) fun q2 => q2)
set_option maxRecDepth 20000 in
set_option maxHeartbeats 4000000 in
theorem k_X11_push (l : Launch) (a1 : Int32) (a2 : Int32) (M : St) (L : Nat → Nat → Int64) (hI : Inv INVM M) : XM l yX11_push cX11_push 3 none R_X11_push LAY [.ref 14, .int a1, .int a2] (M, L) (P_X11_push (f_X11_push a1 a2 M) L) := by
  refine XM.of (by decide) (Nat.le_of_ble_eq_true rfl) LAY_in cl_ok fl_X11_ok kc_X11_ok (fun V C => ?_)
  obtain ⟨r, h⟩ : ∃ r, f_X11_push a1 a2 M = r := ⟨_, rfl⟩
  rw [h] at C
  change C_X11_push l r L V at C
  unfold f_X11_push at h
  show V 0 0 0 [(0, .ref 14), (1, .int a1), (2, .int a2)] [] LAY (M, L)
  refine x_run C e_X11_push_1 e_X11_push_1_k (pc' := 23) (lv' := [(0, .ref 14), (1, .int a1), (2, .int a2)]) (st' := [.int a2, .int a1, .int ((M 15 15) - ((1 : Int32) <<< (a1 &&& 31))), .ref 14]) (σ' := ((xup M 15 15 ((M 15 15) - ((1 : Int32) <<< (a1 &&& 31)))), L)) rfl ⟨trivial, trivial, trivial, trivial, (x_rgv (x_rgc (x := 15) (k := 15) (by decide)) (by decide) (by decide)), trivial, trivial, trivial, trivial, (x_rgv (x_rgc (x := 15) (k := 15) (by decide)) (by decide) (by decide)), trivial, trivial, trivial, trivial, (x_rgv (x_rgc (x := 15) (k := 15) (by decide)) (by decide) (by decide)), trivial, trivial, trivial⟩ ?_
  have hI1 : Inv INVM (xup M 15 15 ((M 15 15) - ((1 : Int32) <<< (a1 &&& 31)))) := (hI.arr 15 15 ((M 15 15) - ((1 : Int32) <<< (a1 &&& 31))) (by decide))
  refine x_callV C (k := 14) (ci := 8) (rest := []) (avs := [.int ((M 15 15) - ((1 : Int32) <<< (a1 &&& 31))), .int a1, .int a2]) (k_X11_write l ((M 15 15) - ((1 : Int32) <<< (a1 &&& 31))) a1 a2 (xup M 15 15 ((M 15 15) - ((1 : Int32) <<< (a1 &&& 31)))) L hI1) yoX11_write ml_X11_99 rfl rfl rfl rfl ⟨Nat.zero_le _, Nat.zero_le _⟩ (show decode cX11_push 23 = .ok (.invokevirtual 99, 3) from by decide +kernel) rfl (fun v σ' hPo => ?_)
  obtain ⟨⟨rfl, rfl⟩, hI4⟩ := hPo
  generalize hq2 : f_X11_write ((M 15 15) - ((1 : Int32) <<< (a1 &&& 31))) a1 a2 (xup M 15 15 ((M 15 15) - ((1 : Int32) <<< (a1 &&& 31)))) = q2 at h hI4 ⊢
  have h := xb_eq h
  show V 0 0 26 [(0, .ref 14), (1, .int a1), (2, .int a2)] [] LAY (q2, L)
  subst h
  exact x_vret C (show decode cX11_push 26 = .ok (.return_, 1) from by decide +kernel) (x_finV ⟨⟨rfl, rfl⟩, hI4⟩) (Nat.le_refl 0) (Nat.le_refl 0)
