-- X11_readByte
def e_X11_readByte_1 : List xI := [(0, .iload_n 1, 1, .null), (1, .sipush 2048, 3, .int 2048)]
theorem e_X11_readByte_1_k : e_X11_readByte_1.all (fun q => xokB cX11_readByte q && xokL q) = true := by decide +kernel
def e_X11_readByte_2 : List xI := [(14, .iload_n 1, 1, .null), (15, .sipush 4096, 3, .int 4096)]
theorem e_X11_readByte_2_k : e_X11_readByte_2.all (fun q => xokB cX11_readByte q && xokL q) = true := by decide +kernel
def e_X11_readByte_3 : List xI := [(92, .iload_n 1, 1, .null), (93, .sipush 4097, 3, .int 4097)]
theorem e_X11_readByte_3_k : e_X11_readByte_3.all (fun q => xokB cX11_readByte q && xokL q) = true := by decide +kernel
def e_X11_readByte_4 : List xI := [(104, .iload_n 1, 1, .null), (105, .sipush 4098, 3, .int 4098)]
theorem e_X11_readByte_4_k : e_X11_readByte_4.all (fun q => xokB cX11_readByte q && xokL q) = true := by decide +kernel
def e_X11_readByte_5 : List xI := [(111, .iload_n 1, 1, .null), (112, .sipush 4099, 3, .int 4099)]
theorem e_X11_readByte_5_k : e_X11_readByte_5.all (fun q => xokB cX11_readByte q && xokL q) = true := by decide +kernel
def e_X11_readByte_6 : List xI := [(144, .iload_n 1, 1, .null), (145, .sipush 4100, 3, .int 4100)]
theorem e_X11_readByte_6_k : e_X11_readByte_6.all (fun q => xokB cX11_readByte q && xokL q) = true := by decide +kernel
def e_X11_readByte_7 : List xI := [(158, .iload_n 1, 1, .null), (159, .sipush 4101, 3, .int 4101)]
theorem e_X11_readByte_7_k : e_X11_readByte_7.all (fun q => xokB cX11_readByte q && xokL q) = true := by decide +kernel
def e_X11_readByte_8 : List xI := [(176, .iconst 0, 1, .int 0)]
theorem e_X11_readByte_8_k : e_X11_readByte_8.all (fun q => xokB cX11_readByte q && xokL q) = true := by decide +kernel
def e_X11_readByte_9 : List xI := [(165, .aload_n 0, 1, .null), (166, .getfield 76, 3, .null)]
theorem e_X11_readByte_9_k : e_X11_readByte_9.all (fun q => xokB cX11_readByte q && xokL q) = true := by decide +kernel
def e_X11_readByte_10 : List xI := [(172, .iconst 1, 1, .int 1)]
theorem e_X11_readByte_10_k : e_X11_readByte_10.all (fun q => xokB cX11_readByte q && xokL q) = true := by decide +kernel
def e_X11_readByte_11 : List xI := [(151, .aload_n 0, 1, .null), (152, .getfield 73, 3, .null)]
theorem e_X11_readByte_11_k : e_X11_readByte_11.all (fun q => xokB cX11_readByte q && xokL q) = true := by decide +kernel
def e_X11_readByte_12 : List xI := [(99, .aload_n 0, 1, .null), (100, .getfield 67, 3, .null)]
theorem e_X11_readByte_12_k : e_X11_readByte_12.all (fun q => xokB cX11_readByte q && xokL q) = true := by decide +kernel
def e_X11_readByte_13 : List xI := [(21, .aload_n 0, 1, .null), (22, .getfield 67, 3, .null)]
theorem e_X11_readByte_13_k : e_X11_readByte_13.all (fun q => xokB cX11_readByte q && xokL q) = true := by decide +kernel
def e_X11_readByte_14 : List xI := [(37, .iconst 0, 1, .int 0)]
theorem e_X11_readByte_14_k : e_X11_readByte_14.all (fun q => xokB cX11_readByte q && xokL q) = true := by decide +kernel
def e_X11_readByte_15 : List xI := [(28, .aload_n 0, 1, .null), (29, .getfield 30, 3, .null), (32, .iconst 0, 1, .int 0), (33, .iaload, 1, .null)]
theorem e_X11_readByte_15_k : e_X11_readByte_15.all (fun q => xokB cX11_readByte q && xokL q) = true := by decide +kernel
def e_X11_readByte_16 : List xI := [(7, .aload_n 0, 1, .null), (8, .getfield 27, 3, .null), (11, .iload_n 1, 1, .null), (12, .iaload, 1, .null)]
theorem e_X11_readByte_16_k : e_X11_readByte_16.all (fun q => xokB cX11_readByte q && xokL q) = true := by decide +kernel
def e_X11_readByte_17 : List xI := [(118, .iload_n 1, 1, .null), (119, .sipush 4098, 3, .int 4098)]
theorem e_X11_readByte_17_k : e_X11_readByte_17.all (fun q => xokB cX11_readByte q && xokL q) = true := by decide +kernel
def e_X11_readByte_18 : List xI := [(135, .aload_n 0, 1, .null), (136, .getfield 70, 3, .null), (139, .sipush 255, 3, .int 255), (142, .iand, 1, .null)]
theorem e_X11_readByte_18_k : e_X11_readByte_18.all (fun q => xokB cX11_readByte q && xokL q) = true := by decide +kernel
def e_X11_readByte_19 : List xI := [(125, .aload_n 0, 1, .null), (126, .getfield 70, 3, .null), (129, .bipush 8, 2, .int 8), (131, .ishr, 1, .null)]
theorem e_X11_readByte_19_k : e_X11_readByte_19.all (fun q => xokB cX11_readByte q && xokL q) = true := by decide +kernel
def e_X11_readByte_20 : List xI := [(38, .istore_n 2, 1, .null), (39, .aload_n 0, 1, .null), (40, .aload_n 0, 1, .null), (41, .getfield 67, 3, .null)]
theorem e_X11_readByte_20_k : e_X11_readByte_20.all (fun q => xokB cX11_readByte q && xokL q) = true := by decide +kernel
def e_X11_readByte_21 : List xI := [(56, .iconst 0, 1, .int 0)]
theorem e_X11_readByte_21_k : e_X11_readByte_21.all (fun q => xokB cX11_readByte q && xokL q) = true := by decide +kernel
def e_X11_readByte_22 : List xI := [(47, .aload_n 0, 1, .null), (48, .getfield 67, 3, .null), (51, .iconst 1, 1, .int 1), (52, .isub, 1, .null)]
theorem e_X11_readByte_22_k : e_X11_readByte_22.all (fun q => xokB cX11_readByte q && xokL q) = true := by decide +kernel
def e_X11_readByte_23 : List xI := [(57, .putfield 67, 3, .null), (60, .iconst 0, 1, .int 0), (61, .istore_n 3, 1, .null)]
theorem e_X11_readByte_23_k : e_X11_readByte_23.all (fun q => xokB cX11_readByte q && xokL q) = true := by decide +kernel
def e_X11_readByte_24 : List xI := [(62, .iload_n 3, 1, .null), (63, .aload_n 0, 1, .null), (64, .getfield 67, 3, .null)]
theorem e_X11_readByte_24_k : e_X11_readByte_24.all (fun q => xokB cX11_readByte q && xokL q) = true := by decide +kernel
def e_X11_readByte_25 : List xI := [(90, .iload_n 2, 1, .null)]
theorem e_X11_readByte_25_k : e_X11_readByte_25.all (fun q => xokB cX11_readByte q && xokL q) = true := by decide +kernel
def e_X11_readByte_26 : List xI := [(70, .aload_n 0, 1, .null), (71, .getfield 30, 3, .null), (74, .iload_n 3, 1, .null), (75, .aload_n 0, 1, .null), (76, .getfield 30, 3, .null), (79, .iload_n 3, 1, .null), (80, .iconst 1, 1, .int 1), (81, .iadd, 1, .null), (82, .iaload, 1, .null), (83, .iastore, 1, .null), (84, .iinc 3 1, 3, .null)]
theorem e_X11_readByte_26_k : e_X11_readByte_26.all (fun q => xokB cX11_readByte q && xokL q) = true := by decide +kernel
abbrev P_X11_readByte (r : Int32 × St) (L : Nat → Nat → Int64) : Option Value → xG → Prop := fun v σ' => PoI r.1 r.2 L v σ' ∧ True ∧ Inv INVM r.2
abbrev R_X11_readByte : Room := { frames := 0, cells := 0, slots := 0, locals := 0 }
abbrev C_X11_readByte (l : Launch) (r : Int32 × St) (L : Nat → Nat → Int64) (V : XJ) : Prop := XC l yX11_readByte.cls yX11_readByte.name cX11_readByte 4 R_X11_readByte 0 0 fl_X11 kc_X11 LAY.length (xfin (some .int) LAY (P_X11_readByte r L)) V
def f_X11_readByte_118 (x1 : Int32) (M : St) : Int32 × St := (if x1 = 4098 then (((M 14 9) >>> ((8 : Int32) &&& 31)), M) else (((M 14 9) &&& 255), M))
def f_X11_readByte_62 : Nat → Int32 → Int32 → St → Int32 × St
  | 0, x2, x3, M => (0, M)
  | n + 1, x2, x3, M => (if (M 14 12) ≤ x3 then (x2, M) else f_X11_readByte_62 n x2 (x3 + 1) (xup M 19 x3.toNatClampNeg (M 19 (x3 + 1).toNatClampNeg)))
def f_X11_readByte_57 (x2 : Int32) (s0 : Int32) (M : St) : Int32 × St := f_X11_readByte_62 ((((xup M 14 12 s0) 14 12).toInt - (0 : Int32).toInt).toNat + 1) x2 0 (xup M 14 12 s0)
def f_X11_readByte_38 (s0 : Int32) (M : St) : Int32 × St := (if (M 14 12) ≤ 0 then f_X11_readByte_57 s0 0 M else f_X11_readByte_57 s0 ((M 14 12) - 1) M)
def f_X11_readByte (a1 : Int32) (M : St) : Int32 × St := (if 2048 ≤ a1 then (if a1 = 4096 then (if (M 14 12) ≤ 0 then f_X11_readByte_38 0 M else f_X11_readByte_38 (M 19 0) M) else (if a1 = 4097 then ((M 14 12), M) else (if a1 = 4098 then f_X11_readByte_118 a1 M else (if a1 = 4099 then f_X11_readByte_118 a1 M else (if a1 = 4100 then ((M 14 10), M) else (if a1 = 4101 then (if (M 14 11) = 0 then (0, M) else (1, M)) else (0, M))))))) else ((M 18 a1.toNatClampNeg), M))
set_option maxRecDepth 20000 in
set_option maxHeartbeats 4000000 in
theorem b_X11_readByte_118 {l : Launch} {L : Nat → Nat → Int64} {V : XJ} (r : Int32 × St) (C : C_X11_readByte l r L V) (x1 : Int32) (M : St) (wx1 : xrg 4098 4099 x1) (hI : Inv INVM M) (h : f_X11_readByte_118 x1 M = r) : V 0 0 118 [(0, .ref 14), (1, .int x1)] [] LAY (M, L) := by
  unfold f_X11_readByte_118 at h
  refine x_run C e_X11_readByte_17 e_X11_readByte_17_k (pc' := 122) (lv' := [(0, .ref 14), (1, .int x1)]) (st' := [.int 4098, .int x1]) (σ' := (M, L)) rfl ⟨trivial, trivial, trivial⟩ ?_
  refine x_icmp_ne C (show decode cX11_readByte 122 = .ok (.if_icmp .ne 13, 3) from by decide +kernel) (tgt := 135) (by decide) (fun c21 => ?_) (fun c21 => ?_)
  · rw [if_neg c21] at h
    have g22 : xrg 4099 4099 x1 := (x_c_ne wx1 (by decide) c21)
    refine x_run C e_X11_readByte_18 e_X11_readByte_18_k (pc' := 143) (lv' := [(0, .ref 14), (1, .int x1)]) (st' := [.int ((M 14 9) &&& 255)]) (σ' := (M, L)) rfl ⟨trivial, trivial, trivial, trivial, trivial⟩ ?_
    subst h
    exact x_iret C (show decode cX11_readByte 143 = .ok (.ireturn, 1) from by decide +kernel) (x_finI rfl ⟨⟨rfl, rfl⟩, trivial, hI⟩) (Nat.le_refl 0) (Nat.le_refl 0)
  · rw [if_pos c21] at h
    have g23 : xrg 4098 4098 x1 := (x_c_eq wx1 (x_rgc (x := 4098) (k := 4098) (by decide)) c21).1
    refine x_run C e_X11_readByte_19 e_X11_readByte_19_k (pc' := 132) (lv' := [(0, .ref 14), (1, .int x1)]) (st' := [.int ((M 14 9) >>> ((8 : Int32) &&& 31))]) (σ' := (M, L)) rfl ⟨trivial, trivial, trivial, trivial, trivial⟩ ?_
    refine x_goto C (show decode cX11_readByte 132 = .ok (.goto 11, 3) from by decide +kernel) (tgt := 143) (by decide) ?_
    subst h
    exact x_iret C (show decode cX11_readByte 143 = .ok (.ireturn, 1) from by decide +kernel) (x_finI rfl ⟨⟨rfl, rfl⟩, trivial, hI⟩) (Nat.le_refl 0) (Nat.le_refl 0)
set_option maxRecDepth 20000 in
set_option maxHeartbeats 4000000 in
theorem b_X11_readByte_62 {l : Launch} {L : Nat → Nat → Int64} {V : XJ} (r : Int32 × St) (C : C_X11_readByte l r L V) : ∀ (n : Nat) (x2 : Int32) (x3 : Int32) (M : St), xrg 0 15 x3 → xrg 0 15 (M 14 12) → Inv INVM M → ((M 14 12).toInt - x3.toInt).toNat < n → f_X11_readByte_62 n x2 x3 M = r → V 0 0 62 [(0, .ref 14), (2, .int x2), (3, .int x3)] [] LAY (M, L) := by
  intro n
  induction n with
  | zero => intro x2 x3 M  wx3 wf0 hI hm; exact absurd hm (Nat.not_lt_zero _)
  | succ n ih =>
    intro x2 x3 M  wx3 wf0 hI hm h
    unfold f_X11_readByte_62 at h
    refine x_run C e_X11_readByte_24 e_X11_readByte_24_k (pc' := 67) (lv' := [(0, .ref 14), (2, .int x2), (3, .int x3)]) (st' := [.int (M 14 12), .int x3]) (σ' := (M, L)) rfl ⟨trivial, trivial, trivial, trivial⟩ ?_
    refine x_icmp_ge C (show decode cX11_readByte 67 = .ok (.if_icmp .ge 23, 3) from by decide +kernel) (tgt := 90) (by decide) (fun c28 => ?_) (fun c28 => ?_)
    · rw [if_pos c28] at h
      refine x_run C e_X11_readByte_25 e_X11_readByte_25_k (pc' := 91) (lv' := [(0, .ref 14), (2, .int x2), (3, .int x3)]) (st' := [.int x2]) (σ' := (M, L)) rfl ⟨trivial, trivial⟩ ?_
      subst h
      exact x_iret C (show decode cX11_readByte 91 = .ok (.ireturn, 1) from by decide +kernel) (x_finI rfl ⟨⟨rfl, rfl⟩, trivial, hI⟩) (Nat.le_refl 0) (Nat.le_refl 0)
    · rw [if_neg c28] at h
      have g29 : xrg 1 15 (M 14 12) := (x_c_nle wf0 wx3 c28).1
      have g30 : xrg 0 14 x3 := (x_c_nle wf0 wx3 c28).2
      have hk31 := x_meas (x_nle c28) hm
      refine x_run C e_X11_readByte_26 e_X11_readByte_26_k (pc' := 87) (lv' := [(3, .int (x3 + 1)), (0, .ref 14), (2, .int x2)]) (st' := []) (σ' := ((xup M 19 x3.toNatClampNeg (M 19 (x3 + 1).toNatClampNeg)), L)) rfl ⟨trivial, trivial, trivial, trivial, trivial, trivial, trivial, trivial, (x_rgv (x_rg_add g30 (x_rgc (x := 1) (k := 1) (by decide)) (by decide) (by decide)) (by decide) (by decide)), (x_rgv g30 (by decide) (by decide)), trivial, trivial⟩ ?_
      have hI32 : Inv INVM (xup M 19 x3.toNatClampNeg (M 19 (x3 + 1).toNatClampNeg)) := (hI.arr 19 (x3.toNatClampNeg) (M 19 (x3 + 1).toNatClampNeg) (by decide))
      refine x_goto C (show decode cX11_readByte 87 = .ok (.goto (-25), 3) from by decide +kernel) (tgt := 62) (by decide) ?_
      refine x_lv C [1, 2, 0] rfl ?_
      exact ih x2 (x3 + 1) (xup M 19 x3.toNatClampNeg (M 19 (x3 + 1).toNatClampNeg)) (x_rgw (x_rg_add g30 (x_rgc (x := 1) (k := 1) (by decide)) (by decide) (by decide)) (lo' := 0) (hi' := 15) (by decide) (by decide)) (x_rgw g29 (lo' := 0) (hi' := 15) (by decide) (by decide)) hI32 (hk31) h
set_option maxRecDepth 20000 in
set_option maxHeartbeats 4000000 in
theorem b_X11_readByte_57 {l : Launch} {L : Nat → Nat → Int64} {V : XJ} (r : Int32 × St) (C : C_X11_readByte l r L V) (x2 : Int32) (s0 : Int32) (M : St) (ws0 : xrg 0 15 s0) (hI : Inv INVM M) (h : f_X11_readByte_57 x2 s0 M = r) : V 0 0 57 [(0, .ref 14), (2, .int x2)] [.int s0, .ref 14] LAY (M, L) := by
  unfold f_X11_readByte_57 at h
  refine x_run C e_X11_readByte_23 e_X11_readByte_23_k (pc' := 62) (lv' := [(3, .int 0), (0, .ref 14), (2, .int x2)]) (st' := []) (σ' := ((xup M 14 12 s0), L)) rfl ⟨trivial, trivial, trivial, trivial⟩ ?_
  have hI27 : Inv INVM (xup M 14 12 s0) := (hI.set 14 12 ws0 (by decide))
  refine x_lv C [1, 2, 0] rfl ?_
  exact b_X11_readByte_62 r C ((((xup M 14 12 s0) 14 12).toInt - (0 : Int32).toInt).toNat + 1) x2 0 (xup M 14 12 s0) (x_rgw (x_rgc (x := 0) (k := 0) (by decide)) (lo' := 0) (hi' := 15) (by decide) (by decide)) ws0 hI27 (Nat.lt_succ_self _) h
set_option maxRecDepth 20000 in
set_option maxHeartbeats 4000000 in
theorem b_X11_readByte_38 {l : Launch} {L : Nat → Nat → Int64} {V : XJ} (r : Int32 × St) (C : C_X11_readByte l r L V) (s0 : Int32) (M : St) (hI : Inv INVM M) (h : f_X11_readByte_38 s0 M = r) : V 0 0 38 [(0, .ref 14)] [.int s0] LAY (M, L) := by
  unfold f_X11_readByte_38 at h
  refine x_run C e_X11_readByte_20 e_X11_readByte_20_k (pc' := 44) (lv' := [(2, .int s0), (0, .ref 14)]) (st' := [.int (M 14 12), .ref 14]) (σ' := (M, L)) rfl ⟨trivial, trivial, trivial, trivial, trivial⟩ ?_
  refine x_if_le C (show decode cX11_readByte 44 = .ok (.ifCond .le 12, 3) from by decide +kernel) (tgt := 56) (by decide) (fun c24 => ?_) (fun c24 => ?_)
  · rw [if_pos c24] at h
    have g25 : xrg 0 0 (M 14 12) := (x_c_le (hI.at 0 rfl) (x_rgc (x := 0) (k := 0) (by decide)) c24).1
    refine x_run C e_X11_readByte_21 e_X11_readByte_21_k (pc' := 57) (lv' := [(2, .int s0), (0, .ref 14)]) (st' := [.int 0, .ref 14]) (σ' := (M, L)) rfl ⟨trivial, trivial⟩ ?_
    refine x_lv C [1, 0] rfl ?_
    exact b_X11_readByte_57 r C s0 0 M (x_rgw (x_rgc (x := 0) (k := 0) (by decide)) (lo' := 0) (hi' := 15) (by decide) (by decide)) hI h
  · rw [if_neg c24] at h
    have g26 : xrg 1 16 (M 14 12) := (x_c_nle (hI.at 0 rfl) (x_rgc (x := 0) (k := 0) (by decide)) c24).1
    refine x_run C e_X11_readByte_22 e_X11_readByte_22_k (pc' := 53) (lv' := [(2, .int s0), (0, .ref 14)]) (st' := [.int ((M 14 12) - 1), .ref 14]) (σ' := (M, L)) rfl ⟨trivial, trivial, trivial, trivial, trivial⟩ ?_
    refine x_goto C (show decode cX11_readByte 53 = .ok (.goto 4, 3) from by decide +kernel) (tgt := 57) (by decide) ?_
    refine x_lv C [1, 0] rfl ?_
    exact b_X11_readByte_57 r C s0 ((M 14 12) - 1) M (x_rg_sub g26 (x_rgc (x := 1) (k := 1) (by decide)) (by decide) (by decide)) hI h
set_option maxRecDepth 20000 in
set_option maxHeartbeats 4000000 in
theorem k_X11_readByte (l : Launch) (a1 : Int32) (M : St) (L : Nat → Nat → Int64) (hp1 : xrg 0 2147483647 a1) (hI : Inv INVM M) : XM l yX11_readByte cX11_readByte 4 (some .int) R_X11_readByte LAY [.ref 14, .int a1] (M, L) (P_X11_readByte (f_X11_readByte a1 M) L) := by
  refine XM.of (by decide) (Nat.le_of_ble_eq_true rfl) LAY_in cl_ok fl_X11_ok kc_X11_ok (fun V C => ?_)
  obtain ⟨r, h⟩ : ∃ r, f_X11_readByte a1 M = r := ⟨_, rfl⟩
  rw [h] at C
  change C_X11_readByte l r L V at C
  unfold f_X11_readByte at h
  show V 0 0 0 [(0, .ref 14), (1, .int a1)] [] LAY (M, L)
  refine x_run C e_X11_readByte_1 e_X11_readByte_1_k (pc' := 4) (lv' := [(0, .ref 14), (1, .int a1)]) (st' := [.int 2048, .int a1]) (σ' := (M, L)) rfl ⟨trivial, trivial, trivial⟩ ?_
  refine x_icmp_ge C (show decode cX11_readByte 4 = .ok (.if_icmp .ge 10, 3) from by decide +kernel) (tgt := 14) (by decide) (fun c1 => ?_) (fun c1 => ?_)
  · rw [if_pos c1] at h
    have g2 : xrg 2048 2147483647 a1 := (x_c_le (x_rgc (x := 2048) (k := 2048) (by decide)) hp1 c1).2
    refine x_run C e_X11_readByte_2 e_X11_readByte_2_k (pc' := 18) (lv' := [(0, .ref 14), (1, .int a1)]) (st' := [.int 4096, .int a1]) (σ' := (M, L)) rfl ⟨trivial, trivial, trivial⟩ ?_
    refine x_icmp_ne C (show decode cX11_readByte 18 = .ok (.if_icmp .ne 74, 3) from by decide +kernel) (tgt := 92) (by decide) (fun c3 => ?_) (fun c3 => ?_)
    · rw [if_neg c3] at h
      refine x_run C e_X11_readByte_3 e_X11_readByte_3_k (pc' := 96) (lv' := [(0, .ref 14), (1, .int a1)]) (st' := [.int 4097, .int a1]) (σ' := (M, L)) rfl ⟨trivial, trivial, trivial⟩ ?_
      refine x_icmp_ne C (show decode cX11_readByte 96 = .ok (.if_icmp .ne 8, 3) from by decide +kernel) (tgt := 104) (by decide) (fun c4 => ?_) (fun c4 => ?_)
      · rw [if_neg c4] at h
        refine x_run C e_X11_readByte_4 e_X11_readByte_4_k (pc' := 108) (lv' := [(0, .ref 14), (1, .int a1)]) (st' := [.int 4098, .int a1]) (σ' := (M, L)) rfl ⟨trivial, trivial, trivial⟩ ?_
        refine x_icmp_eq C (show decode cX11_readByte 108 = .ok (.if_icmp .eq 10, 3) from by decide +kernel) (tgt := 118) (by decide) (fun c5 => ?_) (fun c5 => ?_)
        · rw [if_pos c5] at h
          have g6 : xrg 4098 4098 a1 := (x_c_eq g2 (x_rgc (x := 4098) (k := 4098) (by decide)) c5).1
          exact b_X11_readByte_118 r C a1 M (x_rgw g6 (lo' := 4098) (hi' := 4099) (by decide) (by decide)) hI h
        · rw [if_neg c5] at h
          refine x_run C e_X11_readByte_5 e_X11_readByte_5_k (pc' := 115) (lv' := [(0, .ref 14), (1, .int a1)]) (st' := [.int 4099, .int a1]) (σ' := (M, L)) rfl ⟨trivial, trivial, trivial⟩ ?_
          refine x_icmp_ne C (show decode cX11_readByte 115 = .ok (.if_icmp .ne 29, 3) from by decide +kernel) (tgt := 144) (by decide) (fun c7 => ?_) (fun c7 => ?_)
          · rw [if_neg c7] at h
            refine x_run C e_X11_readByte_6 e_X11_readByte_6_k (pc' := 148) (lv' := [(0, .ref 14), (1, .int a1)]) (st' := [.int 4100, .int a1]) (σ' := (M, L)) rfl ⟨trivial, trivial, trivial⟩ ?_
            refine x_icmp_ne C (show decode cX11_readByte 148 = .ok (.if_icmp .ne 10, 3) from by decide +kernel) (tgt := 158) (by decide) (fun c8 => ?_) (fun c8 => ?_)
            · rw [if_neg c8] at h
              refine x_run C e_X11_readByte_7 e_X11_readByte_7_k (pc' := 162) (lv' := [(0, .ref 14), (1, .int a1)]) (st' := [.int 4101, .int a1]) (σ' := (M, L)) rfl ⟨trivial, trivial, trivial⟩ ?_
              refine x_icmp_ne C (show decode cX11_readByte 162 = .ok (.if_icmp .ne 14, 3) from by decide +kernel) (tgt := 176) (by decide) (fun c9 => ?_) (fun c9 => ?_)
              · rw [if_neg c9] at h
                refine x_run C e_X11_readByte_8 e_X11_readByte_8_k (pc' := 177) (lv' := [(0, .ref 14), (1, .int a1)]) (st' := [.int 0]) (σ' := (M, L)) rfl ⟨trivial, trivial⟩ ?_
                subst h
                exact x_iret C (show decode cX11_readByte 177 = .ok (.ireturn, 1) from by decide +kernel) (x_finI rfl ⟨⟨rfl, rfl⟩, trivial, hI⟩) (Nat.le_refl 0) (Nat.le_refl 0)
              · rw [if_pos c9] at h
                have g10 : xrg 4101 4101 a1 := (x_c_eq g2 (x_rgc (x := 4101) (k := 4101) (by decide)) c9).1
                refine x_run C e_X11_readByte_9 e_X11_readByte_9_k (pc' := 169) (lv' := [(0, .ref 14), (1, .int a1)]) (st' := [.int (M 14 11)]) (σ' := (M, L)) rfl ⟨trivial, trivial, trivial⟩ ?_
                refine x_if_eq C (show decode cX11_readByte 169 = .ok (.ifCond .eq 7, 3) from by decide +kernel) (tgt := 176) (by decide) (fun c11 => ?_) (fun c11 => ?_)
                · rw [if_pos c11] at h
                  have g12 : xrg 0 0 (M 14 11) := (x_c_eq (x_rgt (M 14 11)) (x_rgc (x := 0) (k := 0) (by decide)) c11).1
                  refine x_run C e_X11_readByte_8 e_X11_readByte_8_k (pc' := 177) (lv' := [(0, .ref 14), (1, .int a1)]) (st' := [.int 0]) (σ' := (M, L)) rfl ⟨trivial, trivial⟩ ?_
                  subst h
                  exact x_iret C (show decode cX11_readByte 177 = .ok (.ireturn, 1) from by decide +kernel) (x_finI rfl ⟨⟨rfl, rfl⟩, trivial, hI⟩) (Nat.le_refl 0) (Nat.le_refl 0)
                · rw [if_neg c11] at h
                  refine x_run C e_X11_readByte_10 e_X11_readByte_10_k (pc' := 173) (lv' := [(0, .ref 14), (1, .int a1)]) (st' := [.int 1]) (σ' := (M, L)) rfl ⟨trivial, trivial⟩ ?_
                  refine x_goto C (show decode cX11_readByte 173 = .ok (.goto 4, 3) from by decide +kernel) (tgt := 177) (by decide) ?_
                  subst h
                  exact x_iret C (show decode cX11_readByte 177 = .ok (.ireturn, 1) from by decide +kernel) (x_finI rfl ⟨⟨rfl, rfl⟩, trivial, hI⟩) (Nat.le_refl 0) (Nat.le_refl 0)
            · rw [if_pos c8] at h
              have g13 : xrg 4100 4100 a1 := (x_c_eq g2 (x_rgc (x := 4100) (k := 4100) (by decide)) c8).1
              refine x_run C e_X11_readByte_11 e_X11_readByte_11_k (pc' := 155) (lv' := [(0, .ref 14), (1, .int a1)]) (st' := [.int (M 14 10)]) (σ' := (M, L)) rfl ⟨trivial, trivial, trivial⟩ ?_
              refine x_goto C (show decode cX11_readByte 155 = .ok (.goto 22, 3) from by decide +kernel) (tgt := 177) (by decide) ?_
              subst h
              exact x_iret C (show decode cX11_readByte 177 = .ok (.ireturn, 1) from by decide +kernel) (x_finI rfl ⟨⟨rfl, rfl⟩, trivial, hI⟩) (Nat.le_refl 0) (Nat.le_refl 0)
          · rw [if_pos c7] at h
            have g14 : xrg 4099 4099 a1 := (x_c_eq g2 (x_rgc (x := 4099) (k := 4099) (by decide)) c7).1
            exact b_X11_readByte_118 r C a1 M (x_rgw g14 (lo' := 4098) (hi' := 4099) (by decide) (by decide)) hI h
      · rw [if_pos c4] at h
        have g15 : xrg 4097 4097 a1 := (x_c_eq g2 (x_rgc (x := 4097) (k := 4097) (by decide)) c4).1
        refine x_run C e_X11_readByte_12 e_X11_readByte_12_k (pc' := 103) (lv' := [(0, .ref 14), (1, .int a1)]) (st' := [.int (M 14 12)]) (σ' := (M, L)) rfl ⟨trivial, trivial, trivial⟩ ?_
        subst h
        exact x_iret C (show decode cX11_readByte 103 = .ok (.ireturn, 1) from by decide +kernel) (x_finI rfl ⟨⟨rfl, rfl⟩, trivial, hI⟩) (Nat.le_refl 0) (Nat.le_refl 0)
    · rw [if_pos c3] at h
      have g16 : xrg 4096 4096 a1 := (x_c_eq g2 (x_rgc (x := 4096) (k := 4096) (by decide)) c3).1
      refine x_run C e_X11_readByte_13 e_X11_readByte_13_k (pc' := 25) (lv' := [(0, .ref 14), (1, .int a1)]) (st' := [.int (M 14 12)]) (σ' := (M, L)) rfl ⟨trivial, trivial, trivial⟩ ?_
      refine x_if_le C (show decode cX11_readByte 25 = .ok (.ifCond .le 12, 3) from by decide +kernel) (tgt := 37) (by decide) (fun c17 => ?_) (fun c17 => ?_)
      · rw [if_pos c17] at h
        have g18 : xrg 0 0 (M 14 12) := (x_c_le (hI.at 0 rfl) (x_rgc (x := 0) (k := 0) (by decide)) c17).1
        refine x_run C e_X11_readByte_14 e_X11_readByte_14_k (pc' := 38) (lv' := [(0, .ref 14), (1, .int a1)]) (st' := [.int 0]) (σ' := (M, L)) rfl ⟨trivial, trivial⟩ ?_
        refine x_lv C [0] rfl ?_
        exact b_X11_readByte_38 r C 0 M hI h
      · rw [if_neg c17] at h
        have g19 : xrg 1 16 (M 14 12) := (x_c_nle (hI.at 0 rfl) (x_rgc (x := 0) (k := 0) (by decide)) c17).1
        refine x_run C e_X11_readByte_15 e_X11_readByte_15_k (pc' := 34) (lv' := [(0, .ref 14), (1, .int a1)]) (st' := [.int (M 19 0)]) (σ' := (M, L)) rfl ⟨trivial, trivial, trivial, (x_rgv (x_rgc (x := 0) (k := 0) (by decide)) (by decide) (by decide)), trivial⟩ ?_
        refine x_goto C (show decode cX11_readByte 34 = .ok (.goto 4, 3) from by decide +kernel) (tgt := 38) (by decide) ?_
        refine x_lv C [0] rfl ?_
        exact b_X11_readByte_38 r C (M 19 0) M hI h
  · rw [if_neg c1] at h
    have g20 : xrg 0 2047 a1 := (x_c_nle (x_rgc (x := 2048) (k := 2048) (by decide)) hp1 c1).2
    refine x_run C e_X11_readByte_16 e_X11_readByte_16_k (pc' := 13) (lv' := [(0, .ref 14), (1, .int a1)]) (st' := [.int (M 18 a1.toNatClampNeg)]) (σ' := (M, L)) rfl ⟨trivial, trivial, trivial, (x_rgv g20 (by decide) (by decide)), trivial⟩ ?_
    subst h
    exact x_iret C (show decode cX11_readByte 13 = .ok (.ireturn, 1) from by decide +kernel) (x_finI rfl ⟨⟨rfl, rfl⟩, trivial, hI⟩) (Nat.le_refl 0) (Nat.le_refl 0)
-- X11_read
def e_X11_read_1 : List xI := [(0, .aload_n 0, 1, .null), (1, .iload_n 1, 1, .null), (2, .iload_n 2, 1, .null), (3, .iconst 0, 1, .int 0), (4, .iload_n 3, 1, .null)]
theorem e_X11_read_1_k : e_X11_read_1.all (fun q => xokB cX11_read q && xokL q) = true := by decide +kernel
def e_X11_read_2 : List xI := [(13, .iconst 0, 1, .int 0), (14, .istore 4, 2, .null), (16, .iconst 0, 1, .int 0), (17, .istore 5, 2, .null)]
theorem e_X11_read_2_k : e_X11_read_2.all (fun q => xokB cX11_read q && xokL q) = true := by decide +kernel
def e_X11_read_3 : List xI := [(11, .iconst 0, 1, .int 0)]
theorem e_X11_read_3_k : e_X11_read_3.all (fun q => xokB cX11_read q && xokL q) = true := by decide +kernel
def e_X11_read_4 : List xI := [(19, .iload 5, 2, .null), (21, .iconst 1, 1, .int 1), (22, .iload_n 2, 1, .null), (23, .ishl, 1, .null)]
theorem e_X11_read_4_k : e_X11_read_4.all (fun q => xokB cX11_read q && xokL q) = true := by decide +kernel
def e_X11_read_5 : List xI := [(52, .iload 4, 2, .null)]
theorem e_X11_read_5_k : e_X11_read_5.all (fun q => xokB cX11_read q && xokL q) = true := by decide +kernel
def e_X11_read_6 : List xI := [(27, .iload 4, 2, .null), (29, .bipush 8, 2, .int 8), (31, .ishl, 1, .null), (32, .aload_n 0, 1, .null), (33, .iload_n 1, 1, .null), (34, .iload 5, 2, .null), (36, .iadd, 1, .null), (37, .ldc 50, 2, .null), (39, .iand, 1, .null)]
theorem e_X11_read_6_k : e_X11_read_6.all (fun q => xokB cX11_read q && xokL q) = true := by decide +kernel
def e_X11_read_7 : List xI := [(43, .ior, 1, .null), (44, .istore 4, 2, .null), (46, .iinc 5 1, 3, .null)]
theorem e_X11_read_7_k : e_X11_read_7.all (fun q => xokB cX11_read q && xokL q) = true := by decide +kernel
abbrev P_X11_read (r : Int32 × St) (L : Nat → Nat → Int64) : Option Value → xG → Prop := fun v σ' => PoI r.1 r.2 L v σ' ∧ True ∧ Inv INVM r.2
abbrev R_X11_read : Room := { frames := 2, cells := 0, slots := 0, locals := 49 }
abbrev C_X11_read (l : Launch) (r : Int32 × St) (L : Nat → Nat → Int64) (V : XJ) : Prop := XC l yX11_read.cls yX11_read.name cX11_read 6 R_X11_read 0 0 fl_X11 kc_X11 LAY.length (xfin (some .int) LAY (P_X11_read r L)) V
def f_X11_read_19 : Nat → Int32 → Int32 → Int32 → Int32 → St → Int32 × St
  | 0, x1, x2, x4, x5, M => (0, M)
  | n + 1, x1, x2, x4, x5, M => (if ((1 : Int32) <<< (x2 &&& 31)) ≤ x5 then (x4, M) else (xb (f_X11_readByte ((x1 + x5) &&& 16777215) M) fun q12 => f_X11_read_19 n x1 x2 ((x4 <<< ((8 : Int32) &&& 31)) ||| q12.1) (x5 + 1) q12.2))
def f_X11_read (a1 : Int32) (a2 : Int32) (a3 : Int32) (M : St) : Int32 × St := (xb (f_X11_fails a1 a2 0 a3 M) fun q1 => (if q1.1 = 0 then f_X11_read_19 ((((1 : Int32) <<< (a2 &&& 31)).toInt - (0 : Int32).toInt).toNat + 1) a1 a2 0 0 q1.2 else (0, q1.2)))
set_option maxRecDepth 20000 in
set_option maxHeartbeats 4000000 in
theorem b_X11_read_19 {l : Launch} {L : Nat → Nat → Int64} {V : XJ} (r : Int32 × St) (C : C_X11_read l r L V) : ∀ (n : Nat) (x1 : Int32) (x2 : Int32) (x4 : Int32) (x5 : Int32) (M : St), xrg 0 2147483647 x5 → Inv INVM M → (((1 : Int32) <<< (x2 &&& 31)).toInt - x5.toInt).toNat < n → f_X11_read_19 n x1 x2 x4 x5 M = r → V 0 0 19 [(0, .ref 14), (1, .int x1), (2, .int x2), (4, .int x4), (5, .int x5)] [] LAY (M, L) := by
  intro n
  induction n with
  | zero => intro x1 x2 x4 x5 M  wx5 hI hm; exact absurd hm (Nat.not_lt_zero _)
  | succ n ih =>
    intro x1 x2 x4 x5 M  wx5 hI hm h
    unfold f_X11_read_19 at h
    refine x_run C e_X11_read_4 e_X11_read_4_k (pc' := 24) (lv' := [(0, .ref 14), (1, .int x1), (2, .int x2), (4, .int x4), (5, .int x5)]) (st' := [.int ((1 : Int32) <<< (x2 &&& 31)), .int x5]) (σ' := (M, L)) rfl ⟨trivial, trivial, trivial, trivial, trivial⟩ ?_
    refine x_icmp_ge C (show decode cX11_read 24 = .ok (.if_icmp .ge 28, 3) from by decide +kernel) (tgt := 52) (by decide) (fun c7 => ?_) (fun c7 => ?_)
    · rw [if_pos c7] at h
      have g8 : xrg (-2147483648) 2147483647 ((1 : Int32) <<< (x2 &&& 31)) := (x_c_le (x_rgt ((1 : Int32) <<< (x2 &&& 31))) wx5 c7).1
      refine x_run C e_X11_read_5 e_X11_read_5_k (pc' := 54) (lv' := [(0, .ref 14), (1, .int x1), (2, .int x2), (4, .int x4), (5, .int x5)]) (st' := [.int x4]) (σ' := (M, L)) rfl ⟨trivial, trivial⟩ ?_
      subst h
      exact x_iret C (show decode cX11_read 54 = .ok (.ireturn, 1) from by decide +kernel) (x_finI rfl ⟨⟨rfl, rfl⟩, trivial, hI⟩) (Nat.le_refl 0) (Nat.le_refl 0)
    · rw [if_neg c7] at h
      have g9 : xrg 1 2147483647 ((1 : Int32) <<< (x2 &&& 31)) := (x_c_nle (x_rgt ((1 : Int32) <<< (x2 &&& 31))) wx5 c7).1
      have g10 : xrg 0 2147483646 x5 := (x_c_nle (x_rgt ((1 : Int32) <<< (x2 &&& 31))) wx5 c7).2
      have hk11 := x_meas (x_nle c7) hm
      refine x_run C e_X11_read_6 e_X11_read_6_k (pc' := 40) (lv' := [(0, .ref 14), (1, .int x1), (2, .int x2), (4, .int x4), (5, .int x5)]) (st' := [.int ((x1 + x5) &&& 16777215), .ref 14, .int (x4 <<< ((8 : Int32) &&& 31))]) (σ' := (M, L)) rfl ⟨trivial, trivial, trivial, trivial, trivial, trivial, trivial, trivial, trivial, trivial⟩ ?_
      refine x_callV C (k := 14) (ci := 8) (rest := [.int (x4 <<< ((8 : Int32) &&& 31))]) (avs := [.int ((x1 + x5) &&& 16777215)]) (k_X11_readByte l ((x1 + x5) &&& 16777215) M L (x_rgw (x_rg_and (x := (x1 + x5)) (m := 16777215) (k := 16777215) (by decide) (by decide)) (lo' := 0) (hi' := 2147483647) (by decide) (by decide)) hI) yoX11_readByte ml_X11_87 rfl rfl rfl rfl ⟨Nat.zero_le _, Nat.zero_le _⟩ (show decode cX11_read 40 = .ok (.invokevirtual 87, 3) from by decide +kernel) rfl (fun v σ' hPo => ?_)
      obtain ⟨⟨rfl, rfl⟩, g13, hI14⟩ := hPo
      generalize hq12 : f_X11_readByte ((x1 + x5) &&& 16777215) M = q12 at h g13 hI14 ⊢
      obtain ⟨r12, M12⟩ := q12
      have h := xb_eq h
      try dsimp only at h g13 hI14
      show V 0 0 43 [(0, .ref 14), (1, .int x1), (2, .int x2), (4, .int x4), (5, .int x5)] [.int r12, .int (x4 <<< ((8 : Int32) &&& 31))] LAY (M12, L)
      refine x_run C e_X11_read_7 e_X11_read_7_k (pc' := 49) (lv' := [(5, .int (x5 + 1)), (4, .int ((x4 <<< ((8 : Int32) &&& 31)) ||| r12)), (0, .ref 14), (1, .int x1), (2, .int x2)]) (st' := []) (σ' := (M12, L)) rfl ⟨trivial, trivial, trivial, trivial⟩ ?_
      refine x_goto C (show decode cX11_read 49 = .ok (.goto (-30), 3) from by decide +kernel) (tgt := 19) (by decide) ?_
      refine x_lv C [2, 3, 4, 1, 0] rfl ?_
      exact ih x1 x2 ((x4 <<< ((8 : Int32) &&& 31)) ||| r12) (x5 + 1) M12 (x_rgw (x_rg_add g10 (x_rgc (x := 1) (k := 1) (by decide)) (by decide) (by decide)) (lo' := 0) (hi' := 2147483647) (by decide) (by decide)) hI14 (hk11) h
set_option maxRecDepth 20000 in
set_option maxHeartbeats 4000000 in
theorem k_X11_read (l : Launch) (a1 : Int32) (a2 : Int32) (a3 : Int32) (M : St) (L : Nat → Nat → Int64) (hI : Inv INVM M) : XM l yX11_read cX11_read 6 (some .int) R_X11_read LAY [.ref 14, .int a1, .int a2, .int a3] (M, L) (P_X11_read (f_X11_read a1 a2 a3 M) L) := by
  refine XM.of (by decide) (Nat.le_of_ble_eq_true rfl) LAY_in cl_ok fl_X11_ok kc_X11_ok (fun V C => ?_)
  obtain ⟨r, h⟩ : ∃ r, f_X11_read a1 a2 a3 M = r := ⟨_, rfl⟩
  rw [h] at C
  change C_X11_read l r L V at C
  unfold f_X11_read at h
  show V 0 0 0 [(0, .ref 14), (1, .int a1), (2, .int a2), (3, .int a3)] [] LAY (M, L)
  refine x_run C e_X11_read_1 e_X11_read_1_k (pc' := 5) (lv' := [(0, .ref 14), (1, .int a1), (2, .int a2), (3, .int a3)]) (st' := [.int a3, .int 0, .int a2, .int a1, .ref 14]) (σ' := (M, L)) rfl ⟨trivial, trivial, trivial, trivial, trivial, trivial⟩ ?_
  refine x_callV C (k := 14) (ci := 8) (rest := []) (avs := [.int a1, .int a2, .int 0, .int a3]) (k_X11_fails l a1 a2 0 a3 M L hI) yoX11_fails ml_X11_83 rfl rfl rfl rfl ⟨Nat.zero_le _, Nat.zero_le _⟩ (show decode cX11_read 5 = .ok (.invokevirtual 83, 3) from by decide +kernel) rfl (fun v σ' hPo => ?_)
  obtain ⟨⟨rfl, rfl⟩, g2, hI3⟩ := hPo
  generalize hq1 : f_X11_fails a1 a2 0 a3 M = q1 at h g2 hI3 ⊢
  obtain ⟨r1, M1⟩ := q1
  have h := xb_eq h
  try dsimp only at h g2 hI3
  show V 0 0 8 [(0, .ref 14), (1, .int a1), (2, .int a2), (3, .int a3)] [.int r1] LAY (M1, L)
  refine x_if_eq C (show decode cX11_read 8 = .ok (.ifCond .eq 5, 3) from by decide +kernel) (tgt := 13) (by decide) (fun c4 => ?_) (fun c4 => ?_)
  · rw [if_pos c4] at h
    have g5 : xrg 0 0 r1 := (x_c_eq g2 (x_rgc (x := 0) (k := 0) (by decide)) c4).1
    refine x_run C e_X11_read_2 e_X11_read_2_k (pc' := 19) (lv' := [(5, .int 0), (4, .int 0), (0, .ref 14), (1, .int a1), (2, .int a2), (3, .int a3)]) (st' := []) (σ' := (M1, L)) rfl ⟨trivial, trivial, trivial, trivial, trivial⟩ ?_
    refine x_lv C [2, 3, 4, 1, 0] rfl ?_
    exact b_X11_read_19 r C ((((1 : Int32) <<< (a2 &&& 31)).toInt - (0 : Int32).toInt).toNat + 1) a1 a2 0 0 M1 (x_rgw (x_rgc (x := 0) (k := 0) (by decide)) (lo' := 0) (hi' := 2147483647) (by decide) (by decide)) hI3 (Nat.lt_succ_self _) h
  · rw [if_neg c4] at h
    have g6 : xrg 1 1 r1 := (x_c_ne g2 (by decide) c4)
    refine x_run C e_X11_read_3 e_X11_read_3_k (pc' := 12) (lv' := [(0, .ref 14), (1, .int a1), (2, .int a2), (3, .int a3)]) (st' := [.int 0]) (σ' := (M1, L)) rfl ⟨trivial, trivial⟩ ?_
    subst h
    exact x_iret C (show decode cX11_read 12 = .ok (.ireturn, 1) from by decide +kernel) (x_finI rfl ⟨⟨rfl, rfl⟩, trivial, hI3⟩) (Nat.le_refl 0) (Nat.le_refl 0)
-- X11_back__16
def e_X11_back__16_1 : List xI := [(0, .iconst 0, 1, .int 0), (1, .istore_n 2, 1, .null)]
theorem e_X11_back__16_1_k : e_X11_back__16_1.all (fun q => xokB cX11_back q && xokL q) = true := by decide +kernel
def e_X11_back__16_2 : List xI := [(2, .iload_n 2, 1, .null), (3, .bipush 18, 2, .int 18)]
theorem e_X11_back__16_2_k : e_X11_back__16_2.all (fun q => xokB cX11_back q && xokL q) = true := by decide +kernel
def e_X11_back__16_3 : List xI := [(23, .aload_n 0, 1, .null), (24, .aload_n 1, 1, .null), (25, .bipush 18, 2, .int 18), (27, .iaload, 1, .null), (28, .putfield 13, 3, .null)]
theorem e_X11_back__16_3_k : e_X11_back__16_3.all (fun q => xokB cX11_back q && xokL q) = true := by decide +kernel
def e_X11_back__16_4 : List xI := [(8, .aload_n 0, 1, .null), (9, .getfield 7, 3, .null), (12, .iload_n 2, 1, .null), (13, .aload_n 1, 1, .null), (14, .iload_n 2, 1, .null), (15, .iaload, 1, .null), (16, .iastore, 1, .null), (17, .iinc 2 1, 3, .null)]
theorem e_X11_back__16_4_k : e_X11_back__16_4.all (fun q => xokB cX11_back q && xokL q) = true := by decide +kernel
abbrev P_X11_back__16 (r : St) (L : Nat → Nat → Int64) : Option Value → xG → Prop := fun v σ' => PoV r L v σ' ∧ Inv INVM r
abbrev R_X11_back__16 : Room := { frames := 0, cells := 0, slots := 0, locals := 0 }
abbrev C_X11_back__16 (l : Launch) (r : St) (L : Nat → Nat → Int64) (V : XJ) : Prop := XC l yX11_back.cls yX11_back.name cX11_back 3 R_X11_back__16 0 0 fl_X11 kc_X11 LAY.length (xfin none LAY (P_X11_back__16 r L)) V
def f_X11_back__16_2 : Nat → Int32 → St → St
  | 0, x2, M => M
  | n + 1, x2, M => (if 18 ≤ x2 then (xup M 14 2 (M 16 18)) else f_X11_back__16_2 n (x2 + 1) (xup M 15 x2.toNatClampNeg (M 16 x2.toNatClampNeg)))
def f_X11_back__16 (M : St) : St := f_X11_back__16_2 ((((18 : Int32)).toInt - (0 : Int32).toInt).toNat + 1) 0 M
set_option maxRecDepth 20000 in
set_option maxHeartbeats 4000000 in
theorem b_X11_back__16_2 {l : Launch} {L : Nat → Nat → Int64} {V : XJ} (r : St) (C : C_X11_back__16 l r L V) : ∀ (n : Nat) (x2 : Int32) (M : St), xrg 0 18 x2 → Inv INVM M → (((18 : Int32)).toInt - x2.toInt).toNat < n → f_X11_back__16_2 n x2 M = r → V 0 0 2 [(0, .ref 14), (1, .ref 16), (2, .int x2)] [] LAY (M, L) := by
  intro n
  induction n with
  | zero => intro x2 M  wx2 hI hm; exact absurd hm (Nat.not_lt_zero _)
  | succ n ih =>
    intro x2 M  wx2 hI hm h
    unfold f_X11_back__16_2 at h
    refine x_run C e_X11_back__16_2 e_X11_back__16_2_k (pc' := 5) (lv' := [(0, .ref 14), (1, .ref 16), (2, .int x2)]) (st' := [.int 18, .int x2]) (σ' := (M, L)) rfl ⟨trivial, trivial, trivial⟩ ?_
    refine x_icmp_ge C (show decode cX11_back 5 = .ok (.if_icmp .ge 18, 3) from by decide +kernel) (tgt := 23) (by decide) (fun c1 => ?_) (fun c1 => ?_)
    · rw [if_pos c1] at h
      have g2 : xrg 18 18 x2 := (x_c_le (x_rgc (x := 18) (k := 18) (by decide)) wx2 c1).2
      refine x_run C e_X11_back__16_3 e_X11_back__16_3_k (pc' := 31) (lv' := [(0, .ref 14), (1, .ref 16), (2, .int x2)]) (st' := []) (σ' := ((xup M 14 2 (M 16 18)), L)) rfl ⟨trivial, trivial, trivial, (x_rgv (x_rgc (x := 18) (k := 18) (by decide)) (by decide) (by decide)), trivial, trivial⟩ ?_
      have hI3 : Inv INVM (xup M 14 2 (M 16 18)) := (hI.fld 14 2 (M 16 18) (by decide))
      subst h
      exact x_vret C (show decode cX11_back 31 = .ok (.return_, 1) from by decide +kernel) (x_finV ⟨⟨rfl, rfl⟩, hI3⟩) (Nat.le_refl 0) (Nat.le_refl 0)
    · rw [if_neg c1] at h
      have g4 : xrg 0 17 x2 := (x_c_nle (x_rgc (x := 18) (k := 18) (by decide)) wx2 c1).2
      have hk5 := x_meas (x_nle c1) hm
      refine x_run C e_X11_back__16_4 e_X11_back__16_4_k (pc' := 20) (lv' := [(2, .int (x2 + 1)), (0, .ref 14), (1, .ref 16)]) (st' := []) (σ' := ((xup M 15 x2.toNatClampNeg (M 16 x2.toNatClampNeg)), L)) rfl ⟨trivial, trivial, trivial, trivial, trivial, (x_rgv g4 (by decide) (by decide)), (x_rgv g4 (by decide) (by decide)), trivial, trivial⟩ ?_
      have hI6 : Inv INVM (xup M 15 x2.toNatClampNeg (M 16 x2.toNatClampNeg)) := (hI.arr 15 (x2.toNatClampNeg) (M 16 x2.toNatClampNeg) (by decide))
      refine x_goto C (show decode cX11_back 20 = .ok (.goto (-18), 3) from by decide +kernel) (tgt := 2) (by decide) ?_
      refine x_lv C [1, 2, 0] rfl ?_
      exact ih (x2 + 1) (xup M 15 x2.toNatClampNeg (M 16 x2.toNatClampNeg)) (x_rgw (x_rg_add g4 (x_rgc (x := 1) (k := 1) (by decide)) (by decide) (by decide)) (lo' := 0) (hi' := 18) (by decide) (by decide)) hI6 (hk5) h
set_option maxRecDepth 20000 in
set_option maxHeartbeats 4000000 in
theorem k_X11_back__16 (l : Launch) (M : St) (L : Nat → Nat → Int64) (hI : Inv INVM M) : XM l yX11_back cX11_back 3 none R_X11_back__16 LAY [.ref 14, .ref 16] (M, L) (P_X11_back__16 (f_X11_back__16 M) L) := by
  refine XM.of (by decide) (Nat.le_of_ble_eq_true rfl) LAY_in cl_ok fl_X11_ok kc_X11_ok (fun V C => ?_)
  obtain ⟨r, h⟩ : ∃ r, f_X11_back__16 M = r := ⟨_, rfl⟩
  rw [h] at C
  change C_X11_back__16 l r L V at C
  unfold f_X11_back__16 at h
  show V 0 0 0 [(0, .ref 14), (1, .ref 16)] [] LAY (M, L)
  refine x_run C e_X11_back__16_1 e_X11_back__16_1_k (pc' := 2) (lv' := [(2, .int 0), (0, .ref 14), (1, .ref 16)]) (st' := []) (σ' := (M, L)) rfl ⟨trivial, trivial, trivial⟩ ?_
  refine x_lv C [1, 2, 0] rfl ?_
  exact b_X11_back__16_2 r C ((((18 : Int32)).toInt - (0 : Int32).toInt).toNat + 1) 0 M (x_rgw (x_rgc (x := 0) (k := 0) (by decide)) (lo' := 0) (hi' := 18) (by decide) (by decide)) hI (Nat.lt_succ_self _) h
-- X11_back__17
def e_X11_back__17_1 : List xI := [(0, .iconst 0, 1, .int 0), (1, .istore_n 2, 1, .null)]
theorem e_X11_back__17_1_k : e_X11_back__17_1.all (fun q => xokB cX11_back q && xokL q) = true := by decide +kernel
def e_X11_back__17_2 : List xI := [(2, .iload_n 2, 1, .null), (3, .bipush 18, 2, .int 18)]
theorem e_X11_back__17_2_k : e_X11_back__17_2.all (fun q => xokB cX11_back q && xokL q) = true := by decide +kernel
def e_X11_back__17_3 : List xI := [(23, .aload_n 0, 1, .null), (24, .aload_n 1, 1, .null), (25, .bipush 18, 2, .int 18), (27, .iaload, 1, .null), (28, .putfield 13, 3, .null)]
theorem e_X11_back__17_3_k : e_X11_back__17_3.all (fun q => xokB cX11_back q && xokL q) = true := by decide +kernel
def e_X11_back__17_4 : List xI := [(8, .aload_n 0, 1, .null), (9, .getfield 7, 3, .null), (12, .iload_n 2, 1, .null), (13, .aload_n 1, 1, .null), (14, .iload_n 2, 1, .null), (15, .iaload, 1, .null), (16, .iastore, 1, .null), (17, .iinc 2 1, 3, .null)]
theorem e_X11_back__17_4_k : e_X11_back__17_4.all (fun q => xokB cX11_back q && xokL q) = true := by decide +kernel
abbrev P_X11_back__17 (r : St) (L : Nat → Nat → Int64) : Option Value → xG → Prop := fun v σ' => PoV r L v σ' ∧ Inv INVM r
abbrev R_X11_back__17 : Room := { frames := 0, cells := 0, slots := 0, locals := 0 }
abbrev C_X11_back__17 (l : Launch) (r : St) (L : Nat → Nat → Int64) (V : XJ) : Prop := XC l yX11_back.cls yX11_back.name cX11_back 3 R_X11_back__17 0 0 fl_X11 kc_X11 LAY.length (xfin none LAY (P_X11_back__17 r L)) V
def f_X11_back__17_2 : Nat → Int32 → St → St
  | 0, x2, M => M
  | n + 1, x2, M => (if 18 ≤ x2 then (xup M 14 2 (M 17 18)) else f_X11_back__17_2 n (x2 + 1) (xup M 15 x2.toNatClampNeg (M 17 x2.toNatClampNeg)))
def f_X11_back__17 (M : St) : St := f_X11_back__17_2 ((((18 : Int32)).toInt - (0 : Int32).toInt).toNat + 1) 0 M
set_option maxRecDepth 20000 in
set_option maxHeartbeats 4000000 in
theorem b_X11_back__17_2 {l : Launch} {L : Nat → Nat → Int64} {V : XJ} (r : St) (C : C_X11_back__17 l r L V) : ∀ (n : Nat) (x2 : Int32) (M : St), xrg 0 18 x2 → Inv INVM M → (((18 : Int32)).toInt - x2.toInt).toNat < n → f_X11_back__17_2 n x2 M = r → V 0 0 2 [(0, .ref 14), (1, .ref 17), (2, .int x2)] [] LAY (M, L) := by
  intro n
  induction n with
  | zero => intro x2 M  wx2 hI hm; exact absurd hm (Nat.not_lt_zero _)
  | succ n ih =>
    intro x2 M  wx2 hI hm h
    unfold f_X11_back__17_2 at h
    refine x_run C e_X11_back__17_2 e_X11_back__17_2_k (pc' := 5) (lv' := [(0, .ref 14), (1, .ref 17), (2, .int x2)]) (st' := [.int 18, .int x2]) (σ' := (M, L)) rfl ⟨trivial, trivial, trivial⟩ ?_
    refine x_icmp_ge C (show decode cX11_back 5 = .ok (.if_icmp .ge 18, 3) from by decide +kernel) (tgt := 23) (by decide) (fun c1 => ?_) (fun c1 => ?_)
    · rw [if_pos c1] at h
      have g2 : xrg 18 18 x2 := (x_c_le (x_rgc (x := 18) (k := 18) (by decide)) wx2 c1).2
      refine x_run C e_X11_back__17_3 e_X11_back__17_3_k (pc' := 31) (lv' := [(0, .ref 14), (1, .ref 17), (2, .int x2)]) (st' := []) (σ' := ((xup M 14 2 (M 17 18)), L)) rfl ⟨trivial, trivial, trivial, (x_rgv (x_rgc (x := 18) (k := 18) (by decide)) (by decide) (by decide)), trivial, trivial⟩ ?_
      have hI3 : Inv INVM (xup M 14 2 (M 17 18)) := (hI.fld 14 2 (M 17 18) (by decide))
      subst h
      exact x_vret C (show decode cX11_back 31 = .ok (.return_, 1) from by decide +kernel) (x_finV ⟨⟨rfl, rfl⟩, hI3⟩) (Nat.le_refl 0) (Nat.le_refl 0)
    · rw [if_neg c1] at h
      have g4 : xrg 0 17 x2 := (x_c_nle (x_rgc (x := 18) (k := 18) (by decide)) wx2 c1).2
      have hk5 := x_meas (x_nle c1) hm
      refine x_run C e_X11_back__17_4 e_X11_back__17_4_k (pc' := 20) (lv' := [(2, .int (x2 + 1)), (0, .ref 14), (1, .ref 17)]) (st' := []) (σ' := ((xup M 15 x2.toNatClampNeg (M 17 x2.toNatClampNeg)), L)) rfl ⟨trivial, trivial, trivial, trivial, trivial, (x_rgv g4 (by decide) (by decide)), (x_rgv g4 (by decide) (by decide)), trivial, trivial⟩ ?_
      have hI6 : Inv INVM (xup M 15 x2.toNatClampNeg (M 17 x2.toNatClampNeg)) := (hI.arr 15 (x2.toNatClampNeg) (M 17 x2.toNatClampNeg) (by decide))
      refine x_goto C (show decode cX11_back 20 = .ok (.goto (-18), 3) from by decide +kernel) (tgt := 2) (by decide) ?_
      refine x_lv C [1, 2, 0] rfl ?_
      exact ih (x2 + 1) (xup M 15 x2.toNatClampNeg (M 17 x2.toNatClampNeg)) (x_rgw (x_rg_add g4 (x_rgc (x := 1) (k := 1) (by decide)) (by decide) (by decide)) (lo' := 0) (hi' := 18) (by decide) (by decide)) hI6 (hk5) h
set_option maxRecDepth 20000 in
set_option maxHeartbeats 4000000 in
theorem k_X11_back__17 (l : Launch) (M : St) (L : Nat → Nat → Int64) (hI : Inv INVM M) : XM l yX11_back cX11_back 3 none R_X11_back__17 LAY [.ref 14, .ref 17] (M, L) (P_X11_back__17 (f_X11_back__17 M) L) := by
  refine XM.of (by decide) (Nat.le_of_ble_eq_true rfl) LAY_in cl_ok fl_X11_ok kc_X11_ok (fun V C => ?_)
  obtain ⟨r, h⟩ : ∃ r, f_X11_back__17 M = r := ⟨_, rfl⟩
  rw [h] at C
  change C_X11_back__17 l r L V at C
  unfold f_X11_back__17 at h
  show V 0 0 0 [(0, .ref 14), (1, .ref 17)] [] LAY (M, L)
  refine x_run C e_X11_back__17_1 e_X11_back__17_1_k (pc' := 2) (lv' := [(2, .int 0), (0, .ref 14), (1, .ref 17)]) (st' := []) (σ' := (M, L)) rfl ⟨trivial, trivial, trivial⟩ ?_
  refine x_lv C [1, 2, 0] rfl ?_
  exact b_X11_back__17_2 r C ((((18 : Int32)).toInt - (0 : Int32).toInt).toNat + 1) 0 M (x_rgw (x_rgc (x := 0) (k := 0) (by decide)) (lo' := 0) (hi' := 18) (by decide) (by decide)) hI (Nat.lt_succ_self _) h
-- X11_tried
def e_X11_tried_1 : List xI := [(0, .aload_n 0, 1, .null), (1, .aload_n 0, 1, .null), (2, .getfield 20, 3, .null)]
theorem e_X11_tried_1_k : e_X11_tried_1.all (fun q => xokB cX11_tried q && xokL q) = true := by decide +kernel
def e_X11_tried_2 : List xI := [(8, .aload_n 0, 1, .null), (9, .getfield 13, 3, .null), (12, .istore_n 3, 1, .null), (13, .aload_n 0, 1, .null), (14, .getfield 61, 3, .null), (17, .istore 4, 2, .null), (19, .aload_n 0, 1, .null), (20, .getfield 64, 3, .null), (23, .aload_n 0, 1, .null), (24, .sipush 8192, 3, .int 8192)]
theorem e_X11_tried_2_k : e_X11_tried_2.all (fun q => xokB cX11_tried q && xokL q) = true := by decide +kernel
def e_X11_tried_3 : List xI := [(37, .iconst 0, 1, .int 0)]
theorem e_X11_tried_3_k : e_X11_tried_3.all (fun q => xokB cX11_tried q && xokL q) = true := by decide +kernel
def e_X11_tried_4 : List xI := [(33, .iconst 4, 1, .int 4)]
theorem e_X11_tried_4_k : e_X11_tried_4.all (fun q => xokB cX11_tried q && xokL q) = true := by decide +kernel
def e_X11_tried_5 : List xI := [(38, .iadd, 1, .null), (39, .istore 5, 2, .null), (41, .aload_n 0, 1, .null), (42, .iconst 0, 1, .int 0), (43, .putfield 47, 3, .null), (46, .aload_n 0, 1, .null), (47, .getfield 13, 3, .null), (50, .ldc_w 275, 3, .null), (53, .iand, 1, .null), (54, .sipush 8192, 3, .int 8192), (57, .ior, 1, .null), (58, .istore 6, 2, .null), (60, .aload_n 0, 1, .null), (61, .iload_n 1, 1, .null), (62, .bipush 24, 2, .int 24)]
theorem e_X11_tried_5_k : e_X11_tried_5.all (fun q => xokB cX11_tried q && xokL q) = true := by decide +kernel
def e_X11_tried_6 : List xI := [(67, .iload_n 1, 1, .null), (68, .bipush 32, 2, .int 32)]
theorem e_X11_tried_6_k : e_X11_tried_6.all (fun q => xokB cX11_tried q && xokL q) = true := by decide +kernel
def e_X11_tried_7 : List xI := [(73, .iload 6, 2, .null), (75, .sipush (-1793), 3, .int (-1793)), (78, .iand, 1, .null), (79, .iload_n 1, 1, .null), (80, .bipush 24, 2, .int 24), (82, .isub, 1, .null), (83, .bipush 8, 2, .int 8), (85, .ishl, 1, .null), (86, .ior, 1, .null)]
theorem e_X11_tried_7_k : e_X11_tried_7.all (fun q => xokB cX11_tried q && xokL q) = true := by decide +kernel
def e_X11_tried_8 : List xI := [(90, .iload 6, 2, .null)]
theorem e_X11_tried_8_k : e_X11_tried_8.all (fun q => xokB cX11_tried q && xokL q) = true := by decide +kernel
def e_X11_tried_9 : List xI := [(95, .aload_n 0, 1, .null), (96, .iconst 2, 1, .int 2), (97, .iload_n 2, 1, .null)]
theorem e_X11_tried_9_k : e_X11_tried_9.all (fun q => xokB cX11_tried q && xokL q) = true := by decide +kernel
def e_X11_tried_10 : List xI := [(101, .aload_n 0, 1, .null), (102, .iconst 1, 1, .int 1), (103, .iload_n 3, 1, .null)]
theorem e_X11_tried_10_k : e_X11_tried_10.all (fun q => xokB cX11_tried q && xokL q) = true := by decide +kernel
def e_X11_tried_11 : List xI := [(107, .iload_n 1, 1, .null), (108, .iconst 4, 1, .int 4)]
theorem e_X11_tried_11_k : e_X11_tried_11.all (fun q => xokB cX11_tried q && xokL q) = true := by decide +kernel
def e_X11_tried_12 : List xI := [(112, .aload_n 0, 1, .null), (113, .iconst 1, 1, .int 1), (114, .aload_n 0, 1, .null), (115, .getfield 276, 3, .null)]
theorem e_X11_tried_12_k : e_X11_tried_12.all (fun q => xokB cX11_tried q && xokL q) = true := by decide +kernel
def e_X11_tried_13 : List xI := [(121, .aload_n 0, 1, .null), (122, .iconst 2, 1, .int 2), (123, .iload 4, 2, .null)]
theorem e_X11_tried_13_k : e_X11_tried_13.all (fun q => xokB cX11_tried q && xokL q) = true := by decide +kernel
def e_X11_tried_14 : List xI := [(128, .aload_n 0, 1, .null), (129, .iconst 1, 1, .int 1), (130, .iload 5, 2, .null)]
theorem e_X11_tried_14_k : e_X11_tried_14.all (fun q => xokB cX11_tried q && xokL q) = true := by decide +kernel
def e_X11_tried_15 : List xI := [(135, .aload_n 0, 1, .null), (136, .iconst 4, 1, .int 4), (137, .iload_n 1, 1, .null), (138, .imul, 1, .null), (139, .iconst 2, 1, .int 2), (140, .iconst 1, 1, .int 1)]
theorem e_X11_tried_15_k : e_X11_tried_15.all (fun q => xokB cX11_tried q && xokL q) = true := by decide +kernel
def e_X11_tried_16 : List xI := [(144, .istore 7, 2, .null), (146, .aload_n 0, 1, .null), (147, .getfield 47, 3, .null)]
theorem e_X11_tried_16_k : e_X11_tried_16.all (fun q => xokB cX11_tried q && xokL q) = true := by decide +kernel
def e_X11_tried_17 : List xI := [(174, .aload_n 0, 1, .null), (175, .aload_n 0, 1, .null), (176, .getfield 20, 3, .null)]
theorem e_X11_tried_17_k : e_X11_tried_17.all (fun q => xokB cX11_tried q && xokL q) = true := by decide +kernel
def e_X11_tried_18 : List xI := [(182, .aload_n 0, 1, .null), (183, .iload_n 1, 1, .null), (184, .iconst 4, 1, .int 4)]
theorem e_X11_tried_18_k : e_X11_tried_18.all (fun q => xokB cX11_tried q && xokL q) = true := by decide +kernel
def e_X11_tried_19 : List xI := [(192, .iconst 0, 1, .int 0)]
theorem e_X11_tried_19_k : e_X11_tried_19.all (fun q => xokB cX11_tried q && xokL q) = true := by decide +kernel
def e_X11_tried_20 : List xI := [(188, .iconst 1, 1, .int 1)]
theorem e_X11_tried_20_k : e_X11_tried_20.all (fun q => xokB cX11_tried q && xokL q) = true := by decide +kernel
def e_X11_tried_21 : List xI := [(153, .aload_n 0, 1, .null), (154, .getfield 7, 3, .null), (157, .bipush 17, 2, .int 17), (159, .iload 7, 2, .null), (161, .iastore, 1, .null), (162, .aload_n 0, 1, .null), (163, .getfield 39, 3, .null), (166, .iload_n 1, 1, .null), (167, .dup2, 1, .null), (168, .iaload, 1, .null), (169, .iconst 1, 1, .int 1), (170, .iadd, 1, .null), (171, .iastore, 1, .null), (172, .iconst 0, 1, .int 0)]
theorem e_X11_tried_21_k : e_X11_tried_21.all (fun q => xokB cX11_tried q && xokL q) = true := by decide +kernel
def e_X11_tried_22 : List xI := [(193, .putfield 23, 3, .null), (196, .aload_n 0, 1, .null), (197, .getfield 23, 3, .null)]
theorem e_X11_tried_22_k : e_X11_tried_22.all (fun q => xokB cX11_tried q && xokL q) = true := by decide +kernel
def e_X11_tried_23 : List xI := [(207, .aload_n 0, 1, .null), (208, .getfield 47, 3, .null)]
theorem e_X11_tried_23_k : e_X11_tried_23.all (fun q => xokB cX11_tried q && xokL q) = true := by decide +kernel
def e_X11_tried_24 : List xI := [(203, .iconst 0, 1, .int 0)]
theorem e_X11_tried_24_k : e_X11_tried_24.all (fun q => xokB cX11_tried q && xokL q) = true := by decide +kernel
abbrev P_X11_tried (r : Int32 × St) (L : Nat → Nat → Int64) : Option Value → xG → Prop := fun v σ' => PoI r.1 r.2 L v σ' ∧ xrg 0 3 r.1 ∧ Inv INVM r.2
abbrev R_X11_tried : Room := { frames := 4, cells := 0, slots := 0, locals := 96 }
abbrev C_X11_tried (l : Launch) (r : Int32 × St) (L : Nat → Nat → Int64) (V : XJ) : Prop := XC l yX11_tried.cls yX11_tried.name cX11_tried 8 R_X11_tried 0 0 fl_X11 kc_X11 LAY.length (xfin (some .int) LAY (P_X11_tried r L)) V
def f_X11_tried_193 (s0 : Int32) (M : St) : Int32 × St := (if s0 = 0 then ((M 14 20), (xup M 14 5 s0)) else (0, (xup M 14 5 s0)))
def f_X11_tried_135 (x1 : Int32) (M : St) : Int32 × St := (xb (f_X11_read (4 * x1) 2 1 M) fun q38 => (if (q38.2 14 20) = 0 then (0, (xup (xup q38.2 15 17 q38.1) 21 x1.toNatClampNeg ((q38.2 21 x1.toNatClampNeg) + 1))) else (xb (f_X11_back__17  q38.2) fun q43 => (if 4 ≤ x1 then f_X11_tried_193 0 q43 else f_X11_tried_193 1 q43))))
def f_X11_tried_92 (x1 : Int32) (x2 : Int32) (x3 : Int32) (x4 : Int32) (x5 : Int32) (s0 : Int32) (M : St) : Int32 × St := (xb (f_X11_setStatus s0 M) fun q17 => (xb (f_X11_push 2 x2 q17) fun q20 => (xb (f_X11_push 1 x3 q20) fun q23 => (if 4 ≤ x1 then f_X11_tried_135 x1 q23 else (xb (f_X11_push 1 (q23 14 19) q23) fun q29 => (xb (f_X11_push 2 x4 q29) fun q32 => (xb (f_X11_push 1 x5 q32) fun q35 => f_X11_tried_135 x1 q35)))))))
def f_X11_tried_90 (x1 : Int32) (x2 : Int32) (x3 : Int32) (x4 : Int32) (x5 : Int32) (x6 : Int32) (M : St) : Int32 × St := f_X11_tried_92 x1 x2 x3 x4 x5 x6 M
def f_X11_tried_38 (x1 : Int32) (x2 : Int32) (x3 : Int32) (x4 : Int32) (s0 : Int32) (s1 : Int32) (M : St) : Int32 × St := (if x1 ≤ 24 then f_X11_tried_90 x1 x2 x3 x4 (s1 + s0) (((M 14 2) &&& (-32769)) ||| 8192) (xup M 14 20 0) else (if 32 ≤ x1 then f_X11_tried_90 x1 x2 x3 x4 (s1 + s0) (((M 14 2) &&& (-32769)) ||| 8192) (xup M 14 20 0) else f_X11_tried_92 x1 x2 x3 x4 (s1 + s0) (((((M 14 2) &&& (-32769)) ||| 8192) &&& (-1793)) ||| ((x1 - 24) <<< ((8 : Int32) &&& 31))) (xup M 14 20 0)))
def f_X11_tried (a1 : Int32) (a2 : Int32) (M : St) : Int32 × St := (xb (f_X11_keep__17  M) fun q1 => (if (f_X11_has 8192 q1) = 0 then f_X11_tried_38 a1 a2 (q1 14 2) (q1 14 21) 0 (q1 14 22) q1 else f_X11_tried_38 a1 a2 (q1 14 2) (q1 14 21) 4 (q1 14 22) q1))
set_option maxRecDepth 20000 in
set_option maxHeartbeats 4000000 in
theorem b_X11_tried_193 {l : Launch} {L : Nat → Nat → Int64} {V : XJ} (r : Int32 × St) (C : C_X11_tried l r L V) (s0 : Int32) (M : St) (ws0 : xrg 0 1 s0) (hI : Inv INVM M) (h : f_X11_tried_193 s0 M = r) : V 0 0 193 [(0, .ref 14)] [.int s0, .ref 14] LAY (M, L) := by
  unfold f_X11_tried_193 at h
  refine x_run C e_X11_tried_22 e_X11_tried_22_k (pc' := 200) (lv' := [(0, .ref 14)]) (st' := [.int s0]) (σ' := ((xup M 14 5 s0), L)) rfl ⟨(x_rgb ws0), trivial, trivial, trivial⟩ ?_
  have hI51 : Inv INVM (xup M 14 5 s0) := (hI.fld 14 5 s0 (by decide))
  refine x_if_eq C (show decode cX11_tried 200 = .ok (.ifCond .eq 7, 3) from by decide +kernel) (tgt := 207) (by decide) (fun c52 => ?_) (fun c52 => ?_)
  · rw [if_pos c52] at h
    have g53 : xrg 0 0 s0 := (x_c_eq ws0 (x_rgc (x := 0) (k := 0) (by decide)) c52).1
    refine x_run C e_X11_tried_23 e_X11_tried_23_k (pc' := 211) (lv' := [(0, .ref 14)]) (st' := [.int (M 14 20)]) (σ' := ((xup M 14 5 s0), L)) rfl ⟨trivial, trivial, trivial⟩ ?_
    subst h
    exact x_iret C (show decode cX11_tried 211 = .ok (.ireturn, 1) from by decide +kernel) (x_finI rfl ⟨⟨rfl, rfl⟩, (hI.at 5 rfl), hI51⟩) (Nat.le_refl 0) (Nat.le_refl 0)
  · rw [if_neg c52] at h
    have g54 : xrg 1 1 s0 := (x_c_ne ws0 (by decide) c52)
    refine x_run C e_X11_tried_24 e_X11_tried_24_k (pc' := 204) (lv' := [(0, .ref 14)]) (st' := [.int 0]) (σ' := ((xup M 14 5 s0), L)) rfl ⟨trivial, trivial⟩ ?_
    refine x_goto C (show decode cX11_tried 204 = .ok (.goto 7, 3) from by decide +kernel) (tgt := 211) (by decide) ?_
    subst h
    exact x_iret C (show decode cX11_tried 211 = .ok (.ireturn, 1) from by decide +kernel) (x_finI rfl ⟨⟨rfl, rfl⟩, (x_rgw (x_rgc (x := 0) (k := 0) (by decide)) (lo' := 0) (hi' := 3) (by decide) (by decide)), hI51⟩) (Nat.le_refl 0) (Nat.le_refl 0)
set_option maxRecDepth 20000 in
set_option maxHeartbeats 4000000 in
theorem b_X11_tried_135 {l : Launch} {L : Nat → Nat → Int64} {V : XJ} (r : Int32 × St) (C : C_X11_tried l r L V) (x1 : Int32) (M : St) (wx1 : xrg 1 47 x1) (hI : Inv INVM M) (h : f_X11_tried_135 x1 M = r) : V 0 0 135 [(0, .ref 14), (1, .int x1)] [] LAY (M, L) := by
  unfold f_X11_tried_135 at h
  refine x_run C e_X11_tried_15 e_X11_tried_15_k (pc' := 141) (lv' := [(0, .ref 14), (1, .int x1)]) (st' := [.int 1, .int 2, .int (4 * x1), .ref 14]) (σ' := (M, L)) rfl ⟨trivial, trivial, trivial, trivial, trivial, trivial, trivial⟩ ?_
  refine x_callV C (k := 14) (ci := 8) (rest := []) (avs := [.int (4 * x1), .int 2, .int 1]) (k_X11_read l (4 * x1) 2 1 M L hI) yoX11_read ml_X11_95 rfl rfl rfl rfl ⟨Nat.zero_le _, Nat.zero_le _⟩ (show decode cX11_tried 141 = .ok (.invokevirtual 95, 3) from by decide +kernel) rfl (fun v σ' hPo => ?_)
  obtain ⟨⟨rfl, rfl⟩, g39, hI40⟩ := hPo
  generalize hq38 : f_X11_read (4 * x1) 2 1 M = q38 at h g39 hI40 ⊢
  obtain ⟨r38, M38⟩ := q38
  have h := xb_eq h
  try dsimp only at h g39 hI40
  show V 0 0 144 [(0, .ref 14), (1, .int x1)] [.int r38] LAY (M38, L)
  refine x_run C e_X11_tried_16 e_X11_tried_16_k (pc' := 150) (lv' := [(7, .int r38), (0, .ref 14), (1, .int x1)]) (st' := [.int (M38 14 20)]) (σ' := (M38, L)) rfl ⟨trivial, trivial, trivial, trivial⟩ ?_
  refine x_if_ne C (show decode cX11_tried 150 = .ok (.ifCond .ne 24, 3) from by decide +kernel) (tgt := 174) (by decide) (fun c41 => ?_) (fun c41 => ?_)
  · rw [if_neg c41] at h
    have g42 : xrg 1 3 (M38 14 20) := (x_c_ne (hI40.at 5 rfl) (by decide) c41)
    refine x_run C e_X11_tried_17 e_X11_tried_17_k (pc' := 179) (lv' := [(7, .int r38), (0, .ref 14), (1, .int x1)]) (st' := [.ref 17, .ref 14]) (σ' := (M38, L)) rfl ⟨trivial, trivial, trivial, trivial⟩ ?_
    refine x_callV C (k := 14) (ci := 8) (rest := []) (avs := [.ref 17]) (k_X11_back__17 l  M38 L hI40) yoX11_back ml_X11_279 rfl rfl rfl rfl ⟨Nat.zero_le _, Nat.zero_le _⟩ (show decode cX11_tried 179 = .ok (.invokevirtual 279, 3) from by decide +kernel) rfl (fun v σ' hPo => ?_)
    obtain ⟨⟨rfl, rfl⟩, hI45⟩ := hPo
    generalize hq43 : f_X11_back__17  M38 = q43 at h hI45 ⊢
    have h := xb_eq h
    show V 0 0 182 [(7, .int r38), (0, .ref 14), (1, .int x1)] [] LAY (q43, L)
    refine x_run C e_X11_tried_18 e_X11_tried_18_k (pc' := 185) (lv' := [(7, .int r38), (0, .ref 14), (1, .int x1)]) (st' := [.int 4, .int x1, .ref 14]) (σ' := (q43, L)) rfl ⟨trivial, trivial, trivial, trivial⟩ ?_
    refine x_icmp_ge C (show decode cX11_tried 185 = .ok (.if_icmp .ge 7, 3) from by decide +kernel) (tgt := 192) (by decide) (fun c46 => ?_) (fun c46 => ?_)
    · rw [if_pos c46] at h
      have g47 : xrg 4 47 x1 := (x_c_le (x_rgc (x := 4) (k := 4) (by decide)) wx1 c46).2
      refine x_run C e_X11_tried_19 e_X11_tried_19_k (pc' := 193) (lv' := [(7, .int r38), (0, .ref 14), (1, .int x1)]) (st' := [.int 0, .ref 14]) (σ' := (q43, L)) rfl ⟨trivial, trivial⟩ ?_
      refine x_lv C [1] rfl ?_
      exact b_X11_tried_193 r C 0 q43 (x_rgw (x_rgc (x := 0) (k := 0) (by decide)) (lo' := 0) (hi' := 1) (by decide) (by decide)) hI45 h
    · rw [if_neg c46] at h
      have g48 : xrg 1 3 x1 := (x_c_nle (x_rgc (x := 4) (k := 4) (by decide)) wx1 c46).2
      refine x_run C e_X11_tried_20 e_X11_tried_20_k (pc' := 189) (lv' := [(7, .int r38), (0, .ref 14), (1, .int x1)]) (st' := [.int 1, .ref 14]) (σ' := (q43, L)) rfl ⟨trivial, trivial⟩ ?_
      refine x_goto C (show decode cX11_tried 189 = .ok (.goto 4, 3) from by decide +kernel) (tgt := 193) (by decide) ?_
      refine x_lv C [1] rfl ?_
      exact b_X11_tried_193 r C 1 q43 (x_rgw (x_rgc (x := 1) (k := 1) (by decide)) (lo' := 0) (hi' := 1) (by decide) (by decide)) hI45 h
  · rw [if_pos c41] at h
    have g49 : xrg 0 0 (M38 14 20) := (x_c_eq (hI40.at 5 rfl) (x_rgc (x := 0) (k := 0) (by decide)) c41).1
    refine x_run C e_X11_tried_21 e_X11_tried_21_k (pc' := 173) (lv' := [(7, .int r38), (0, .ref 14), (1, .int x1)]) (st' := [.int 0]) (σ' := ((xup (xup M38 15 17 r38) 21 x1.toNatClampNeg ((M38 21 x1.toNatClampNeg) + 1)), L)) rfl ⟨trivial, trivial, trivial, trivial, (x_rgv (x_rgc (x := 17) (k := 17) (by decide)) (by decide) (by decide)), trivial, trivial, trivial, trivial, (x_rgv wx1 (by decide) (by decide)), trivial, trivial, (x_rgv wx1 (by decide) (by decide)), trivial, trivial⟩ ?_
    have hI50 : Inv INVM (xup (xup M38 15 17 r38) 21 x1.toNatClampNeg ((M38 21 x1.toNatClampNeg) + 1)) := ((hI40.arr 15 17 r38 (by decide)).arr 21 (x1.toNatClampNeg) ((M38 21 x1.toNatClampNeg) + 1) (by decide))
    subst h
    exact x_iret C (show decode cX11_tried 173 = .ok (.ireturn, 1) from by decide +kernel) (x_finI rfl ⟨⟨rfl, rfl⟩, (x_rgw (x_rgc (x := 0) (k := 0) (by decide)) (lo' := 0) (hi' := 3) (by decide) (by decide)), hI50⟩) (Nat.le_refl 0) (Nat.le_refl 0)
set_option maxRecDepth 20000 in
set_option maxHeartbeats 4000000 in
theorem b_X11_tried_92 {l : Launch} {L : Nat → Nat → Int64} {V : XJ} (r : Int32 × St) (C : C_X11_tried l r L V) (x1 : Int32) (x2 : Int32) (x3 : Int32) (x4 : Int32) (x5 : Int32) (s0 : Int32) (M : St) (wx1 : xrg 1 47 x1) (hI : Inv INVM M) (h : f_X11_tried_92 x1 x2 x3 x4 x5 s0 M = r) : V 0 0 92 [(0, .ref 14), (1, .int x1), (2, .int x2), (3, .int x3), (4, .int x4), (5, .int x5)] [.int s0, .ref 14] LAY (M, L) := by
  unfold f_X11_tried_92 at h
  refine x_callV C (k := 14) (ci := 8) (rest := []) (avs := [.int s0]) (k_X11_setStatus l s0 M L hI) yoX11_setStatus ml_X11_202 rfl rfl rfl rfl ⟨Nat.zero_le _, Nat.zero_le _⟩ (show decode cX11_tried 92 = .ok (.invokevirtual 202, 3) from by decide +kernel) rfl (fun v σ' hPo => ?_)
  obtain ⟨⟨rfl, rfl⟩, hI19⟩ := hPo
  generalize hq17 : f_X11_setStatus s0 M = q17 at h hI19 ⊢
  have h := xb_eq h
  show V 0 0 95 [(0, .ref 14), (1, .int x1), (2, .int x2), (3, .int x3), (4, .int x4), (5, .int x5)] [] LAY (q17, L)
  refine x_run C e_X11_tried_9 e_X11_tried_9_k (pc' := 98) (lv' := [(0, .ref 14), (1, .int x1), (2, .int x2), (3, .int x3), (4, .int x4), (5, .int x5)]) (st' := [.int x2, .int 2, .ref 14]) (σ' := (q17, L)) rfl ⟨trivial, trivial, trivial, trivial⟩ ?_
  refine x_callV C (k := 14) (ci := 8) (rest := []) (avs := [.int 2, .int x2]) (k_X11_push l 2 x2 q17 L hI19) yoX11_push ml_X11_209 rfl rfl rfl rfl ⟨Nat.zero_le _, Nat.zero_le _⟩ (show decode cX11_tried 98 = .ok (.invokevirtual 209, 3) from by decide +kernel) rfl (fun v σ' hPo => ?_)
  obtain ⟨⟨rfl, rfl⟩, hI22⟩ := hPo
  generalize hq20 : f_X11_push 2 x2 q17 = q20 at h hI22 ⊢
  have h := xb_eq h
  show V 0 0 101 [(0, .ref 14), (1, .int x1), (2, .int x2), (3, .int x3), (4, .int x4), (5, .int x5)] [] LAY (q20, L)
  refine x_run C e_X11_tried_10 e_X11_tried_10_k (pc' := 104) (lv' := [(0, .ref 14), (1, .int x1), (2, .int x2), (3, .int x3), (4, .int x4), (5, .int x5)]) (st' := [.int x3, .int 1, .ref 14]) (σ' := (q20, L)) rfl ⟨trivial, trivial, trivial, trivial⟩ ?_
  refine x_callV C (k := 14) (ci := 8) (rest := []) (avs := [.int 1, .int x3]) (k_X11_push l 1 x3 q20 L hI22) yoX11_push ml_X11_209 rfl rfl rfl rfl ⟨Nat.zero_le _, Nat.zero_le _⟩ (show decode cX11_tried 104 = .ok (.invokevirtual 209, 3) from by decide +kernel) rfl (fun v σ' hPo => ?_)
  obtain ⟨⟨rfl, rfl⟩, hI25⟩ := hPo
  generalize hq23 : f_X11_push 1 x3 q20 = q23 at h hI25 ⊢
  have h := xb_eq h
  show V 0 0 107 [(0, .ref 14), (1, .int x1), (2, .int x2), (3, .int x3), (4, .int x4), (5, .int x5)] [] LAY (q23, L)
  refine x_run C e_X11_tried_11 e_X11_tried_11_k (pc' := 109) (lv' := [(0, .ref 14), (1, .int x1), (2, .int x2), (3, .int x3), (4, .int x4), (5, .int x5)]) (st' := [.int 4, .int x1]) (σ' := (q23, L)) rfl ⟨trivial, trivial, trivial⟩ ?_
  refine x_icmp_ge C (show decode cX11_tried 109 = .ok (.if_icmp .ge 26, 3) from by decide +kernel) (tgt := 135) (by decide) (fun c26 => ?_) (fun c26 => ?_)
  · rw [if_pos c26] at h
    have g27 : xrg 4 47 x1 := (x_c_le (x_rgc (x := 4) (k := 4) (by decide)) wx1 c26).2
    refine x_lv C [0, 1] rfl ?_
    exact b_X11_tried_135 r C x1 q23 (x_rgw g27 (lo' := 1) (hi' := 47) (by decide) (by decide)) hI25 h
  · rw [if_neg c26] at h
    have g28 : xrg 1 3 x1 := (x_c_nle (x_rgc (x := 4) (k := 4) (by decide)) wx1 c26).2
    refine x_run C e_X11_tried_12 e_X11_tried_12_k (pc' := 118) (lv' := [(0, .ref 14), (1, .int x1), (2, .int x2), (3, .int x3), (4, .int x4), (5, .int x5)]) (st' := [.int (q23 14 19), .int 1, .ref 14]) (σ' := (q23, L)) rfl ⟨trivial, trivial, trivial, trivial, trivial⟩ ?_
    refine x_callV C (k := 14) (ci := 8) (rest := []) (avs := [.int 1, .int (q23 14 19)]) (k_X11_push l 1 (q23 14 19) q23 L hI25) yoX11_push ml_X11_209 rfl rfl rfl rfl ⟨Nat.zero_le _, Nat.zero_le _⟩ (show decode cX11_tried 118 = .ok (.invokevirtual 209, 3) from by decide +kernel) rfl (fun v σ' hPo => ?_)
    obtain ⟨⟨rfl, rfl⟩, hI31⟩ := hPo
    generalize hq29 : f_X11_push 1 (q23 14 19) q23 = q29 at h hI31 ⊢
    have h := xb_eq h
    show V 0 0 121 [(0, .ref 14), (1, .int x1), (2, .int x2), (3, .int x3), (4, .int x4), (5, .int x5)] [] LAY (q29, L)
    refine x_run C e_X11_tried_13 e_X11_tried_13_k (pc' := 125) (lv' := [(0, .ref 14), (1, .int x1), (2, .int x2), (3, .int x3), (4, .int x4), (5, .int x5)]) (st' := [.int x4, .int 2, .ref 14]) (σ' := (q29, L)) rfl ⟨trivial, trivial, trivial, trivial⟩ ?_
    refine x_callV C (k := 14) (ci := 8) (rest := []) (avs := [.int 2, .int x4]) (k_X11_push l 2 x4 q29 L hI31) yoX11_push ml_X11_209 rfl rfl rfl rfl ⟨Nat.zero_le _, Nat.zero_le _⟩ (show decode cX11_tried 125 = .ok (.invokevirtual 209, 3) from by decide +kernel) rfl (fun v σ' hPo => ?_)
    obtain ⟨⟨rfl, rfl⟩, hI34⟩ := hPo
    generalize hq32 : f_X11_push 2 x4 q29 = q32 at h hI34 ⊢
    have h := xb_eq h
    show V 0 0 128 [(0, .ref 14), (1, .int x1), (2, .int x2), (3, .int x3), (4, .int x4), (5, .int x5)] [] LAY (q32, L)
    refine x_run C e_X11_tried_14 e_X11_tried_14_k (pc' := 132) (lv' := [(0, .ref 14), (1, .int x1), (2, .int x2), (3, .int x3), (4, .int x4), (5, .int x5)]) (st' := [.int x5, .int 1, .ref 14]) (σ' := (q32, L)) rfl ⟨trivial, trivial, trivial, trivial⟩ ?_
    refine x_callV C (k := 14) (ci := 8) (rest := []) (avs := [.int 1, .int x5]) (k_X11_push l 1 x5 q32 L hI34) yoX11_push ml_X11_209 rfl rfl rfl rfl ⟨Nat.zero_le _, Nat.zero_le _⟩ (show decode cX11_tried 132 = .ok (.invokevirtual 209, 3) from by decide +kernel) rfl (fun v σ' hPo => ?_)
    obtain ⟨⟨rfl, rfl⟩, hI37⟩ := hPo
    generalize hq35 : f_X11_push 1 x5 q32 = q35 at h hI37 ⊢
    have h := xb_eq h
    show V 0 0 135 [(0, .ref 14), (1, .int x1), (2, .int x2), (3, .int x3), (4, .int x4), (5, .int x5)] [] LAY (q35, L)
    refine x_lv C [0, 1] rfl ?_
    exact b_X11_tried_135 r C x1 q35 (x_rgw g28 (lo' := 1) (hi' := 47) (by decide) (by decide)) hI37 h
set_option maxRecDepth 20000 in
set_option maxHeartbeats 4000000 in
theorem b_X11_tried_90 {l : Launch} {L : Nat → Nat → Int64} {V : XJ} (r : Int32 × St) (C : C_X11_tried l r L V) (x1 : Int32) (x2 : Int32) (x3 : Int32) (x4 : Int32) (x5 : Int32) (x6 : Int32) (M : St) (wx1 : xrg 1 47 x1) (hI : Inv INVM M) (h : f_X11_tried_90 x1 x2 x3 x4 x5 x6 M = r) : V 0 0 90 [(0, .ref 14), (1, .int x1), (2, .int x2), (3, .int x3), (4, .int x4), (5, .int x5), (6, .int x6)] [.ref 14] LAY (M, L) := by
  unfold f_X11_tried_90 at h
  refine x_run C e_X11_tried_8 e_X11_tried_8_k (pc' := 92) (lv' := [(0, .ref 14), (1, .int x1), (2, .int x2), (3, .int x3), (4, .int x4), (5, .int x5), (6, .int x6)]) (st' := [.int x6, .ref 14]) (σ' := (M, L)) rfl ⟨trivial, trivial⟩ ?_
  refine x_lv C [0, 1, 2, 3, 4, 5] rfl ?_
  exact b_X11_tried_92 r C x1 x2 x3 x4 x5 x6 M wx1 hI h
set_option maxRecDepth 20000 in
set_option maxHeartbeats 4000000 in
theorem b_X11_tried_38 {l : Launch} {L : Nat → Nat → Int64} {V : XJ} (r : Int32 × St) (C : C_X11_tried l r L V) (x1 : Int32) (x2 : Int32) (x3 : Int32) (x4 : Int32) (s0 : Int32) (s1 : Int32) (M : St) (wx1 : xrg 1 47 x1) (ws0 : xrg 0 4 s0) (hI : Inv INVM M) (h : f_X11_tried_38 x1 x2 x3 x4 s0 s1 M = r) : V 0 0 38 [(0, .ref 14), (1, .int x1), (2, .int x2), (3, .int x3), (4, .int x4)] [.int s0, .int s1] LAY (M, L) := by
  unfold f_X11_tried_38 at h
  refine x_run C e_X11_tried_5 e_X11_tried_5_k (pc' := 64) (lv' := [(6, .int (((M 14 2) &&& (-32769)) ||| 8192)), (5, .int (s1 + s0)), (0, .ref 14), (1, .int x1), (2, .int x2), (3, .int x3), (4, .int x4)]) (st' := [.int 24, .int x1, .ref 14]) (σ' := ((xup M 14 20 0), L)) rfl ⟨trivial, trivial, trivial, trivial, trivial, trivial, trivial, trivial, trivial, trivial, trivial, trivial, trivial, trivial, trivial, trivial⟩ ?_
  have hI10 : Inv INVM (xup M 14 20 0) := (hI.set 14 20 (x_rgc (x := 0) (k := 0) (by decide)) (by decide))
  refine x_icmp_le C (show decode cX11_tried 64 = .ok (.if_icmp .le 26, 3) from by decide +kernel) (tgt := 90) (by decide) (fun c11 => ?_) (fun c11 => ?_)
  · rw [if_pos c11] at h
    have g12 : xrg 1 24 x1 := (x_c_le wx1 (x_rgc (x := 24) (k := 24) (by decide)) c11).1
    refine x_lv C [2, 3, 4, 5, 6, 1, 0] rfl ?_
    exact b_X11_tried_90 r C x1 x2 x3 x4 (s1 + s0) (((M 14 2) &&& (-32769)) ||| 8192) (xup M 14 20 0) (x_rgw g12 (lo' := 1) (hi' := 47) (by decide) (by decide)) hI10 h
  · rw [if_neg c11] at h
    have g13 : xrg 25 47 x1 := (x_c_nle wx1 (x_rgc (x := 24) (k := 24) (by decide)) c11).1
    refine x_run C e_X11_tried_6 e_X11_tried_6_k (pc' := 70) (lv' := [(6, .int (((M 14 2) &&& (-32769)) ||| 8192)), (5, .int (s1 + s0)), (0, .ref 14), (1, .int x1), (2, .int x2), (3, .int x3), (4, .int x4)]) (st' := [.int 32, .int x1, .ref 14]) (σ' := ((xup M 14 20 0), L)) rfl ⟨trivial, trivial, trivial⟩ ?_
    refine x_icmp_ge C (show decode cX11_tried 70 = .ok (.if_icmp .ge 20, 3) from by decide +kernel) (tgt := 90) (by decide) (fun c14 => ?_) (fun c14 => ?_)
    · rw [if_pos c14] at h
      have g15 : xrg 32 47 x1 := (x_c_le (x_rgc (x := 32) (k := 32) (by decide)) g13 c14).2
      refine x_lv C [2, 3, 4, 5, 6, 1, 0] rfl ?_
      exact b_X11_tried_90 r C x1 x2 x3 x4 (s1 + s0) (((M 14 2) &&& (-32769)) ||| 8192) (xup M 14 20 0) (x_rgw g15 (lo' := 1) (hi' := 47) (by decide) (by decide)) hI10 h
    · rw [if_neg c14] at h
      have g16 : xrg 25 31 x1 := (x_c_nle (x_rgc (x := 32) (k := 32) (by decide)) g13 c14).2
      refine x_run C e_X11_tried_7 e_X11_tried_7_k (pc' := 87) (lv' := [(6, .int (((M 14 2) &&& (-32769)) ||| 8192)), (5, .int (s1 + s0)), (0, .ref 14), (1, .int x1), (2, .int x2), (3, .int x3), (4, .int x4)]) (st' := [.int (((((M 14 2) &&& (-32769)) ||| 8192) &&& (-1793)) ||| ((x1 - 24) <<< ((8 : Int32) &&& 31))), .ref 14]) (σ' := ((xup M 14 20 0), L)) rfl ⟨trivial, trivial, trivial, trivial, trivial, trivial, trivial, trivial, trivial, trivial⟩ ?_
      refine x_goto C (show decode cX11_tried 87 = .ok (.goto 5, 3) from by decide +kernel) (tgt := 92) (by decide) ?_
      refine x_lv C [2, 3, 4, 5, 6, 1] rfl ?_
      exact b_X11_tried_92 r C x1 x2 x3 x4 (s1 + s0) (((((M 14 2) &&& (-32769)) ||| 8192) &&& (-1793)) ||| ((x1 - 24) <<< ((8 : Int32) &&& 31))) (xup M 14 20 0) (x_rgw g16 (lo' := 1) (hi' := 47) (by decide) (by decide)) hI10 h
set_option maxRecDepth 20000 in
set_option maxHeartbeats 4000000 in
theorem k_X11_tried (l : Launch) (a1 : Int32) (a2 : Int32) (M : St) (L : Nat → Nat → Int64) (hp1 : xrg 1 47 a1) (hI : Inv INVM M) : XM l yX11_tried cX11_tried 8 (some .int) R_X11_tried LAY [.ref 14, .int a1, .int a2] (M, L) (P_X11_tried (f_X11_tried a1 a2 M) L) := by
  refine XM.of (by decide) (Nat.le_of_ble_eq_true rfl) LAY_in cl_ok fl_X11_ok kc_X11_ok (fun V C => ?_)
  obtain ⟨r, h⟩ : ∃ r, f_X11_tried a1 a2 M = r := ⟨_, rfl⟩
  rw [h] at C
  change C_X11_tried l r L V at C
  unfold f_X11_tried at h
  show V 0 0 0 [(0, .ref 14), (1, .int a1), (2, .int a2)] [] LAY (M, L)
  refine x_run C e_X11_tried_1 e_X11_tried_1_k (pc' := 5) (lv' := [(0, .ref 14), (1, .int a1), (2, .int a2)]) (st' := [.ref 17, .ref 14]) (σ' := (M, L)) rfl ⟨trivial, trivial, trivial, trivial⟩ ?_
  refine x_callV C (k := 14) (ci := 8) (rest := []) (avs := [.ref 17]) (k_X11_keep__17 l  M L hI) yoX11_keep ml_X11_271 rfl rfl rfl rfl ⟨Nat.zero_le _, Nat.zero_le _⟩ (show decode cX11_tried 5 = .ok (.invokevirtual 271, 3) from by decide +kernel) rfl (fun v σ' hPo => ?_)
  obtain ⟨⟨rfl, rfl⟩, hI3⟩ := hPo
  generalize hq1 : f_X11_keep__17  M = q1 at h hI3 ⊢
  have h := xb_eq h
  show V 0 0 8 [(0, .ref 14), (1, .int a1), (2, .int a2)] [] LAY (q1, L)
  refine x_run C e_X11_tried_2 e_X11_tried_2_k (pc' := 27) (lv' := [(4, .int (q1 14 21)), (3, .int (q1 14 2)), (0, .ref 14), (1, .int a1), (2, .int a2)]) (st' := [.int 8192, .ref 14, .int (q1 14 22)]) (σ' := (q1, L)) rfl ⟨trivial, trivial, trivial, trivial, trivial, trivial, trivial, trivial, trivial, trivial, trivial⟩ ?_
  refine x_callV C (k := 14) (ci := 8) (rest := [.int (q1 14 22)]) (avs := [.int 8192]) (k_X11_has l 8192 q1 L hI3) yoX11_has ml_X11_55 rfl rfl rfl rfl ⟨Nat.zero_le _, Nat.zero_le _⟩ (show decode cX11_tried 27 = .ok (.invokevirtual 55, 3) from by decide +kernel) rfl (fun v σ' hPo => ?_)
  obtain ⟨⟨rfl, rfl⟩, g5, hI6⟩ := hPo
  show V 0 0 30 [(4, .int (q1 14 21)), (3, .int (q1 14 2)), (0, .ref 14), (1, .int a1), (2, .int a2)] [.int (f_X11_has 8192 q1), .int (q1 14 22)] LAY (q1, L)
  refine x_if_eq C (show decode cX11_tried 30 = .ok (.ifCond .eq 7, 3) from by decide +kernel) (tgt := 37) (by decide) (fun c7 => ?_) (fun c7 => ?_)
  · rw [if_pos c7] at h
    have g8 : xrg 0 0 (f_X11_has 8192 q1) := (x_c_eq g5 (x_rgc (x := 0) (k := 0) (by decide)) c7).1
    refine x_run C e_X11_tried_3 e_X11_tried_3_k (pc' := 38) (lv' := [(4, .int (q1 14 21)), (3, .int (q1 14 2)), (0, .ref 14), (1, .int a1), (2, .int a2)]) (st' := [.int 0, .int (q1 14 22)]) (σ' := (q1, L)) rfl ⟨trivial, trivial⟩ ?_
    refine x_lv C [2, 3, 4, 1, 0] rfl ?_
    exact b_X11_tried_38 r C a1 a2 (q1 14 2) (q1 14 21) 0 (q1 14 22) q1 hp1 (x_rgw (x_rgc (x := 0) (k := 0) (by decide)) (lo' := 0) (hi' := 4) (by decide) (by decide)) hI3 h
  · rw [if_neg c7] at h
    have g9 : xrg 1 1 (f_X11_has 8192 q1) := (x_c_ne g5 (by decide) c7)
    refine x_run C e_X11_tried_4 e_X11_tried_4_k (pc' := 34) (lv' := [(4, .int (q1 14 21)), (3, .int (q1 14 2)), (0, .ref 14), (1, .int a1), (2, .int a2)]) (st' := [.int 4, .int (q1 14 22)]) (σ' := (q1, L)) rfl ⟨trivial, trivial⟩ ?_
    refine x_goto C (show decode cX11_tried 34 = .ok (.goto 4, 3) from by decide +kernel) (tgt := 38) (by decide) ?_
    refine x_lv C [2, 3, 4, 1, 0] rfl ?_
    exact b_X11_tried_38 r C a1 a2 (q1 14 2) (q1 14 21) 4 (q1 14 22) q1 hp1 (x_rgw (x_rgc (x := 4) (k := 4) (by decide)) (lo' := 0) (hi' := 4) (by decide) (by decide)) hI3 h
-- X11_work
def e_X11_work_1 : List xI := [(0, .iload_n 1, 1, .null), (1, .istore_n 3, 1, .null), (2, .iconst 0, 1, .int 0), (3, .istore 4, 2, .null)]
theorem e_X11_work_1_k : e_X11_work_1.all (fun q => xokB cX11_work q && xokL q) = true := by decide +kernel
def e_X11_work_2 : List xI := [(5, .iload 4, 2, .null), (7, .iconst 3, 1, .int 3)]
theorem e_X11_work_2_k : e_X11_work_2.all (fun q => xokB cX11_work q && xokL q) = true := by decide +kernel
def e_X11_work_3 : List xI := [(11, .iload_n 3, 1, .null)]
theorem e_X11_work_3_k : e_X11_work_3.all (fun q => xokB cX11_work q && xokL q) = true := by decide +kernel
def e_X11_work_4 : List xI := [(15, .aload_n 0, 1, .null), (16, .iload_n 3, 1, .null), (17, .iload_n 2, 1, .null)]
theorem e_X11_work_4_k : e_X11_work_4.all (fun q => xokB cX11_work q && xokL q) = true := by decide +kernel
def e_X11_work_5 : List xI := [(21, .istore_n 3, 1, .null), (22, .iinc 4 1, 3, .null)]
theorem e_X11_work_5_k : e_X11_work_5.all (fun q => xokB cX11_work q && xokL q) = true := by decide +kernel
abbrev P_X11_work (r : St) (L : Nat → Nat → Int64) : Option Value → xG → Prop := fun v σ' => PoV r L v σ' ∧ Inv INVM r
abbrev R_X11_work : Room := { frames := 5, cells := 0, slots := 0, locals := 123 }
abbrev C_X11_work (l : Launch) (r : St) (L : Nat → Nat → Int64) (V : XJ) : Prop := XC l yX11_work.cls yX11_work.name cX11_work 5 R_X11_work 0 0 fl_X11 kc_X11 LAY.length (xfin none LAY (P_X11_work r L)) V
def f_X11_work_5 : Nat → Int32 → Int32 → Int32 → St → St
  | 0, x2, x3, x4, M => M
  | n + 1, x2, x3, x4, M => (if 3 ≤ x4 then M else (if x3 = 0 then M else (xb (f_X11_tried x3 x2 M) fun q8 => f_X11_work_5 n x2 q8.1 (x4 + 1) q8.2)))
def f_X11_work (a1 : Int32) (a2 : Int32) (M : St) : St := f_X11_work_5 ((((3 : Int32)).toInt - (0 : Int32).toInt).toNat + 1) a2 a1 0 M
set_option maxRecDepth 20000 in
set_option maxHeartbeats 4000000 in
theorem b_X11_work_5 {l : Launch} {L : Nat → Nat → Int64} {V : XJ} (r : St) (C : C_X11_work l r L V) : ∀ (n : Nat) (x2 : Int32) (x3 : Int32) (x4 : Int32) (M : St), xrg 0 47 x3 → xrg 0 3 x4 → Inv INVM M → (((3 : Int32)).toInt - x4.toInt).toNat < n → f_X11_work_5 n x2 x3 x4 M = r → V 0 0 5 [(0, .ref 14), (2, .int x2), (3, .int x3), (4, .int x4)] [] LAY (M, L) := by
  intro n
  induction n with
  | zero => intro x2 x3 x4 M  wx3 wx4 hI hm; exact absurd hm (Nat.not_lt_zero _)
  | succ n ih =>
    intro x2 x3 x4 M  wx3 wx4 hI hm h
    unfold f_X11_work_5 at h
    refine x_run C e_X11_work_2 e_X11_work_2_k (pc' := 8) (lv' := [(0, .ref 14), (2, .int x2), (3, .int x3), (4, .int x4)]) (st' := [.int 3, .int x4]) (σ' := (M, L)) rfl ⟨trivial, trivial, trivial⟩ ?_
    refine x_icmp_ge C (show decode cX11_work 8 = .ok (.if_icmp .ge 20, 3) from by decide +kernel) (tgt := 28) (by decide) (fun c1 => ?_) (fun c1 => ?_)
    · rw [if_pos c1] at h
      have g2 : xrg 3 3 x4 := (x_c_le (x_rgc (x := 3) (k := 3) (by decide)) wx4 c1).2
      subst h
      exact x_vret C (show decode cX11_work 28 = .ok (.return_, 1) from by decide +kernel) (x_finV ⟨⟨rfl, rfl⟩, hI⟩) (Nat.le_refl 0) (Nat.le_refl 0)
    · rw [if_neg c1] at h
      have g3 : xrg 0 2 x4 := (x_c_nle (x_rgc (x := 3) (k := 3) (by decide)) wx4 c1).2
      have hk4 := x_meas (x_nle c1) hm
      refine x_run C e_X11_work_3 e_X11_work_3_k (pc' := 12) (lv' := [(0, .ref 14), (2, .int x2), (3, .int x3), (4, .int x4)]) (st' := [.int x3]) (σ' := (M, L)) rfl ⟨trivial, trivial⟩ ?_
      refine x_if_eq C (show decode cX11_work 12 = .ok (.ifCond .eq 16, 3) from by decide +kernel) (tgt := 28) (by decide) (fun c5 => ?_) (fun c5 => ?_)
      · rw [if_pos c5] at h
        have g6 : xrg 0 0 x3 := (x_c_eq wx3 (x_rgc (x := 0) (k := 0) (by decide)) c5).1
        subst h
        exact x_vret C (show decode cX11_work 28 = .ok (.return_, 1) from by decide +kernel) (x_finV ⟨⟨rfl, rfl⟩, hI⟩) (Nat.le_refl 0) (Nat.le_refl 0)
      · rw [if_neg c5] at h
        have g7 : xrg 1 47 x3 := (x_c_ne wx3 (by decide) c5)
        refine x_run C e_X11_work_4 e_X11_work_4_k (pc' := 18) (lv' := [(0, .ref 14), (2, .int x2), (3, .int x3), (4, .int x4)]) (st' := [.int x2, .int x3, .ref 14]) (σ' := (M, L)) rfl ⟨trivial, trivial, trivial, trivial⟩ ?_
        refine x_callV C (k := 14) (ci := 8) (rest := []) (avs := [.int x3, .int x2]) (k_X11_tried l x3 x2 M L g7 hI) yoX11_tried ml_X11_282 rfl rfl rfl rfl ⟨Nat.zero_le _, Nat.zero_le _⟩ (show decode cX11_work 18 = .ok (.invokevirtual 282, 3) from by decide +kernel) rfl (fun v σ' hPo => ?_)
        obtain ⟨⟨rfl, rfl⟩, g9, hI10⟩ := hPo
        generalize hq8 : f_X11_tried x3 x2 M = q8 at h g9 hI10 ⊢
        obtain ⟨r8, M8⟩ := q8
        have h := xb_eq h
        try dsimp only at h g9 hI10
        show V 0 0 21 [(0, .ref 14), (2, .int x2), (3, .int x3), (4, .int x4)] [.int r8] LAY (M8, L)
        refine x_run C e_X11_work_5 e_X11_work_5_k (pc' := 25) (lv' := [(4, .int (x4 + 1)), (3, .int r8), (0, .ref 14), (2, .int x2)]) (st' := []) (σ' := (M8, L)) rfl ⟨trivial, trivial, trivial⟩ ?_
        refine x_goto C (show decode cX11_work 25 = .ok (.goto (-20), 3) from by decide +kernel) (tgt := 5) (by decide) ?_
        refine x_lv C [2, 3, 1, 0] rfl ?_
        exact ih x2 r8 (x4 + 1) M8 (x_rgw g9 (lo' := 0) (hi' := 47) (by decide) (by decide)) (x_rgw (x_rg_add g3 (x_rgc (x := 1) (k := 1) (by decide)) (by decide) (by decide)) (lo' := 0) (hi' := 3) (by decide) (by decide)) hI10 (hk4) h
set_option maxRecDepth 20000 in
set_option maxHeartbeats 4000000 in
theorem k_X11_work (l : Launch) (a1 : Int32) (a2 : Int32) (M : St) (L : Nat → Nat → Int64) (hp1 : xrg 0 47 a1) (hI : Inv INVM M) : XM l yX11_work cX11_work 5 none R_X11_work LAY [.ref 14, .int a1, .int a2] (M, L) (P_X11_work (f_X11_work a1 a2 M) L) := by
  refine XM.of (by decide) (Nat.le_of_ble_eq_true rfl) LAY_in cl_ok fl_X11_ok kc_X11_ok (fun V C => ?_)
  obtain ⟨r, h⟩ : ∃ r, f_X11_work a1 a2 M = r := ⟨_, rfl⟩
  rw [h] at C
  change C_X11_work l r L V at C
  unfold f_X11_work at h
  show V 0 0 0 [(0, .ref 14), (1, .int a1), (2, .int a2)] [] LAY (M, L)
  refine x_run C e_X11_work_1 e_X11_work_1_k (pc' := 5) (lv' := [(4, .int 0), (3, .int a1), (0, .ref 14), (1, .int a1), (2, .int a2)]) (st' := []) (σ' := (M, L)) rfl ⟨trivial, trivial, trivial, trivial, trivial⟩ ?_
  refine x_lv C [2, 4, 1, 0] rfl ?_
  exact b_X11_work_5 r C ((((3 : Int32)).toInt - (0 : Int32).toInt).toNat + 1) a2 a1 0 M hp1 (x_rgw (x_rgc (x := 0) (k := 0) (by decide)) (lo' := 0) (hi' := 3) (by decide) (by decide)) hI (Nat.lt_succ_self _) h
-- X11_fetch
def e_X11_fetch_1 : List xI := [(0, .aload_n 0, 1, .null), (1, .aload_n 0, 1, .null), (2, .getfield 7, 3, .null), (5, .bipush 17, 2, .int 17), (7, .iaload, 1, .null), (8, .iconst 1, 1, .int 1), (9, .iconst 3, 1, .int 3)]
theorem e_X11_fetch_1_k : e_X11_fetch_1.all (fun q => xokB cX11_fetch q && xokL q) = true := by decide +kernel
def e_X11_fetch_2 : List xI := [(13, .istore_n 1, 1, .null), (14, .aload_n 0, 1, .null), (15, .getfield 7, 3, .null), (18, .bipush 17, 2, .int 17), (20, .aload_n 0, 1, .null), (21, .getfield 47, 3, .null)]
theorem e_X11_fetch_2_k : e_X11_fetch_2.all (fun q => xokB cX11_fetch q && xokL q) = true := by decide +kernel
def e_X11_fetch_3 : List xI := [(39, .aload_n 0, 1, .null), (40, .getfield 7, 3, .null), (43, .bipush 17, 2, .int 17), (45, .iaload, 1, .null)]
theorem e_X11_fetch_3_k : e_X11_fetch_3.all (fun q => xokB cX11_fetch q && xokL q) = true := by decide +kernel
def e_X11_fetch_4 : List xI := [(27, .aload_n 0, 1, .null), (28, .getfield 7, 3, .null), (31, .bipush 17, 2, .int 17), (33, .iaload, 1, .null), (34, .iconst 2, 1, .int 2), (35, .iadd, 1, .null)]
theorem e_X11_fetch_4_k : e_X11_fetch_4.all (fun q => xokB cX11_fetch q && xokL q) = true := by decide +kernel
def e_X11_fetch_5 : List xI := [(46, .iastore, 1, .null), (47, .iload_n 1, 1, .null)]
theorem e_X11_fetch_5_k : e_X11_fetch_5.all (fun q => xokB cX11_fetch q && xokL q) = true := by decide +kernel
abbrev P_X11_fetch (r : Int32 × St) (L : Nat → Nat → Int64) : Option Value → xG → Prop := fun v σ' => PoI r.1 r.2 L v σ' ∧ True ∧ Inv INVM r.2
abbrev R_X11_fetch : Room := { frames := 3, cells := 0, slots := 0, locals := 74 }
abbrev C_X11_fetch (l : Launch) (r : Int32 × St) (L : Nat → Nat → Int64) (V : XJ) : Prop := XC l yX11_fetch.cls yX11_fetch.name cX11_fetch 2 R_X11_fetch 0 0 fl_X11 kc_X11 LAY.length (xfin (some .int) LAY (P_X11_fetch r L)) V
def f_X11_fetch_46 (x1 : Int32) (s0 : Int32) (s1 : Int32) (M : St) : Int32 × St := (x1, (xup M 15 s1.toNatClampNeg s0))
def f_X11_fetch (M : St) : Int32 × St := (xb (f_X11_read (M 15 17) 1 3 M) fun q1 => (if (q1.2 14 20) = 0 then f_X11_fetch_46 q1.1 ((q1.2 15 17) + 2) 17 q1.2 else f_X11_fetch_46 q1.1 (q1.2 15 17) 17 q1.2))
set_option maxRecDepth 20000 in
set_option maxHeartbeats 4000000 in
theorem b_X11_fetch_46 {l : Launch} {L : Nat → Nat → Int64} {V : XJ} (r : Int32 × St) (C : C_X11_fetch l r L V) (x1 : Int32) (s0 : Int32) (s1 : Int32) (M : St) (ws1 : xrg 17 17 s1) (hI : Inv INVM M) (h : f_X11_fetch_46 x1 s0 s1 M = r) : V 0 0 46 [(1, .int x1)] [.int s0, .int s1, .ref 15] LAY (M, L) := by
  unfold f_X11_fetch_46 at h
  refine x_run C e_X11_fetch_5 e_X11_fetch_5_k (pc' := 48) (lv' := [(1, .int x1)]) (st' := [.int x1]) (σ' := ((xup M 15 s1.toNatClampNeg s0), L)) rfl ⟨(x_rgv ws1 (by decide) (by decide)), trivial, trivial⟩ ?_
  have hI7 : Inv INVM (xup M 15 s1.toNatClampNeg s0) := (hI.arr 15 (s1.toNatClampNeg) s0 (by decide))
  subst h
  exact x_iret C (show decode cX11_fetch 48 = .ok (.ireturn, 1) from by decide +kernel) (x_finI rfl ⟨⟨rfl, rfl⟩, trivial, hI7⟩) (Nat.le_refl 0) (Nat.le_refl 0)
set_option maxRecDepth 20000 in
set_option maxHeartbeats 4000000 in
theorem k_X11_fetch (l : Launch) (M : St) (L : Nat → Nat → Int64) (hI : Inv INVM M) : XM l yX11_fetch cX11_fetch 2 (some .int) R_X11_fetch LAY [.ref 14] (M, L) (P_X11_fetch (f_X11_fetch M) L) := by
  refine XM.of (by decide) (Nat.le_of_ble_eq_true rfl) LAY_in cl_ok fl_X11_ok kc_X11_ok (fun V C => ?_)
  obtain ⟨r, h⟩ : ∃ r, f_X11_fetch M = r := ⟨_, rfl⟩
  rw [h] at C
  change C_X11_fetch l r L V at C
  unfold f_X11_fetch at h
  show V 0 0 0 [(0, .ref 14)] [] LAY (M, L)
  refine x_run C e_X11_fetch_1 e_X11_fetch_1_k (pc' := 10) (lv' := [(0, .ref 14)]) (st' := [.int 3, .int 1, .int (M 15 17), .ref 14]) (σ' := (M, L)) rfl ⟨trivial, trivial, trivial, trivial, (x_rgv (x_rgc (x := 17) (k := 17) (by decide)) (by decide) (by decide)), trivial, trivial, trivial⟩ ?_
  refine x_callV C (k := 14) (ci := 8) (rest := []) (avs := [.int (M 15 17), .int 1, .int 3]) (k_X11_read l (M 15 17) 1 3 M L hI) yoX11_read ml_X11_95 rfl rfl rfl rfl ⟨Nat.zero_le _, Nat.zero_le _⟩ (show decode cX11_fetch 10 = .ok (.invokevirtual 95, 3) from by decide +kernel) rfl (fun v σ' hPo => ?_)
  obtain ⟨⟨rfl, rfl⟩, g2, hI3⟩ := hPo
  generalize hq1 : f_X11_read (M 15 17) 1 3 M = q1 at h g2 hI3 ⊢
  obtain ⟨r1, M1⟩ := q1
  have h := xb_eq h
  try dsimp only at h g2 hI3
  show V 0 0 13 [(0, .ref 14)] [.int r1] LAY (M1, L)
  refine x_run C e_X11_fetch_2 e_X11_fetch_2_k (pc' := 24) (lv' := [(1, .int r1), (0, .ref 14)]) (st' := [.int (M1 14 20), .int 17, .ref 15]) (σ' := (M1, L)) rfl ⟨trivial, trivial, trivial, trivial, trivial, trivial, trivial⟩ ?_
  refine x_if_ne C (show decode cX11_fetch 24 = .ok (.ifCond .ne 15, 3) from by decide +kernel) (tgt := 39) (by decide) (fun c4 => ?_) (fun c4 => ?_)
  · rw [if_neg c4] at h
    have g5 : xrg 1 3 (M1 14 20) := (x_c_ne (hI3.at 5 rfl) (by decide) c4)
    refine x_run C e_X11_fetch_3 e_X11_fetch_3_k (pc' := 46) (lv' := [(1, .int r1), (0, .ref 14)]) (st' := [.int (M1 15 17), .int 17, .ref 15]) (σ' := (M1, L)) rfl ⟨trivial, trivial, trivial, (x_rgv (x_rgc (x := 17) (k := 17) (by decide)) (by decide) (by decide)), trivial⟩ ?_
    refine x_lv C [0] rfl ?_
    exact b_X11_fetch_46 r C r1 (M1 15 17) 17 M1 (x_rgc (x := 17) (k := 17) (by decide)) hI3 h
  · rw [if_pos c4] at h
    have g6 : xrg 0 0 (M1 14 20) := (x_c_eq (hI3.at 5 rfl) (x_rgc (x := 0) (k := 0) (by decide)) c4).1
    refine x_run C e_X11_fetch_4 e_X11_fetch_4_k (pc' := 36) (lv' := [(1, .int r1), (0, .ref 14)]) (st' := [.int ((M1 15 17) + 2), .int 17, .ref 15]) (σ' := (M1, L)) rfl ⟨trivial, trivial, trivial, (x_rgv (x_rgc (x := 17) (k := 17) (by decide)) (by decide) (by decide)), trivial, trivial, trivial⟩ ?_
    refine x_goto C (show decode cX11_fetch 36 = .ok (.goto 10, 3) from by decide +kernel) (tgt := 46) (by decide) ?_
    refine x_lv C [0] rfl ?_
    exact b_X11_fetch_46 r C r1 ((M1 15 17) + 2) 17 M1 (x_rgc (x := 17) (k := 17) (by decide)) hI3 h
-- X11_fits
def e_X11_fits_1 : List xI := [(0, .iload_n 0, 1, .null), (1, .iconst 3, 1, .int 3), (2, .ishr, 1, .null), (3, .istore_n 3, 1, .null), (4, .iload_n 0, 1, .null), (5, .bipush 7, 2, .int 7), (7, .iand, 1, .null), (8, .istore 4, 2, .null), (10, .iload_n 3, 1, .null), (11, .bipush 7, 2, .int 7)]
theorem e_X11_fits_1_k : e_X11_fits_1.all (fun q => xokB cX11_fits q && xokL q) = true := by decide +kernel
def e_X11_fits_2 : List xI := [(16, .iload 4, 2, .null), (18, .iconst 4, 1, .int 4)]
theorem e_X11_fits_2_k : e_X11_fits_2.all (fun q => xokB cX11_fits q && xokL q) = true := by decide +kernel
def e_X11_fits_3 : List xI := [(37, .iconst 0, 1, .int 0)]
theorem e_X11_fits_3_k : e_X11_fits_3.all (fun q => xokB cX11_fits q && xokL q) = true := by decide +kernel
def e_X11_fits_4 : List xI := [(22, .iload_n 3, 1, .null), (23, .iconst 1, 1, .int 1)]
theorem e_X11_fits_4_k : e_X11_fits_4.all (fun q => xokB cX11_fits q && xokL q) = true := by decide +kernel
def e_X11_fits_5 : List xI := [(27, .iload_n 1, 1, .null)]
theorem e_X11_fits_5_k : e_X11_fits_5.all (fun q => xokB cX11_fits q && xokL q) = true := by decide +kernel
def e_X11_fits_6 : List xI := [(31, .iload_n 2, 1, .null), (32, .iconst 1, 1, .int 1), (33, .iand, 1, .null)]
theorem e_X11_fits_6_k : e_X11_fits_6.all (fun q => xokB cX11_fits q && xokL q) = true := by decide +kernel
def e_X11_fits_7 : List xI := [(39, .iload_n 2, 1, .null), (40, .iconst 2, 1, .int 2), (41, .iand, 1, .null)]
theorem e_X11_fits_7_k : e_X11_fits_7.all (fun q => xokB cX11_fits q && xokL q) = true := by decide +kernel
def e_X11_fits_8 : List xI := [(45, .iload_n 3, 1, .null), (46, .iconst 2, 1, .int 2)]
theorem e_X11_fits_8_k : e_X11_fits_8.all (fun q => xokB cX11_fits q && xokL q) = true := by decide +kernel
def e_X11_fits_9 : List xI := [(69, .iconst 0, 1, .int 0)]
theorem e_X11_fits_9_k : e_X11_fits_9.all (fun q => xokB cX11_fits q && xokL q) = true := by decide +kernel
def e_X11_fits_10 : List xI := [(50, .iload_n 2, 1, .null), (51, .bipush 8, 2, .int 8), (53, .iand, 1, .null)]
theorem e_X11_fits_10_k : e_X11_fits_10.all (fun q => xokB cX11_fits q && xokL q) = true := by decide +kernel
def e_X11_fits_11 : List xI := [(57, .iload_n 3, 1, .null), (58, .bipush 7, 2, .int 7)]
theorem e_X11_fits_11_k : e_X11_fits_11.all (fun q => xokB cX11_fits q && xokL q) = true := by decide +kernel
def e_X11_fits_12 : List xI := [(63, .iload 4, 2, .null), (65, .iconst 1, 1, .int 1)]
theorem e_X11_fits_12_k : e_X11_fits_12.all (fun q => xokB cX11_fits q && xokL q) = true := by decide +kernel
def e_X11_fits_13 : List xI := [(71, .iload_n 2, 1, .null), (72, .iconst 4, 1, .int 4), (73, .iand, 1, .null)]
theorem e_X11_fits_13_k : e_X11_fits_13.all (fun q => xokB cX11_fits q && xokL q) = true := by decide +kernel
def e_X11_fits_14 : List xI := [(105, .iconst 1, 1, .int 1)]
theorem e_X11_fits_14_k : e_X11_fits_14.all (fun q => xokB cX11_fits q && xokL q) = true := by decide +kernel
def e_X11_fits_15 : List xI := [(77, .iload_n 3, 1, .null), (78, .iconst 2, 1, .int 2)]
theorem e_X11_fits_15_k : e_X11_fits_15.all (fun q => xokB cX11_fits q && xokL q) = true := by decide +kernel
def e_X11_fits_16 : List xI := [(82, .iload_n 3, 1, .null), (83, .iconst 5, 1, .int 5)]
theorem e_X11_fits_16_k : e_X11_fits_16.all (fun q => xokB cX11_fits q && xokL q) = true := by decide +kernel
def e_X11_fits_17 : List xI := [(87, .iload_n 3, 1, .null), (88, .bipush 6, 2, .int 6)]
theorem e_X11_fits_17_k : e_X11_fits_17.all (fun q => xokB cX11_fits q && xokL q) = true := by decide +kernel
def e_X11_fits_18 : List xI := [(93, .iload_n 3, 1, .null), (94, .bipush 7, 2, .int 7)]
theorem e_X11_fits_18_k : e_X11_fits_18.all (fun q => xokB cX11_fits q && xokL q) = true := by decide +kernel
def e_X11_fits_19 : List xI := [(109, .iconst 0, 1, .int 0)]
theorem e_X11_fits_19_k : e_X11_fits_19.all (fun q => xokB cX11_fits q && xokL q) = true := by decide +kernel
def e_X11_fits_20 : List xI := [(99, .iload 4, 2, .null), (101, .iconst 4, 1, .int 4)]
theorem e_X11_fits_20_k : e_X11_fits_20.all (fun q => xokB cX11_fits q && xokL q) = true := by decide +kernel
abbrev P_X11_fits (r : Int32) (M0 : St) (L : Nat → Nat → Int64) : Option Value → xG → Prop := fun v σ' => PoI r M0 L v σ' ∧ xrg 0 1 r ∧ True
abbrev R_X11_fits : Room := { frames := 0, cells := 0, slots := 0, locals := 0 }
abbrev C_X11_fits (l : Launch) (r : Int32) (M0 : St) (L : Nat → Nat → Int64) (V : XJ) : Prop := XC l yX11_fits.cls yX11_fits.name cX11_fits 5 R_X11_fits 0 0 fl_X11 kc_X11 LAY.length (xfin (some .boolean) LAY (P_X11_fits r M0 L)) V
def f_X11_fits_71 (x2 : Int32) (x3 : Int32) (x4 : Int32) : Int32 := (if (x2 &&& 4) = 0 then 1 else (if x3 = 2 then 1 else (if x3 = 5 then 1 else (if x3 = 6 then 1 else (if x3 = 7 then (if 4 ≤ x4 then 0 else 1) else 0)))))
def f_X11_fits_50 (x2 : Int32) (x3 : Int32) (x4 : Int32) : Int32 := (if (x2 &&& 8) = 0 then f_X11_fits_71 x2 x3 x4 else (if x3 = 7 then (if x4 ≤ 1 then f_X11_fits_71 x2 x3 x4 else 0) else f_X11_fits_71 x2 x3 x4))
def f_X11_fits_39 (x2 : Int32) (x3 : Int32) (x4 : Int32) : Int32 := (if (x2 &&& 2) = 0 then f_X11_fits_50 x2 x3 x4 else (if x3 < 2 then 0 else f_X11_fits_50 x2 x3 x4))
def f_X11_fits_22 (x1 : Int32) (x2 : Int32) (x3 : Int32) (x4 : Int32) : Int32 := (if x3 = 1 then (if x1 = 0 then 0 else (if (x2 &&& 1) = 0 then f_X11_fits_39 x2 x3 x4 else 0)) else f_X11_fits_39 x2 x3 x4)
def f_X11_fits (a1 : Int32) (a2 : Int32) (a3 : Int32) : Int32 := (if (a1 >>> ((3 : Int32) &&& 31)) = 7 then (if 4 < (a1 &&& 7) then 0 else f_X11_fits_22 a2 a3 (a1 >>> ((3 : Int32) &&& 31)) (a1 &&& 7)) else f_X11_fits_22 a2 a3 (a1 >>> ((3 : Int32) &&& 31)) (a1 &&& 7))
set_option maxRecDepth 20000 in
set_option maxHeartbeats 4000000 in
theorem b_X11_fits_71 {l : Launch} {L : Nat → Nat → Int64} {V : XJ} (r : Int32) {M : St} (C : C_X11_fits l r M L V) (x2 : Int32) (x3 : Int32) (x4 : Int32) (wx4 : xrg 0 7 x4) (h : f_X11_fits_71 x2 x3 x4 = r) : V 0 0 71 [(2, .int x2), (3, .int x3), (4, .int x4)] [] LAY (M, L) := by
  unfold f_X11_fits_71 at h
  refine x_run C e_X11_fits_13 e_X11_fits_13_k (pc' := 74) (lv' := [(2, .int x2), (3, .int x3), (4, .int x4)]) (st' := [.int (x2 &&& 4)]) (σ' := (M, L)) rfl ⟨trivial, trivial, trivial, trivial⟩ ?_
  refine x_if_eq C (show decode cX11_fits 74 = .ok (.ifCond .eq 31, 3) from by decide +kernel) (tgt := 105) (by decide) (fun c27 => ?_) (fun c27 => ?_)
  · rw [if_pos c27] at h
    have g28 : xrg 0 0 (x2 &&& 4) := (x_c_eq (x_rg_and (x := x2) (m := 4) (k := 4) (by decide) (by decide)) (x_rgc (x := 0) (k := 0) (by decide)) c27).1
    refine x_run C e_X11_fits_14 e_X11_fits_14_k (pc' := 106) (lv' := [(2, .int x2), (3, .int x3), (4, .int x4)]) (st' := [.int 1]) (σ' := (M, L)) rfl ⟨trivial, trivial⟩ ?_
    refine x_goto C (show decode cX11_fits 106 = .ok (.goto 4, 3) from by decide +kernel) (tgt := 110) (by decide) ?_
    subst h
    exact x_iret C (show decode cX11_fits 110 = .ok (.ireturn, 1) from by decide +kernel) (x_finI (x_nb (x_rgw (x_rgc (x := 1) (k := 1) (by decide)) (lo' := 0) (hi' := 1) (by decide) (by decide))) ⟨⟨rfl, rfl⟩, (x_rgw (x_rgc (x := 1) (k := 1) (by decide)) (lo' := 0) (hi' := 1) (by decide) (by decide)), trivial⟩) (Nat.le_refl 0) (Nat.le_refl 0)
  · rw [if_neg c27] at h
    have g29 : xrg 1 4 (x2 &&& 4) := (x_c_ne (x_rg_and (x := x2) (m := 4) (k := 4) (by decide) (by decide)) (by decide) c27)
    refine x_run C e_X11_fits_15 e_X11_fits_15_k (pc' := 79) (lv' := [(2, .int x2), (3, .int x3), (4, .int x4)]) (st' := [.int 2, .int x3]) (σ' := (M, L)) rfl ⟨trivial, trivial, trivial⟩ ?_
    refine x_icmp_eq C (show decode cX11_fits 79 = .ok (.if_icmp .eq 26, 3) from by decide +kernel) (tgt := 105) (by decide) (fun c30 => ?_) (fun c30 => ?_)
    · rw [if_pos c30] at h
      have g31 : xrg 2 2 x3 := (x_c_eq (x_rgt x3) (x_rgc (x := 2) (k := 2) (by decide)) c30).1
      refine x_run C e_X11_fits_14 e_X11_fits_14_k (pc' := 106) (lv' := [(2, .int x2), (3, .int x3), (4, .int x4)]) (st' := [.int 1]) (σ' := (M, L)) rfl ⟨trivial, trivial⟩ ?_
      refine x_goto C (show decode cX11_fits 106 = .ok (.goto 4, 3) from by decide +kernel) (tgt := 110) (by decide) ?_
      subst h
      exact x_iret C (show decode cX11_fits 110 = .ok (.ireturn, 1) from by decide +kernel) (x_finI (x_nb (x_rgw (x_rgc (x := 1) (k := 1) (by decide)) (lo' := 0) (hi' := 1) (by decide) (by decide))) ⟨⟨rfl, rfl⟩, (x_rgw (x_rgc (x := 1) (k := 1) (by decide)) (lo' := 0) (hi' := 1) (by decide) (by decide)), trivial⟩) (Nat.le_refl 0) (Nat.le_refl 0)
    · rw [if_neg c30] at h
      refine x_run C e_X11_fits_16 e_X11_fits_16_k (pc' := 84) (lv' := [(2, .int x2), (3, .int x3), (4, .int x4)]) (st' := [.int 5, .int x3]) (σ' := (M, L)) rfl ⟨trivial, trivial, trivial⟩ ?_
      refine x_icmp_eq C (show decode cX11_fits 84 = .ok (.if_icmp .eq 21, 3) from by decide +kernel) (tgt := 105) (by decide) (fun c32 => ?_) (fun c32 => ?_)
      · rw [if_pos c32] at h
        have g33 : xrg 5 5 x3 := (x_c_eq (x_rgt x3) (x_rgc (x := 5) (k := 5) (by decide)) c32).1
        refine x_run C e_X11_fits_14 e_X11_fits_14_k (pc' := 106) (lv' := [(2, .int x2), (3, .int x3), (4, .int x4)]) (st' := [.int 1]) (σ' := (M, L)) rfl ⟨trivial, trivial⟩ ?_
        refine x_goto C (show decode cX11_fits 106 = .ok (.goto 4, 3) from by decide +kernel) (tgt := 110) (by decide) ?_
        subst h
        exact x_iret C (show decode cX11_fits 110 = .ok (.ireturn, 1) from by decide +kernel) (x_finI (x_nb (x_rgw (x_rgc (x := 1) (k := 1) (by decide)) (lo' := 0) (hi' := 1) (by decide) (by decide))) ⟨⟨rfl, rfl⟩, (x_rgw (x_rgc (x := 1) (k := 1) (by decide)) (lo' := 0) (hi' := 1) (by decide) (by decide)), trivial⟩) (Nat.le_refl 0) (Nat.le_refl 0)
      · rw [if_neg c32] at h
        refine x_run C e_X11_fits_17 e_X11_fits_17_k (pc' := 90) (lv' := [(2, .int x2), (3, .int x3), (4, .int x4)]) (st' := [.int 6, .int x3]) (σ' := (M, L)) rfl ⟨trivial, trivial, trivial⟩ ?_
        refine x_icmp_eq C (show decode cX11_fits 90 = .ok (.if_icmp .eq 15, 3) from by decide +kernel) (tgt := 105) (by decide) (fun c34 => ?_) (fun c34 => ?_)
        · rw [if_pos c34] at h
          have g35 : xrg 6 6 x3 := (x_c_eq (x_rgt x3) (x_rgc (x := 6) (k := 6) (by decide)) c34).1
          refine x_run C e_X11_fits_14 e_X11_fits_14_k (pc' := 106) (lv' := [(2, .int x2), (3, .int x3), (4, .int x4)]) (st' := [.int 1]) (σ' := (M, L)) rfl ⟨trivial, trivial⟩ ?_
          refine x_goto C (show decode cX11_fits 106 = .ok (.goto 4, 3) from by decide +kernel) (tgt := 110) (by decide) ?_
          subst h
          exact x_iret C (show decode cX11_fits 110 = .ok (.ireturn, 1) from by decide +kernel) (x_finI (x_nb (x_rgw (x_rgc (x := 1) (k := 1) (by decide)) (lo' := 0) (hi' := 1) (by decide) (by decide))) ⟨⟨rfl, rfl⟩, (x_rgw (x_rgc (x := 1) (k := 1) (by decide)) (lo' := 0) (hi' := 1) (by decide) (by decide)), trivial⟩) (Nat.le_refl 0) (Nat.le_refl 0)
        · rw [if_neg c34] at h
          refine x_run C e_X11_fits_18 e_X11_fits_18_k (pc' := 96) (lv' := [(2, .int x2), (3, .int x3), (4, .int x4)]) (st' := [.int 7, .int x3]) (σ' := (M, L)) rfl ⟨trivial, trivial, trivial⟩ ?_
          refine x_icmp_ne C (show decode cX11_fits 96 = .ok (.if_icmp .ne 13, 3) from by decide +kernel) (tgt := 109) (by decide) (fun c36 => ?_) (fun c36 => ?_)
          · rw [if_neg c36] at h
            refine x_run C e_X11_fits_19 e_X11_fits_19_k (pc' := 110) (lv' := [(2, .int x2), (3, .int x3), (4, .int x4)]) (st' := [.int 0]) (σ' := (M, L)) rfl ⟨trivial, trivial⟩ ?_
            subst h
            exact x_iret C (show decode cX11_fits 110 = .ok (.ireturn, 1) from by decide +kernel) (x_finI (x_nb (x_rgw (x_rgc (x := 0) (k := 0) (by decide)) (lo' := 0) (hi' := 1) (by decide) (by decide))) ⟨⟨rfl, rfl⟩, (x_rgw (x_rgc (x := 0) (k := 0) (by decide)) (lo' := 0) (hi' := 1) (by decide) (by decide)), trivial⟩) (Nat.le_refl 0) (Nat.le_refl 0)
          · rw [if_pos c36] at h
            have g37 : xrg 7 7 x3 := (x_c_eq (x_rgt x3) (x_rgc (x := 7) (k := 7) (by decide)) c36).1
            refine x_run C e_X11_fits_20 e_X11_fits_20_k (pc' := 102) (lv' := [(2, .int x2), (3, .int x3), (4, .int x4)]) (st' := [.int 4, .int x4]) (σ' := (M, L)) rfl ⟨trivial, trivial, trivial⟩ ?_
            refine x_icmp_ge C (show decode cX11_fits 102 = .ok (.if_icmp .ge 7, 3) from by decide +kernel) (tgt := 109) (by decide) (fun c38 => ?_) (fun c38 => ?_)
            · rw [if_pos c38] at h
              have g39 : xrg 4 7 x4 := (x_c_le (x_rgc (x := 4) (k := 4) (by decide)) wx4 c38).2
              refine x_run C e_X11_fits_19 e_X11_fits_19_k (pc' := 110) (lv' := [(2, .int x2), (3, .int x3), (4, .int x4)]) (st' := [.int 0]) (σ' := (M, L)) rfl ⟨trivial, trivial⟩ ?_
              subst h
              exact x_iret C (show decode cX11_fits 110 = .ok (.ireturn, 1) from by decide +kernel) (x_finI (x_nb (x_rgw (x_rgc (x := 0) (k := 0) (by decide)) (lo' := 0) (hi' := 1) (by decide) (by decide))) ⟨⟨rfl, rfl⟩, (x_rgw (x_rgc (x := 0) (k := 0) (by decide)) (lo' := 0) (hi' := 1) (by decide) (by decide)), trivial⟩) (Nat.le_refl 0) (Nat.le_refl 0)
            · rw [if_neg c38] at h
              have g40 : xrg 0 3 x4 := (x_c_nle (x_rgc (x := 4) (k := 4) (by decide)) wx4 c38).2
              refine x_run C e_X11_fits_14 e_X11_fits_14_k (pc' := 106) (lv' := [(2, .int x2), (3, .int x3), (4, .int x4)]) (st' := [.int 1]) (σ' := (M, L)) rfl ⟨trivial, trivial⟩ ?_
              refine x_goto C (show decode cX11_fits 106 = .ok (.goto 4, 3) from by decide +kernel) (tgt := 110) (by decide) ?_
              subst h
              exact x_iret C (show decode cX11_fits 110 = .ok (.ireturn, 1) from by decide +kernel) (x_finI (x_nb (x_rgw (x_rgc (x := 1) (k := 1) (by decide)) (lo' := 0) (hi' := 1) (by decide) (by decide))) ⟨⟨rfl, rfl⟩, (x_rgw (x_rgc (x := 1) (k := 1) (by decide)) (lo' := 0) (hi' := 1) (by decide) (by decide)), trivial⟩) (Nat.le_refl 0) (Nat.le_refl 0)
set_option maxRecDepth 20000 in
set_option maxHeartbeats 4000000 in
theorem b_X11_fits_50 {l : Launch} {L : Nat → Nat → Int64} {V : XJ} (r : Int32) {M : St} (C : C_X11_fits l r M L V) (x2 : Int32) (x3 : Int32) (x4 : Int32) (wx4 : xrg 0 7 x4) (h : f_X11_fits_50 x2 x3 x4 = r) : V 0 0 50 [(2, .int x2), (3, .int x3), (4, .int x4)] [] LAY (M, L) := by
  unfold f_X11_fits_50 at h
  refine x_run C e_X11_fits_10 e_X11_fits_10_k (pc' := 54) (lv' := [(2, .int x2), (3, .int x3), (4, .int x4)]) (st' := [.int (x2 &&& 8)]) (σ' := (M, L)) rfl ⟨trivial, trivial, trivial, trivial⟩ ?_
  refine x_if_eq C (show decode cX11_fits 54 = .ok (.ifCond .eq 17, 3) from by decide +kernel) (tgt := 71) (by decide) (fun c19 => ?_) (fun c19 => ?_)
  · rw [if_pos c19] at h
    have g20 : xrg 0 0 (x2 &&& 8) := (x_c_eq (x_rg_and (x := x2) (m := 8) (k := 8) (by decide) (by decide)) (x_rgc (x := 0) (k := 0) (by decide)) c19).1
    exact b_X11_fits_71 r C x2 x3 x4  wx4 h
  · rw [if_neg c19] at h
    have g21 : xrg 1 8 (x2 &&& 8) := (x_c_ne (x_rg_and (x := x2) (m := 8) (k := 8) (by decide) (by decide)) (by decide) c19)
    refine x_run C e_X11_fits_11 e_X11_fits_11_k (pc' := 60) (lv' := [(2, .int x2), (3, .int x3), (4, .int x4)]) (st' := [.int 7, .int x3]) (σ' := (M, L)) rfl ⟨trivial, trivial, trivial⟩ ?_
    refine x_icmp_ne C (show decode cX11_fits 60 = .ok (.if_icmp .ne 11, 3) from by decide +kernel) (tgt := 71) (by decide) (fun c22 => ?_) (fun c22 => ?_)
    · rw [if_neg c22] at h
      exact b_X11_fits_71 r C x2 x3 x4  wx4 h
    · rw [if_pos c22] at h
      have g23 : xrg 7 7 x3 := (x_c_eq (x_rgt x3) (x_rgc (x := 7) (k := 7) (by decide)) c22).1
      refine x_run C e_X11_fits_12 e_X11_fits_12_k (pc' := 66) (lv' := [(2, .int x2), (3, .int x3), (4, .int x4)]) (st' := [.int 1, .int x4]) (σ' := (M, L)) rfl ⟨trivial, trivial, trivial⟩ ?_
      refine x_icmp_le C (show decode cX11_fits 66 = .ok (.if_icmp .le 5, 3) from by decide +kernel) (tgt := 71) (by decide) (fun c24 => ?_) (fun c24 => ?_)
      · rw [if_pos c24] at h
        have g25 : xrg 0 1 x4 := (x_c_le wx4 (x_rgc (x := 1) (k := 1) (by decide)) c24).1
        exact b_X11_fits_71 r C x2 x3 x4  (x_rgw g25 (lo' := 0) (hi' := 7) (by decide) (by decide)) h
      · rw [if_neg c24] at h
        have g26 : xrg 2 7 x4 := (x_c_nle wx4 (x_rgc (x := 1) (k := 1) (by decide)) c24).1
        refine x_run C e_X11_fits_9 e_X11_fits_9_k (pc' := 70) (lv' := [(2, .int x2), (3, .int x3), (4, .int x4)]) (st' := [.int 0]) (σ' := (M, L)) rfl ⟨trivial, trivial⟩ ?_
        subst h
        exact x_iret C (show decode cX11_fits 70 = .ok (.ireturn, 1) from by decide +kernel) (x_finI (x_nb (x_rgw (x_rgc (x := 0) (k := 0) (by decide)) (lo' := 0) (hi' := 1) (by decide) (by decide))) ⟨⟨rfl, rfl⟩, (x_rgw (x_rgc (x := 0) (k := 0) (by decide)) (lo' := 0) (hi' := 1) (by decide) (by decide)), trivial⟩) (Nat.le_refl 0) (Nat.le_refl 0)
set_option maxRecDepth 20000 in
set_option maxHeartbeats 4000000 in
theorem b_X11_fits_39 {l : Launch} {L : Nat → Nat → Int64} {V : XJ} (r : Int32) {M : St} (C : C_X11_fits l r M L V) (x2 : Int32) (x3 : Int32) (x4 : Int32) (wx4 : xrg 0 7 x4) (h : f_X11_fits_39 x2 x3 x4 = r) : V 0 0 39 [(2, .int x2), (3, .int x3), (4, .int x4)] [] LAY (M, L) := by
  unfold f_X11_fits_39 at h
  refine x_run C e_X11_fits_7 e_X11_fits_7_k (pc' := 42) (lv' := [(2, .int x2), (3, .int x3), (4, .int x4)]) (st' := [.int (x2 &&& 2)]) (σ' := (M, L)) rfl ⟨trivial, trivial, trivial, trivial⟩ ?_
  refine x_if_eq C (show decode cX11_fits 42 = .ok (.ifCond .eq 8, 3) from by decide +kernel) (tgt := 50) (by decide) (fun c13 => ?_) (fun c13 => ?_)
  · rw [if_pos c13] at h
    have g14 : xrg 0 0 (x2 &&& 2) := (x_c_eq (x_rg_and (x := x2) (m := 2) (k := 2) (by decide) (by decide)) (x_rgc (x := 0) (k := 0) (by decide)) c13).1
    exact b_X11_fits_50 r C x2 x3 x4  wx4 h
  · rw [if_neg c13] at h
    have g15 : xrg 1 2 (x2 &&& 2) := (x_c_ne (x_rg_and (x := x2) (m := 2) (k := 2) (by decide) (by decide)) (by decide) c13)
    refine x_run C e_X11_fits_8 e_X11_fits_8_k (pc' := 47) (lv' := [(2, .int x2), (3, .int x3), (4, .int x4)]) (st' := [.int 2, .int x3]) (σ' := (M, L)) rfl ⟨trivial, trivial, trivial⟩ ?_
    refine x_icmp_lt C (show decode cX11_fits 47 = .ok (.if_icmp .lt 22, 3) from by decide +kernel) (tgt := 69) (by decide) (fun c16 => ?_) (fun c16 => ?_)
    · rw [if_pos c16] at h
      have g17 : xrg (-2147483648) 1 x3 := (x_c_lt (x_rgt x3) (x_rgc (x := 2) (k := 2) (by decide)) c16).1
      refine x_run C e_X11_fits_9 e_X11_fits_9_k (pc' := 70) (lv' := [(2, .int x2), (3, .int x3), (4, .int x4)]) (st' := [.int 0]) (σ' := (M, L)) rfl ⟨trivial, trivial⟩ ?_
      subst h
      exact x_iret C (show decode cX11_fits 70 = .ok (.ireturn, 1) from by decide +kernel) (x_finI (x_nb (x_rgw (x_rgc (x := 0) (k := 0) (by decide)) (lo' := 0) (hi' := 1) (by decide) (by decide))) ⟨⟨rfl, rfl⟩, (x_rgw (x_rgc (x := 0) (k := 0) (by decide)) (lo' := 0) (hi' := 1) (by decide) (by decide)), trivial⟩) (Nat.le_refl 0) (Nat.le_refl 0)
    · rw [if_neg c16] at h
      have g18 : xrg 2 2147483647 x3 := (x_c_nlt (x_rgt x3) (x_rgc (x := 2) (k := 2) (by decide)) c16).1
      exact b_X11_fits_50 r C x2 x3 x4  wx4 h
set_option maxRecDepth 20000 in
set_option maxHeartbeats 4000000 in
theorem b_X11_fits_22 {l : Launch} {L : Nat → Nat → Int64} {V : XJ} (r : Int32) {M : St} (C : C_X11_fits l r M L V) (x1 : Int32) (x2 : Int32) (x3 : Int32) (x4 : Int32) (wx4 : xrg 0 7 x4) (h : f_X11_fits_22 x1 x2 x3 x4 = r) : V 0 0 22 [(1, .int x1), (2, .int x2), (3, .int x3), (4, .int x4)] [] LAY (M, L) := by
  unfold f_X11_fits_22 at h
  refine x_run C e_X11_fits_4 e_X11_fits_4_k (pc' := 24) (lv' := [(1, .int x1), (2, .int x2), (3, .int x3), (4, .int x4)]) (st' := [.int 1, .int x3]) (σ' := (M, L)) rfl ⟨trivial, trivial, trivial⟩ ?_
  refine x_icmp_ne C (show decode cX11_fits 24 = .ok (.if_icmp .ne 15, 3) from by decide +kernel) (tgt := 39) (by decide) (fun c6 => ?_) (fun c6 => ?_)
  · rw [if_neg c6] at h
    refine x_lv C [1, 2, 3] rfl ?_
    exact b_X11_fits_39 r C x2 x3 x4  wx4 h
  · rw [if_pos c6] at h
    have g7 : xrg 1 1 x3 := (x_c_eq (x_rgt x3) (x_rgc (x := 1) (k := 1) (by decide)) c6).1
    refine x_run C e_X11_fits_5 e_X11_fits_5_k (pc' := 28) (lv' := [(1, .int x1), (2, .int x2), (3, .int x3), (4, .int x4)]) (st' := [.int x1]) (σ' := (M, L)) rfl ⟨trivial, trivial⟩ ?_
    refine x_if_eq C (show decode cX11_fits 28 = .ok (.ifCond .eq 9, 3) from by decide +kernel) (tgt := 37) (by decide) (fun c8 => ?_) (fun c8 => ?_)
    · rw [if_pos c8] at h
      have g9 : xrg 0 0 x1 := (x_c_eq (x_rgt x1) (x_rgc (x := 0) (k := 0) (by decide)) c8).1
      refine x_run C e_X11_fits_3 e_X11_fits_3_k (pc' := 38) (lv' := [(1, .int x1), (2, .int x2), (3, .int x3), (4, .int x4)]) (st' := [.int 0]) (σ' := (M, L)) rfl ⟨trivial, trivial⟩ ?_
      subst h
      exact x_iret C (show decode cX11_fits 38 = .ok (.ireturn, 1) from by decide +kernel) (x_finI (x_nb (x_rgw (x_rgc (x := 0) (k := 0) (by decide)) (lo' := 0) (hi' := 1) (by decide) (by decide))) ⟨⟨rfl, rfl⟩, (x_rgw (x_rgc (x := 0) (k := 0) (by decide)) (lo' := 0) (hi' := 1) (by decide) (by decide)), trivial⟩) (Nat.le_refl 0) (Nat.le_refl 0)
    · rw [if_neg c8] at h
      refine x_run C e_X11_fits_6 e_X11_fits_6_k (pc' := 34) (lv' := [(1, .int x1), (2, .int x2), (3, .int x3), (4, .int x4)]) (st' := [.int (x2 &&& 1)]) (σ' := (M, L)) rfl ⟨trivial, trivial, trivial, trivial⟩ ?_
      refine x_if_eq C (show decode cX11_fits 34 = .ok (.ifCond .eq 5, 3) from by decide +kernel) (tgt := 39) (by decide) (fun c10 => ?_) (fun c10 => ?_)
      · rw [if_pos c10] at h
        have g11 : xrg 0 0 (x2 &&& 1) := (x_c_eq (x_rg_and (x := x2) (m := 1) (k := 1) (by decide) (by decide)) (x_rgc (x := 0) (k := 0) (by decide)) c10).1
        refine x_lv C [1, 2, 3] rfl ?_
        exact b_X11_fits_39 r C x2 x3 x4  wx4 h
      · rw [if_neg c10] at h
        have g12 : xrg 1 1 (x2 &&& 1) := (x_c_ne (x_rg_and (x := x2) (m := 1) (k := 1) (by decide) (by decide)) (by decide) c10)
        refine x_run C e_X11_fits_3 e_X11_fits_3_k (pc' := 38) (lv' := [(1, .int x1), (2, .int x2), (3, .int x3), (4, .int x4)]) (st' := [.int 0]) (σ' := (M, L)) rfl ⟨trivial, trivial⟩ ?_
        subst h
        exact x_iret C (show decode cX11_fits 38 = .ok (.ireturn, 1) from by decide +kernel) (x_finI (x_nb (x_rgw (x_rgc (x := 0) (k := 0) (by decide)) (lo' := 0) (hi' := 1) (by decide) (by decide))) ⟨⟨rfl, rfl⟩, (x_rgw (x_rgc (x := 0) (k := 0) (by decide)) (lo' := 0) (hi' := 1) (by decide) (by decide)), trivial⟩) (Nat.le_refl 0) (Nat.le_refl 0)
set_option maxRecDepth 20000 in
set_option maxHeartbeats 4000000 in
theorem k_X11_fits (l : Launch) (a1 : Int32) (a2 : Int32) (a3 : Int32) (M : St) (L : Nat → Nat → Int64) : XM l yX11_fits cX11_fits 5 (some .boolean) R_X11_fits LAY [.int a1, .int a2, .int a3] (M, L) (P_X11_fits (f_X11_fits a1 a2 a3) M L) := by
  refine XM.of (by decide) (Nat.le_of_ble_eq_true rfl) LAY_in cl_ok fl_X11_ok kc_X11_ok (fun V C => ?_)
  obtain ⟨r, h⟩ : ∃ r, f_X11_fits a1 a2 a3 = r := ⟨_, rfl⟩
  rw [h] at C
  change C_X11_fits l r M L V at C
  unfold f_X11_fits at h
  show V 0 0 0 [(0, .int a1), (1, .int a2), (2, .int a3)] [] LAY (M, L)
  refine x_run C e_X11_fits_1 e_X11_fits_1_k (pc' := 13) (lv' := [(4, .int (a1 &&& 7)), (3, .int (a1 >>> ((3 : Int32) &&& 31))), (0, .int a1), (1, .int a2), (2, .int a3)]) (st' := [.int 7, .int (a1 >>> ((3 : Int32) &&& 31))]) (σ' := (M, L)) rfl ⟨trivial, trivial, trivial, trivial, trivial, trivial, trivial, trivial, trivial, trivial, trivial⟩ ?_
  refine x_icmp_ne C (show decode cX11_fits 13 = .ok (.if_icmp .ne 9, 3) from by decide +kernel) (tgt := 22) (by decide) (fun c1 => ?_) (fun c1 => ?_)
  · rw [if_neg c1] at h
    refine x_lv C [3, 4, 1, 0] rfl ?_
    exact b_X11_fits_22 r C a2 a3 (a1 >>> ((3 : Int32) &&& 31)) (a1 &&& 7)  (x_rg_and (x := a1) (m := 7) (k := 7) (by decide) (by decide)) h
  · rw [if_pos c1] at h
    have g2 : xrg 7 7 (a1 >>> ((3 : Int32) &&& 31)) := (x_c_eq (x_rgt (a1 >>> ((3 : Int32) &&& 31))) (x_rgc (x := 7) (k := 7) (by decide)) c1).1
    refine x_run C e_X11_fits_2 e_X11_fits_2_k (pc' := 19) (lv' := [(4, .int (a1 &&& 7)), (3, .int (a1 >>> ((3 : Int32) &&& 31))), (0, .int a1), (1, .int a2), (2, .int a3)]) (st' := [.int 4, .int (a1 &&& 7)]) (σ' := (M, L)) rfl ⟨trivial, trivial, trivial⟩ ?_
    refine x_icmp_gt C (show decode cX11_fits 19 = .ok (.if_icmp .gt 18, 3) from by decide +kernel) (tgt := 37) (by decide) (fun c3 => ?_) (fun c3 => ?_)
    · rw [if_pos c3] at h
      have g4 : xrg 5 7 (a1 &&& 7) := (x_c_lt (x_rgc (x := 4) (k := 4) (by decide)) (x_rg_and (x := a1) (m := 7) (k := 7) (by decide) (by decide)) c3).2
      refine x_run C e_X11_fits_3 e_X11_fits_3_k (pc' := 38) (lv' := [(4, .int (a1 &&& 7)), (3, .int (a1 >>> ((3 : Int32) &&& 31))), (0, .int a1), (1, .int a2), (2, .int a3)]) (st' := [.int 0]) (σ' := (M, L)) rfl ⟨trivial, trivial⟩ ?_
      subst h
      exact x_iret C (show decode cX11_fits 38 = .ok (.ireturn, 1) from by decide +kernel) (x_finI (x_nb (x_rgw (x_rgc (x := 0) (k := 0) (by decide)) (lo' := 0) (hi' := 1) (by decide) (by decide))) ⟨⟨rfl, rfl⟩, (x_rgw (x_rgc (x := 0) (k := 0) (by decide)) (lo' := 0) (hi' := 1) (by decide) (by decide)), trivial⟩) (Nat.le_refl 0) (Nat.le_refl 0)
    · rw [if_neg c3] at h
      have g5 : xrg 0 4 (a1 &&& 7) := (x_c_nlt (x_rgc (x := 4) (k := 4) (by decide)) (x_rg_and (x := a1) (m := 7) (k := 7) (by decide) (by decide)) c3).2
      refine x_lv C [3, 4, 1, 0] rfl ?_
      exact b_X11_fits_22 r C a2 a3 (a1 >>> ((3 : Int32) &&& 31)) (a1 &&& 7)  (x_rgw g5 (lo' := 0) (hi' := 7) (by decide) (by decide)) h
-- X11_isLegalThree
def e_X11_isLegalThree_1 : List xI := [(0, .iload_n 1, 1, .null), (1, .iconst 3, 1, .int 3), (2, .ishr, 1, .null), (3, .istore_n 2, 1, .null), (4, .iload_n 0, 1, .null), (5, .iconst 3, 1, .int 3), (6, .iand, 1, .null), (7, .istore_n 3, 1, .null), (8, .iload_n 0, 1, .null), (9, .bipush 19, 2, .int 19)]
theorem e_X11_isLegalThree_1_k : e_X11_isLegalThree_1.all (fun q => xokB cX11_isLegalThree q && xokL q) = true := by decide +kernel
def e_X11_isLegalThree_2 : List xI := [(14, .iload_n 3, 1, .null), (15, .iconst 3, 1, .int 3)]
theorem e_X11_isLegalThree_2_k : e_X11_isLegalThree_2.all (fun q => xokB cX11_isLegalThree q && xokL q) = true := by decide +kernel
def e_X11_isLegalThree_3 : List xI := [(19, .iload_n 1, 1, .null), (20, .iload_n 3, 1, .null), (21, .bipush 9, 2, .int 9)]
theorem e_X11_isLegalThree_3_k : e_X11_isLegalThree_3.all (fun q => xokB cX11_isLegalThree q && xokL q) = true := by decide +kernel
def e_X11_isLegalThree_4 : List xI := [(27, .iload_n 0, 1, .null)]
theorem e_X11_isLegalThree_4_k : e_X11_isLegalThree_4.all (fun q => xokB cX11_isLegalThree q && xokL q) = true := by decide +kernel
def e_X11_isLegalThree_5 : List xI := [(144, .iload_n 1, 1, .null), (145, .iconst 1, 1, .int 1), (146, .bipush 9, 2, .int 9)]
theorem e_X11_isLegalThree_5_k : e_X11_isLegalThree_5.all (fun q => xokB cX11_isLegalThree q && xokL q) = true := by decide +kernel
def e_X11_isLegalThree_6 : List xI := [(167, .iload_n 2, 1, .null)]
theorem e_X11_isLegalThree_6_k : e_X11_isLegalThree_6.all (fun q => xokB cX11_isLegalThree q && xokL q) = true := by decide +kernel
def e_X11_isLegalThree_7 : List xI := [(180, .iconst 1, 1, .int 1)]
theorem e_X11_isLegalThree_7_k : e_X11_isLegalThree_7.all (fun q => xokB cX11_isLegalThree q && xokL q) = true := by decide +kernel
def e_X11_isLegalThree_8 : List xI := [(171, .iload_n 1, 1, .null), (172, .iconst 2, 1, .int 2), (173, .iconst 4, 1, .int 4)]
theorem e_X11_isLegalThree_8_k : e_X11_isLegalThree_8.all (fun q => xokB cX11_isLegalThree q && xokL q) = true := by decide +kernel
def e_X11_isLegalThree_9 : List xI := [(184, .iconst 0, 1, .int 0)]
theorem e_X11_isLegalThree_9_k : e_X11_isLegalThree_9.all (fun q => xokB cX11_isLegalThree q && xokL q) = true := by decide +kernel
def e_X11_isLegalThree_10 : List xI := [(238, .iload_n 0, 1, .null), (239, .bipush 28, 2, .int 28)]
theorem e_X11_isLegalThree_10_k : e_X11_isLegalThree_10.all (fun q => xokB cX11_isLegalThree q && xokL q) = true := by decide +kernel
def e_X11_isLegalThree_11 : List xI := [(260, .iconst 0, 1, .int 0)]
theorem e_X11_isLegalThree_11_k : e_X11_isLegalThree_11.all (fun q => xokB cX11_isLegalThree q && xokL q) = true := by decide +kernel
def e_X11_isLegalThree_12 : List xI := [(244, .iload_n 1, 1, .null), (245, .bipush 56, 2, .int 56)]
theorem e_X11_isLegalThree_12_k : e_X11_isLegalThree_12.all (fun q => xokB cX11_isLegalThree q && xokL q) = true := by decide +kernel
def e_X11_isLegalThree_13 : List xI := [(250, .iload_n 1, 1, .null), (251, .bipush 52, 2, .int 52)]
theorem e_X11_isLegalThree_13_k : e_X11_isLegalThree_13.all (fun q => xokB cX11_isLegalThree q && xokL q) = true := by decide +kernel
def e_X11_isLegalThree_14 : List xI := [(256, .iconst 1, 1, .int 1)]
theorem e_X11_isLegalThree_14_k : e_X11_isLegalThree_14.all (fun q => xokB cX11_isLegalThree q && xokL q) = true := by decide +kernel
def e_X11_isLegalThree_15 : List xI := [(152, .iload_n 1, 1, .null), (153, .iconst 1, 1, .int 1), (154, .iconst 1, 1, .int 1)]
theorem e_X11_isLegalThree_15_k : e_X11_isLegalThree_15.all (fun q => xokB cX11_isLegalThree q && xokL q) = true := by decide +kernel
def e_X11_isLegalThree_16 : List xI := [(159, .iload_n 1, 1, .null), (160, .iconst 0, 1, .int 0), (161, .bipush 9, 2, .int 9)]
theorem e_X11_isLegalThree_16_k : e_X11_isLegalThree_16.all (fun q => xokB cX11_isLegalThree q && xokL q) = true := by decide +kernel
def e_X11_isLegalThree_17 : List xI := [(186, .iload_n 2, 1, .null)]
theorem e_X11_isLegalThree_17_k : e_X11_isLegalThree_17.all (fun q => xokB cX11_isLegalThree q && xokL q) = true := by decide +kernel
def e_X11_isLegalThree_18 : List xI := [(205, .iconst 1, 1, .int 1)]
theorem e_X11_isLegalThree_18_k : e_X11_isLegalThree_18.all (fun q => xokB cX11_isLegalThree q && xokL q) = true := by decide +kernel
def e_X11_isLegalThree_19 : List xI := [(190, .iload_n 2, 1, .null), (191, .iconst 4, 1, .int 4)]
theorem e_X11_isLegalThree_19_k : e_X11_isLegalThree_19.all (fun q => xokB cX11_isLegalThree q && xokL q) = true := by decide +kernel
def e_X11_isLegalThree_20 : List xI := [(195, .iload_n 1, 1, .null), (196, .iconst 1, 1, .int 1), (197, .bipush 12, 2, .int 12)]
theorem e_X11_isLegalThree_20_k : e_X11_isLegalThree_20.all (fun q => xokB cX11_isLegalThree q && xokL q) = true := by decide +kernel
def e_X11_isLegalThree_21 : List xI := [(209, .iconst 0, 1, .int 0)]
theorem e_X11_isLegalThree_21_k : e_X11_isLegalThree_21.all (fun q => xokB cX11_isLegalThree q && xokL q) = true := by decide +kernel
def e_X11_isLegalThree_22 : List xI := [(211, .iload_n 2, 1, .null), (212, .iconst 3, 1, .int 3)]
theorem e_X11_isLegalThree_22_k : e_X11_isLegalThree_22.all (fun q => xokB cX11_isLegalThree q && xokL q) = true := by decide +kernel
def e_X11_isLegalThree_23 : List xI := [(225, .iconst 1, 1, .int 1)]
theorem e_X11_isLegalThree_23_k : e_X11_isLegalThree_23.all (fun q => xokB cX11_isLegalThree q && xokL q) = true := by decide +kernel
def e_X11_isLegalThree_24 : List xI := [(216, .iload_n 1, 1, .null), (217, .iconst 1, 1, .int 1), (218, .iconst 4, 1, .int 4)]
theorem e_X11_isLegalThree_24_k : e_X11_isLegalThree_24.all (fun q => xokB cX11_isLegalThree q && xokL q) = true := by decide +kernel
def e_X11_isLegalThree_25 : List xI := [(229, .iconst 0, 1, .int 0)]
theorem e_X11_isLegalThree_25_k : e_X11_isLegalThree_25.all (fun q => xokB cX11_isLegalThree q && xokL q) = true := by decide +kernel
def e_X11_isLegalThree_26 : List xI := [(231, .iload_n 1, 1, .null), (232, .iconst 2, 1, .int 2), (233, .iconst 4, 1, .int 4)]
theorem e_X11_isLegalThree_26_k : e_X11_isLegalThree_26.all (fun q => xokB cX11_isLegalThree q && xokL q) = true := by decide +kernel
abbrev P_X11_isLegalThree (r : Int32) (M0 : St) (L : Nat → Nat → Int64) : Option Value → xG → Prop := fun v σ' => PoI r M0 L v σ' ∧ xrg 0 1 r ∧ True
abbrev R_X11_isLegalThree : Room := { frames := 1, cells := 0, slots := 0, locals := 24 }
abbrev C_X11_isLegalThree (l : Launch) (r : Int32) (M0 : St) (L : Nat → Nat → Int64) (V : XJ) : Prop := XC l yX11_isLegalThree.cls yX11_isLegalThree.name cX11_isLegalThree 4 R_X11_isLegalThree 0 0 fl_X11 kc_X11 LAY.length (xfin (some .boolean) LAY (P_X11_isLegalThree r M0 L)) V
def f_X11_isLegalThree_238 (x0 : Int32) (x1 : Int32) : Int32 := (if x0 = 28 then (if 56 ≤ x1 then 0 else (if x1 = 52 then 0 else 1)) else 0)
def f_X11_isLegalThree_152 (x1 : Int32) : Int32 := (f_X11_fits x1 1 1)
def f_X11_isLegalThree_159 (x1 : Int32) : Int32 := (f_X11_fits x1 0 9)
def f_X11_isLegalThree_186 (x1 : Int32) (x2 : Int32) : Int32 := (if x2 = 0 then 1 else (if x2 = 4 then 1 else (if (f_X11_fits x1 1 12) = 0 then 0 else 1)))
def f_X11_isLegalThree_211 (x1 : Int32) (x2 : Int32) : Int32 := (if x2 = 3 then 1 else (if (f_X11_fits x1 1 4) = 0 then 0 else 1))
def f_X11_isLegalThree_231 (x1 : Int32) : Int32 := (f_X11_fits x1 2 4)
def f_X11_isLegalThree_27 (x0 : Int32) (x1 : Int32) (x2 : Int32) : Int32 := (if x0 = 3 then (f_X11_fits x1 1 9) else (if x0 = 4 then f_X11_isLegalThree_238 x0 x1 else (if x0 = 5 then f_X11_isLegalThree_238 x0 x1 else (if x0 = 6 then f_X11_isLegalThree_238 x0 x1 else (if x0 = 7 then f_X11_isLegalThree_152 x1 else (if x0 = 8 then f_X11_isLegalThree_238 x0 x1 else (if x0 = 9 then f_X11_isLegalThree_238 x0 x1 else (if x0 = 10 then f_X11_isLegalThree_238 x0 x1 else (if x0 = 11 then f_X11_isLegalThree_152 x1 else (if x0 = 12 then f_X11_isLegalThree_238 x0 x1 else (if x0 = 13 then f_X11_isLegalThree_238 x0 x1 else (if x0 = 14 then f_X11_isLegalThree_238 x0 x1 else (if x0 = 15 then f_X11_isLegalThree_159 x1 else (if x0 = 16 then f_X11_isLegalThree_238 x0 x1 else (if x0 = 17 then f_X11_isLegalThree_238 x0 x1 else (if x0 = 18 then f_X11_isLegalThree_238 x0 x1 else (if x0 = 19 then f_X11_isLegalThree_159 x1 else (if x0 = 20 then (if x2 = 0 then 1 else (if (f_X11_fits x1 2 4) = 0 then 0 else 1)) else (if x0 = 21 then f_X11_isLegalThree_186 x1 x2 else (if x0 = 22 then f_X11_isLegalThree_186 x1 x2 else (if x0 = 23 then f_X11_isLegalThree_238 x0 x1 else (if x0 = 24 then f_X11_isLegalThree_211 x1 x2 else (if x0 = 25 then f_X11_isLegalThree_211 x1 x2 else (if x0 = 26 then f_X11_isLegalThree_231 x1 else (if x0 = 27 then f_X11_isLegalThree_231 x1 else f_X11_isLegalThree_238 x0 x1)))))))))))))))))))))))))
def f_X11_isLegalThree (a1 : Int32) (a2 : Int32) : Int32 := (if 19 ≤ a1 then f_X11_isLegalThree_27 a1 a2 (a2 >>> ((3 : Int32) &&& 31)) else (if 3 ≤ (a1 &&& 3) then f_X11_isLegalThree_27 a1 a2 (a2 >>> ((3 : Int32) &&& 31)) else (f_X11_fits a2 (a1 &&& 3) 9)))
set_option maxRecDepth 20000 in
set_option maxHeartbeats 4000000 in
theorem b_X11_isLegalThree_238 {l : Launch} {L : Nat → Nat → Int64} {V : XJ} (r : Int32) {M : St} (C : C_X11_isLegalThree l r M L V) (x0 : Int32) (x1 : Int32) (h : f_X11_isLegalThree_238 x0 x1 = r) : V 0 0 238 [(0, .int x0), (1, .int x1)] [] LAY (M, L) := by
  unfold f_X11_isLegalThree_238 at h
  refine x_run C e_X11_isLegalThree_10 e_X11_isLegalThree_10_k (pc' := 241) (lv' := [(0, .int x0), (1, .int x1)]) (st' := [.int 28, .int x0]) (σ' := (M, L)) rfl ⟨trivial, trivial, trivial⟩ ?_
  refine x_icmp_ne C (show decode cX11_isLegalThree 241 = .ok (.if_icmp .ne 19, 3) from by decide +kernel) (tgt := 260) (by decide) (fun c46 => ?_) (fun c46 => ?_)
  · rw [if_neg c46] at h
    refine x_run C e_X11_isLegalThree_11 e_X11_isLegalThree_11_k (pc' := 261) (lv' := [(0, .int x0), (1, .int x1)]) (st' := [.int 0]) (σ' := (M, L)) rfl ⟨trivial, trivial⟩ ?_
    subst h
    exact x_iret C (show decode cX11_isLegalThree 261 = .ok (.ireturn, 1) from by decide +kernel) (x_finI (x_nb (x_rgw (x_rgc (x := 0) (k := 0) (by decide)) (lo' := 0) (hi' := 1) (by decide) (by decide))) ⟨⟨rfl, rfl⟩, (x_rgw (x_rgc (x := 0) (k := 0) (by decide)) (lo' := 0) (hi' := 1) (by decide) (by decide)), trivial⟩) (Nat.le_refl 0) (Nat.le_refl 0)
  · rw [if_pos c46] at h
    have g47 : xrg 28 28 x0 := (x_c_eq (x_rgt x0) (x_rgc (x := 28) (k := 28) (by decide)) c46).1
    refine x_run C e_X11_isLegalThree_12 e_X11_isLegalThree_12_k (pc' := 247) (lv' := [(0, .int x0), (1, .int x1)]) (st' := [.int 56, .int x1]) (σ' := (M, L)) rfl ⟨trivial, trivial, trivial⟩ ?_
    refine x_icmp_ge C (show decode cX11_isLegalThree 247 = .ok (.if_icmp .ge 13, 3) from by decide +kernel) (tgt := 260) (by decide) (fun c48 => ?_) (fun c48 => ?_)
    · rw [if_pos c48] at h
      have g49 : xrg 56 2147483647 x1 := (x_c_le (x_rgc (x := 56) (k := 56) (by decide)) (x_rgt x1) c48).2
      refine x_run C e_X11_isLegalThree_11 e_X11_isLegalThree_11_k (pc' := 261) (lv' := [(0, .int x0), (1, .int x1)]) (st' := [.int 0]) (σ' := (M, L)) rfl ⟨trivial, trivial⟩ ?_
      subst h
      exact x_iret C (show decode cX11_isLegalThree 261 = .ok (.ireturn, 1) from by decide +kernel) (x_finI (x_nb (x_rgw (x_rgc (x := 0) (k := 0) (by decide)) (lo' := 0) (hi' := 1) (by decide) (by decide))) ⟨⟨rfl, rfl⟩, (x_rgw (x_rgc (x := 0) (k := 0) (by decide)) (lo' := 0) (hi' := 1) (by decide) (by decide)), trivial⟩) (Nat.le_refl 0) (Nat.le_refl 0)
    · rw [if_neg c48] at h
      have g50 : xrg (-2147483648) 55 x1 := (x_c_nle (x_rgc (x := 56) (k := 56) (by decide)) (x_rgt x1) c48).2
      refine x_run C e_X11_isLegalThree_13 e_X11_isLegalThree_13_k (pc' := 253) (lv' := [(0, .int x0), (1, .int x1)]) (st' := [.int 52, .int x1]) (σ' := (M, L)) rfl ⟨trivial, trivial, trivial⟩ ?_
      refine x_icmp_eq C (show decode cX11_isLegalThree 253 = .ok (.if_icmp .eq 7, 3) from by decide +kernel) (tgt := 260) (by decide) (fun c51 => ?_) (fun c51 => ?_)
      · rw [if_pos c51] at h
        have g52 : xrg 52 52 x1 := (x_c_eq g50 (x_rgc (x := 52) (k := 52) (by decide)) c51).1
        refine x_run C e_X11_isLegalThree_11 e_X11_isLegalThree_11_k (pc' := 261) (lv' := [(0, .int x0), (1, .int x1)]) (st' := [.int 0]) (σ' := (M, L)) rfl ⟨trivial, trivial⟩ ?_
        subst h
        exact x_iret C (show decode cX11_isLegalThree 261 = .ok (.ireturn, 1) from by decide +kernel) (x_finI (x_nb (x_rgw (x_rgc (x := 0) (k := 0) (by decide)) (lo' := 0) (hi' := 1) (by decide) (by decide))) ⟨⟨rfl, rfl⟩, (x_rgw (x_rgc (x := 0) (k := 0) (by decide)) (lo' := 0) (hi' := 1) (by decide) (by decide)), trivial⟩) (Nat.le_refl 0) (Nat.le_refl 0)
      · rw [if_neg c51] at h
        refine x_run C e_X11_isLegalThree_14 e_X11_isLegalThree_14_k (pc' := 257) (lv' := [(0, .int x0), (1, .int x1)]) (st' := [.int 1]) (σ' := (M, L)) rfl ⟨trivial, trivial⟩ ?_
        refine x_goto C (show decode cX11_isLegalThree 257 = .ok (.goto 4, 3) from by decide +kernel) (tgt := 261) (by decide) ?_
        subst h
        exact x_iret C (show decode cX11_isLegalThree 261 = .ok (.ireturn, 1) from by decide +kernel) (x_finI (x_nb (x_rgw (x_rgc (x := 1) (k := 1) (by decide)) (lo' := 0) (hi' := 1) (by decide) (by decide))) ⟨⟨rfl, rfl⟩, (x_rgw (x_rgc (x := 1) (k := 1) (by decide)) (lo' := 0) (hi' := 1) (by decide) (by decide)), trivial⟩) (Nat.le_refl 0) (Nat.le_refl 0)
set_option maxRecDepth 20000 in
set_option maxHeartbeats 4000000 in
theorem b_X11_isLegalThree_152 {l : Launch} {L : Nat → Nat → Int64} {V : XJ} (r : Int32) {M : St} (C : C_X11_isLegalThree l r M L V) (x1 : Int32) (h : f_X11_isLegalThree_152 x1 = r) : V 0 0 152 [(1, .int x1)] [] LAY (M, L) := by
  unfold f_X11_isLegalThree_152 at h
  refine x_run C e_X11_isLegalThree_15 e_X11_isLegalThree_15_k (pc' := 155) (lv' := [(1, .int x1)]) (st' := [.int 1, .int 1, .int x1]) (σ' := (M, L)) rfl ⟨trivial, trivial, trivial, trivial⟩ ?_
  refine x_callS C (rest := []) (avs := [.int x1, .int 1, .int 1]) (k_X11_fits l x1 1 1 M L) yoX11_fits ml_X11_141 rfl ⟨Nat.zero_le _, Nat.zero_le _⟩ (show decode cX11_isLegalThree 155 = .ok (.invokestatic 141, 3) from by decide +kernel) rfl (fun v σ' hPo => ?_)
  obtain ⟨⟨rfl, rfl⟩, g54, -⟩ := hPo
  show V 0 0 158 [(1, .int x1)] [.int (f_X11_fits x1 1 1)] LAY (M, L)
  subst h
  exact x_iret C (show decode cX11_isLegalThree 158 = .ok (.ireturn, 1) from by decide +kernel) (x_finI (x_nb g54) ⟨⟨rfl, rfl⟩, g54, trivial⟩) (Nat.le_refl 0) (Nat.le_refl 0)
set_option maxRecDepth 20000 in
set_option maxHeartbeats 4000000 in
theorem b_X11_isLegalThree_159 {l : Launch} {L : Nat → Nat → Int64} {V : XJ} (r : Int32) {M : St} (C : C_X11_isLegalThree l r M L V) (x1 : Int32) (h : f_X11_isLegalThree_159 x1 = r) : V 0 0 159 [(1, .int x1)] [] LAY (M, L) := by
  unfold f_X11_isLegalThree_159 at h
  refine x_run C e_X11_isLegalThree_16 e_X11_isLegalThree_16_k (pc' := 163) (lv' := [(1, .int x1)]) (st' := [.int 9, .int 0, .int x1]) (σ' := (M, L)) rfl ⟨trivial, trivial, trivial, trivial⟩ ?_
  refine x_callS C (rest := []) (avs := [.int x1, .int 0, .int 9]) (k_X11_fits l x1 0 9 M L) yoX11_fits ml_X11_141 rfl ⟨Nat.zero_le _, Nat.zero_le _⟩ (show decode cX11_isLegalThree 163 = .ok (.invokestatic 141, 3) from by decide +kernel) rfl (fun v σ' hPo => ?_)
  obtain ⟨⟨rfl, rfl⟩, g57, -⟩ := hPo
  show V 0 0 166 [(1, .int x1)] [.int (f_X11_fits x1 0 9)] LAY (M, L)
  subst h
  exact x_iret C (show decode cX11_isLegalThree 166 = .ok (.ireturn, 1) from by decide +kernel) (x_finI (x_nb g57) ⟨⟨rfl, rfl⟩, g57, trivial⟩) (Nat.le_refl 0) (Nat.le_refl 0)
set_option maxRecDepth 20000 in
set_option maxHeartbeats 4000000 in
theorem b_X11_isLegalThree_186 {l : Launch} {L : Nat → Nat → Int64} {V : XJ} (r : Int32) {M : St} (C : C_X11_isLegalThree l r M L V) (x1 : Int32) (x2 : Int32) (h : f_X11_isLegalThree_186 x1 x2 = r) : V 0 0 186 [(1, .int x1), (2, .int x2)] [] LAY (M, L) := by
  unfold f_X11_isLegalThree_186 at h
  refine x_run C e_X11_isLegalThree_17 e_X11_isLegalThree_17_k (pc' := 187) (lv' := [(1, .int x1), (2, .int x2)]) (st' := [.int x2]) (σ' := (M, L)) rfl ⟨trivial, trivial⟩ ?_
  refine x_if_eq C (show decode cX11_isLegalThree 187 = .ok (.ifCond .eq 18, 3) from by decide +kernel) (tgt := 205) (by decide) (fun c59 => ?_) (fun c59 => ?_)
  · rw [if_pos c59] at h
    have g60 : xrg 0 0 x2 := (x_c_eq (x_rgt x2) (x_rgc (x := 0) (k := 0) (by decide)) c59).1
    refine x_run C e_X11_isLegalThree_18 e_X11_isLegalThree_18_k (pc' := 206) (lv' := [(1, .int x1), (2, .int x2)]) (st' := [.int 1]) (σ' := (M, L)) rfl ⟨trivial, trivial⟩ ?_
    refine x_goto C (show decode cX11_isLegalThree 206 = .ok (.goto 4, 3) from by decide +kernel) (tgt := 210) (by decide) ?_
    subst h
    exact x_iret C (show decode cX11_isLegalThree 210 = .ok (.ireturn, 1) from by decide +kernel) (x_finI (x_nb (x_rgw (x_rgc (x := 1) (k := 1) (by decide)) (lo' := 0) (hi' := 1) (by decide) (by decide))) ⟨⟨rfl, rfl⟩, (x_rgw (x_rgc (x := 1) (k := 1) (by decide)) (lo' := 0) (hi' := 1) (by decide) (by decide)), trivial⟩) (Nat.le_refl 0) (Nat.le_refl 0)
  · rw [if_neg c59] at h
    refine x_run C e_X11_isLegalThree_19 e_X11_isLegalThree_19_k (pc' := 192) (lv' := [(1, .int x1), (2, .int x2)]) (st' := [.int 4, .int x2]) (σ' := (M, L)) rfl ⟨trivial, trivial, trivial⟩ ?_
    refine x_icmp_eq C (show decode cX11_isLegalThree 192 = .ok (.if_icmp .eq 13, 3) from by decide +kernel) (tgt := 205) (by decide) (fun c61 => ?_) (fun c61 => ?_)
    · rw [if_pos c61] at h
      have g62 : xrg 4 4 x2 := (x_c_eq (x_rgt x2) (x_rgc (x := 4) (k := 4) (by decide)) c61).1
      refine x_run C e_X11_isLegalThree_18 e_X11_isLegalThree_18_k (pc' := 206) (lv' := [(1, .int x1), (2, .int x2)]) (st' := [.int 1]) (σ' := (M, L)) rfl ⟨trivial, trivial⟩ ?_
      refine x_goto C (show decode cX11_isLegalThree 206 = .ok (.goto 4, 3) from by decide +kernel) (tgt := 210) (by decide) ?_
      subst h
      exact x_iret C (show decode cX11_isLegalThree 210 = .ok (.ireturn, 1) from by decide +kernel) (x_finI (x_nb (x_rgw (x_rgc (x := 1) (k := 1) (by decide)) (lo' := 0) (hi' := 1) (by decide) (by decide))) ⟨⟨rfl, rfl⟩, (x_rgw (x_rgc (x := 1) (k := 1) (by decide)) (lo' := 0) (hi' := 1) (by decide) (by decide)), trivial⟩) (Nat.le_refl 0) (Nat.le_refl 0)
    · rw [if_neg c61] at h
      refine x_run C e_X11_isLegalThree_20 e_X11_isLegalThree_20_k (pc' := 199) (lv' := [(1, .int x1), (2, .int x2)]) (st' := [.int 12, .int 1, .int x1]) (σ' := (M, L)) rfl ⟨trivial, trivial, trivial, trivial⟩ ?_
      refine x_callS C (rest := []) (avs := [.int x1, .int 1, .int 12]) (k_X11_fits l x1 1 12 M L) yoX11_fits ml_X11_141 rfl ⟨Nat.zero_le _, Nat.zero_le _⟩ (show decode cX11_isLegalThree 199 = .ok (.invokestatic 141, 3) from by decide +kernel) rfl (fun v σ' hPo => ?_)
      obtain ⟨⟨rfl, rfl⟩, g64, -⟩ := hPo
      show V 0 0 202 [(1, .int x1), (2, .int x2)] [.int (f_X11_fits x1 1 12)] LAY (M, L)
      refine x_if_eq C (show decode cX11_isLegalThree 202 = .ok (.ifCond .eq 7, 3) from by decide +kernel) (tgt := 209) (by decide) (fun c66 => ?_) (fun c66 => ?_)
      · rw [if_pos c66] at h
        have g67 : xrg 0 0 (f_X11_fits x1 1 12) := (x_c_eq g64 (x_rgc (x := 0) (k := 0) (by decide)) c66).1
        refine x_run C e_X11_isLegalThree_21 e_X11_isLegalThree_21_k (pc' := 210) (lv' := [(1, .int x1), (2, .int x2)]) (st' := [.int 0]) (σ' := (M, L)) rfl ⟨trivial, trivial⟩ ?_
        subst h
        exact x_iret C (show decode cX11_isLegalThree 210 = .ok (.ireturn, 1) from by decide +kernel) (x_finI (x_nb (x_rgw (x_rgc (x := 0) (k := 0) (by decide)) (lo' := 0) (hi' := 1) (by decide) (by decide))) ⟨⟨rfl, rfl⟩, (x_rgw (x_rgc (x := 0) (k := 0) (by decide)) (lo' := 0) (hi' := 1) (by decide) (by decide)), trivial⟩) (Nat.le_refl 0) (Nat.le_refl 0)
      · rw [if_neg c66] at h
        have g68 : xrg 1 1 (f_X11_fits x1 1 12) := (x_c_ne g64 (by decide) c66)
        refine x_run C e_X11_isLegalThree_18 e_X11_isLegalThree_18_k (pc' := 206) (lv' := [(1, .int x1), (2, .int x2)]) (st' := [.int 1]) (σ' := (M, L)) rfl ⟨trivial, trivial⟩ ?_
        refine x_goto C (show decode cX11_isLegalThree 206 = .ok (.goto 4, 3) from by decide +kernel) (tgt := 210) (by decide) ?_
        subst h
        exact x_iret C (show decode cX11_isLegalThree 210 = .ok (.ireturn, 1) from by decide +kernel) (x_finI (x_nb (x_rgw (x_rgc (x := 1) (k := 1) (by decide)) (lo' := 0) (hi' := 1) (by decide) (by decide))) ⟨⟨rfl, rfl⟩, (x_rgw (x_rgc (x := 1) (k := 1) (by decide)) (lo' := 0) (hi' := 1) (by decide) (by decide)), trivial⟩) (Nat.le_refl 0) (Nat.le_refl 0)
set_option maxRecDepth 20000 in
set_option maxHeartbeats 4000000 in
theorem b_X11_isLegalThree_211 {l : Launch} {L : Nat → Nat → Int64} {V : XJ} (r : Int32) {M : St} (C : C_X11_isLegalThree l r M L V) (x1 : Int32) (x2 : Int32) (h : f_X11_isLegalThree_211 x1 x2 = r) : V 0 0 211 [(1, .int x1), (2, .int x2)] [] LAY (M, L) := by
  unfold f_X11_isLegalThree_211 at h
  refine x_run C e_X11_isLegalThree_22 e_X11_isLegalThree_22_k (pc' := 213) (lv' := [(1, .int x1), (2, .int x2)]) (st' := [.int 3, .int x2]) (σ' := (M, L)) rfl ⟨trivial, trivial, trivial⟩ ?_
  refine x_icmp_eq C (show decode cX11_isLegalThree 213 = .ok (.if_icmp .eq 12, 3) from by decide +kernel) (tgt := 225) (by decide) (fun c69 => ?_) (fun c69 => ?_)
  · rw [if_pos c69] at h
    have g70 : xrg 3 3 x2 := (x_c_eq (x_rgt x2) (x_rgc (x := 3) (k := 3) (by decide)) c69).1
    refine x_run C e_X11_isLegalThree_23 e_X11_isLegalThree_23_k (pc' := 226) (lv' := [(1, .int x1), (2, .int x2)]) (st' := [.int 1]) (σ' := (M, L)) rfl ⟨trivial, trivial⟩ ?_
    refine x_goto C (show decode cX11_isLegalThree 226 = .ok (.goto 4, 3) from by decide +kernel) (tgt := 230) (by decide) ?_
    subst h
    exact x_iret C (show decode cX11_isLegalThree 230 = .ok (.ireturn, 1) from by decide +kernel) (x_finI (x_nb (x_rgw (x_rgc (x := 1) (k := 1) (by decide)) (lo' := 0) (hi' := 1) (by decide) (by decide))) ⟨⟨rfl, rfl⟩, (x_rgw (x_rgc (x := 1) (k := 1) (by decide)) (lo' := 0) (hi' := 1) (by decide) (by decide)), trivial⟩) (Nat.le_refl 0) (Nat.le_refl 0)
  · rw [if_neg c69] at h
    refine x_run C e_X11_isLegalThree_24 e_X11_isLegalThree_24_k (pc' := 219) (lv' := [(1, .int x1), (2, .int x2)]) (st' := [.int 4, .int 1, .int x1]) (σ' := (M, L)) rfl ⟨trivial, trivial, trivial, trivial⟩ ?_
    refine x_callS C (rest := []) (avs := [.int x1, .int 1, .int 4]) (k_X11_fits l x1 1 4 M L) yoX11_fits ml_X11_141 rfl ⟨Nat.zero_le _, Nat.zero_le _⟩ (show decode cX11_isLegalThree 219 = .ok (.invokestatic 141, 3) from by decide +kernel) rfl (fun v σ' hPo => ?_)
    obtain ⟨⟨rfl, rfl⟩, g72, -⟩ := hPo
    show V 0 0 222 [(1, .int x1), (2, .int x2)] [.int (f_X11_fits x1 1 4)] LAY (M, L)
    refine x_if_eq C (show decode cX11_isLegalThree 222 = .ok (.ifCond .eq 7, 3) from by decide +kernel) (tgt := 229) (by decide) (fun c74 => ?_) (fun c74 => ?_)
    · rw [if_pos c74] at h
      have g75 : xrg 0 0 (f_X11_fits x1 1 4) := (x_c_eq g72 (x_rgc (x := 0) (k := 0) (by decide)) c74).1
      refine x_run C e_X11_isLegalThree_25 e_X11_isLegalThree_25_k (pc' := 230) (lv' := [(1, .int x1), (2, .int x2)]) (st' := [.int 0]) (σ' := (M, L)) rfl ⟨trivial, trivial⟩ ?_
      subst h
      exact x_iret C (show decode cX11_isLegalThree 230 = .ok (.ireturn, 1) from by decide +kernel) (x_finI (x_nb (x_rgw (x_rgc (x := 0) (k := 0) (by decide)) (lo' := 0) (hi' := 1) (by decide) (by decide))) ⟨⟨rfl, rfl⟩, (x_rgw (x_rgc (x := 0) (k := 0) (by decide)) (lo' := 0) (hi' := 1) (by decide) (by decide)), trivial⟩) (Nat.le_refl 0) (Nat.le_refl 0)
    · rw [if_neg c74] at h
      have g76 : xrg 1 1 (f_X11_fits x1 1 4) := (x_c_ne g72 (by decide) c74)
      refine x_run C e_X11_isLegalThree_23 e_X11_isLegalThree_23_k (pc' := 226) (lv' := [(1, .int x1), (2, .int x2)]) (st' := [.int 1]) (σ' := (M, L)) rfl ⟨trivial, trivial⟩ ?_
      refine x_goto C (show decode cX11_isLegalThree 226 = .ok (.goto 4, 3) from by decide +kernel) (tgt := 230) (by decide) ?_
      subst h
      exact x_iret C (show decode cX11_isLegalThree 230 = .ok (.ireturn, 1) from by decide +kernel) (x_finI (x_nb (x_rgw (x_rgc (x := 1) (k := 1) (by decide)) (lo' := 0) (hi' := 1) (by decide) (by decide))) ⟨⟨rfl, rfl⟩, (x_rgw (x_rgc (x := 1) (k := 1) (by decide)) (lo' := 0) (hi' := 1) (by decide) (by decide)), trivial⟩) (Nat.le_refl 0) (Nat.le_refl 0)
set_option maxRecDepth 20000 in
set_option maxHeartbeats 4000000 in
theorem b_X11_isLegalThree_231 {l : Launch} {L : Nat → Nat → Int64} {V : XJ} (r : Int32) {M : St} (C : C_X11_isLegalThree l r M L V) (x1 : Int32) (h : f_X11_isLegalThree_231 x1 = r) : V 0 0 231 [(1, .int x1)] [] LAY (M, L) := by
  unfold f_X11_isLegalThree_231 at h
  refine x_run C e_X11_isLegalThree_26 e_X11_isLegalThree_26_k (pc' := 234) (lv' := [(1, .int x1)]) (st' := [.int 4, .int 2, .int x1]) (σ' := (M, L)) rfl ⟨trivial, trivial, trivial, trivial⟩ ?_
  refine x_callS C (rest := []) (avs := [.int x1, .int 2, .int 4]) (k_X11_fits l x1 2 4 M L) yoX11_fits ml_X11_141 rfl ⟨Nat.zero_le _, Nat.zero_le _⟩ (show decode cX11_isLegalThree 234 = .ok (.invokestatic 141, 3) from by decide +kernel) rfl (fun v σ' hPo => ?_)
  obtain ⟨⟨rfl, rfl⟩, g78, -⟩ := hPo
  show V 0 0 237 [(1, .int x1)] [.int (f_X11_fits x1 2 4)] LAY (M, L)
  subst h
  exact x_iret C (show decode cX11_isLegalThree 237 = .ok (.ireturn, 1) from by decide +kernel) (x_finI (x_nb g78) ⟨⟨rfl, rfl⟩, g78, trivial⟩) (Nat.le_refl 0) (Nat.le_refl 0)
set_option maxRecDepth 20000 in
set_option maxHeartbeats 4000000 in
theorem b_X11_isLegalThree_27 {l : Launch} {L : Nat → Nat → Int64} {V : XJ} (r : Int32) {M : St} (C : C_X11_isLegalThree l r M L V) (x0 : Int32) (x1 : Int32) (x2 : Int32) (h : f_X11_isLegalThree_27 x0 x1 x2 = r) : V 0 0 27 [(0, .int x0), (1, .int x1), (2, .int x2)] [] LAY (M, L) := by
  unfold f_X11_isLegalThree_27 at h
  refine x_run C e_X11_isLegalThree_4 e_X11_isLegalThree_4_k (pc' := 28) (lv' := [(0, .int x0), (1, .int x1), (2, .int x2)]) (st' := [.int x0]) (σ' := (M, L)) rfl ⟨trivial, trivial⟩ ?_
  by_cases c10 : x0 = 3
  · rw [if_pos c10] at h
    refine x_tin C (show decode cX11_isLegalThree 28 = .ok (.tableswitch 210 3 27 #[116, 210, 210, 210, 124, 210, 210, 210, 124, 210, 210, 210, 131, 210, 210, 210, 131, 139, 158, 158, 210, 183, 183, 203, 203], 116) from by decide +kernel) 3 c10 (off := 116) (tgt := 144) (by decide) ?_
    refine x_run C e_X11_isLegalThree_5 e_X11_isLegalThree_5_k (pc' := 148) (lv' := [(0, .int x0), (1, .int x1), (2, .int x2)]) (st' := [.int 9, .int 1, .int x1]) (σ' := (M, L)) rfl ⟨trivial, trivial, trivial, trivial⟩ ?_
    refine x_callS C (rest := []) (avs := [.int x1, .int 1, .int 9]) (k_X11_fits l x1 1 9 M L) yoX11_fits ml_X11_141 rfl ⟨Nat.zero_le _, Nat.zero_le _⟩ (show decode cX11_isLegalThree 148 = .ok (.invokestatic 141, 3) from by decide +kernel) rfl (fun v σ' hPo => ?_)
    obtain ⟨⟨rfl, rfl⟩, g12, -⟩ := hPo
    show V 0 0 151 [(0, .int x0), (1, .int x1), (2, .int x2)] [.int (f_X11_fits x1 1 9)] LAY (M, L)
    subst h
    exact x_iret C (show decode cX11_isLegalThree 151 = .ok (.ireturn, 1) from by decide +kernel) (x_finI (x_nb g12) ⟨⟨rfl, rfl⟩, g12, trivial⟩) (Nat.le_refl 0) (Nat.le_refl 0)
  rw [if_neg c10] at h
  by_cases c14 : x0 = 4
  · rw [if_pos c14] at h
    refine x_tin C (show decode cX11_isLegalThree 28 = .ok (.tableswitch 210 3 27 #[116, 210, 210, 210, 124, 210, 210, 210, 124, 210, 210, 210, 131, 210, 210, 210, 131, 139, 158, 158, 210, 183, 183, 203, 203], 116) from by decide +kernel) 4 c14 (off := 210) (tgt := 238) (by decide) ?_
    refine x_lv C [0, 1] rfl ?_
    exact b_X11_isLegalThree_238 r C x0 x1  h
  rw [if_neg c14] at h
  by_cases c15 : x0 = 5
  · rw [if_pos c15] at h
    refine x_tin C (show decode cX11_isLegalThree 28 = .ok (.tableswitch 210 3 27 #[116, 210, 210, 210, 124, 210, 210, 210, 124, 210, 210, 210, 131, 210, 210, 210, 131, 139, 158, 158, 210, 183, 183, 203, 203], 116) from by decide +kernel) 5 c15 (off := 210) (tgt := 238) (by decide) ?_
    refine x_lv C [0, 1] rfl ?_
    exact b_X11_isLegalThree_238 r C x0 x1  h
  rw [if_neg c15] at h
  by_cases c16 : x0 = 6
  · rw [if_pos c16] at h
    refine x_tin C (show decode cX11_isLegalThree 28 = .ok (.tableswitch 210 3 27 #[116, 210, 210, 210, 124, 210, 210, 210, 124, 210, 210, 210, 131, 210, 210, 210, 131, 139, 158, 158, 210, 183, 183, 203, 203], 116) from by decide +kernel) 6 c16 (off := 210) (tgt := 238) (by decide) ?_
    refine x_lv C [0, 1] rfl ?_
    exact b_X11_isLegalThree_238 r C x0 x1  h
  rw [if_neg c16] at h
  by_cases c17 : x0 = 7
  · rw [if_pos c17] at h
    refine x_tin C (show decode cX11_isLegalThree 28 = .ok (.tableswitch 210 3 27 #[116, 210, 210, 210, 124, 210, 210, 210, 124, 210, 210, 210, 131, 210, 210, 210, 131, 139, 158, 158, 210, 183, 183, 203, 203], 116) from by decide +kernel) 7 c17 (off := 124) (tgt := 152) (by decide) ?_
    refine x_lv C [1] rfl ?_
    exact b_X11_isLegalThree_152 r C x1  h
  rw [if_neg c17] at h
  by_cases c18 : x0 = 8
  · rw [if_pos c18] at h
    refine x_tin C (show decode cX11_isLegalThree 28 = .ok (.tableswitch 210 3 27 #[116, 210, 210, 210, 124, 210, 210, 210, 124, 210, 210, 210, 131, 210, 210, 210, 131, 139, 158, 158, 210, 183, 183, 203, 203], 116) from by decide +kernel) 8 c18 (off := 210) (tgt := 238) (by decide) ?_
    refine x_lv C [0, 1] rfl ?_
    exact b_X11_isLegalThree_238 r C x0 x1  h
  rw [if_neg c18] at h
  by_cases c19 : x0 = 9
  · rw [if_pos c19] at h
    refine x_tin C (show decode cX11_isLegalThree 28 = .ok (.tableswitch 210 3 27 #[116, 210, 210, 210, 124, 210, 210, 210, 124, 210, 210, 210, 131, 210, 210, 210, 131, 139, 158, 158, 210, 183, 183, 203, 203], 116) from by decide +kernel) 9 c19 (off := 210) (tgt := 238) (by decide) ?_
    refine x_lv C [0, 1] rfl ?_
    exact b_X11_isLegalThree_238 r C x0 x1  h
  rw [if_neg c19] at h
  by_cases c20 : x0 = 10
  · rw [if_pos c20] at h
    refine x_tin C (show decode cX11_isLegalThree 28 = .ok (.tableswitch 210 3 27 #[116, 210, 210, 210, 124, 210, 210, 210, 124, 210, 210, 210, 131, 210, 210, 210, 131, 139, 158, 158, 210, 183, 183, 203, 203], 116) from by decide +kernel) 10 c20 (off := 210) (tgt := 238) (by decide) ?_
    refine x_lv C [0, 1] rfl ?_
    exact b_X11_isLegalThree_238 r C x0 x1  h
  rw [if_neg c20] at h
  by_cases c21 : x0 = 11
  · rw [if_pos c21] at h
    refine x_tin C (show decode cX11_isLegalThree 28 = .ok (.tableswitch 210 3 27 #[116, 210, 210, 210, 124, 210, 210, 210, 124, 210, 210, 210, 131, 210, 210, 210, 131, 139, 158, 158, 210, 183, 183, 203, 203], 116) from by decide +kernel) 11 c21 (off := 124) (tgt := 152) (by decide) ?_
    refine x_lv C [1] rfl ?_
    exact b_X11_isLegalThree_152 r C x1  h
  rw [if_neg c21] at h
  by_cases c22 : x0 = 12
  · rw [if_pos c22] at h
    refine x_tin C (show decode cX11_isLegalThree 28 = .ok (.tableswitch 210 3 27 #[116, 210, 210, 210, 124, 210, 210, 210, 124, 210, 210, 210, 131, 210, 210, 210, 131, 139, 158, 158, 210, 183, 183, 203, 203], 116) from by decide +kernel) 12 c22 (off := 210) (tgt := 238) (by decide) ?_
    refine x_lv C [0, 1] rfl ?_
    exact b_X11_isLegalThree_238 r C x0 x1  h
  rw [if_neg c22] at h
  by_cases c23 : x0 = 13
  · rw [if_pos c23] at h
    refine x_tin C (show decode cX11_isLegalThree 28 = .ok (.tableswitch 210 3 27 #[116, 210, 210, 210, 124, 210, 210, 210, 124, 210, 210, 210, 131, 210, 210, 210, 131, 139, 158, 158, 210, 183, 183, 203, 203], 116) from by decide +kernel) 13 c23 (off := 210) (tgt := 238) (by decide) ?_
    refine x_lv C [0, 1] rfl ?_
    exact b_X11_isLegalThree_238 r C x0 x1  h
  rw [if_neg c23] at h
  by_cases c24 : x0 = 14
  · rw [if_pos c24] at h
    refine x_tin C (show decode cX11_isLegalThree 28 = .ok (.tableswitch 210 3 27 #[116, 210, 210, 210, 124, 210, 210, 210, 124, 210, 210, 210, 131, 210, 210, 210, 131, 139, 158, 158, 210, 183, 183, 203, 203], 116) from by decide +kernel) 14 c24 (off := 210) (tgt := 238) (by decide) ?_
    refine x_lv C [0, 1] rfl ?_
    exact b_X11_isLegalThree_238 r C x0 x1  h
  rw [if_neg c24] at h
  by_cases c25 : x0 = 15
  · rw [if_pos c25] at h
    refine x_tin C (show decode cX11_isLegalThree 28 = .ok (.tableswitch 210 3 27 #[116, 210, 210, 210, 124, 210, 210, 210, 124, 210, 210, 210, 131, 210, 210, 210, 131, 139, 158, 158, 210, 183, 183, 203, 203], 116) from by decide +kernel) 15 c25 (off := 131) (tgt := 159) (by decide) ?_
    refine x_lv C [1] rfl ?_
    exact b_X11_isLegalThree_159 r C x1  h
  rw [if_neg c25] at h
  by_cases c26 : x0 = 16
  · rw [if_pos c26] at h
    refine x_tin C (show decode cX11_isLegalThree 28 = .ok (.tableswitch 210 3 27 #[116, 210, 210, 210, 124, 210, 210, 210, 124, 210, 210, 210, 131, 210, 210, 210, 131, 139, 158, 158, 210, 183, 183, 203, 203], 116) from by decide +kernel) 16 c26 (off := 210) (tgt := 238) (by decide) ?_
    refine x_lv C [0, 1] rfl ?_
    exact b_X11_isLegalThree_238 r C x0 x1  h
  rw [if_neg c26] at h
  by_cases c27 : x0 = 17
  · rw [if_pos c27] at h
    refine x_tin C (show decode cX11_isLegalThree 28 = .ok (.tableswitch 210 3 27 #[116, 210, 210, 210, 124, 210, 210, 210, 124, 210, 210, 210, 131, 210, 210, 210, 131, 139, 158, 158, 210, 183, 183, 203, 203], 116) from by decide +kernel) 17 c27 (off := 210) (tgt := 238) (by decide) ?_
    refine x_lv C [0, 1] rfl ?_
    exact b_X11_isLegalThree_238 r C x0 x1  h
  rw [if_neg c27] at h
  by_cases c28 : x0 = 18
  · rw [if_pos c28] at h
    refine x_tin C (show decode cX11_isLegalThree 28 = .ok (.tableswitch 210 3 27 #[116, 210, 210, 210, 124, 210, 210, 210, 124, 210, 210, 210, 131, 210, 210, 210, 131, 139, 158, 158, 210, 183, 183, 203, 203], 116) from by decide +kernel) 18 c28 (off := 210) (tgt := 238) (by decide) ?_
    refine x_lv C [0, 1] rfl ?_
    exact b_X11_isLegalThree_238 r C x0 x1  h
  rw [if_neg c28] at h
  by_cases c29 : x0 = 19
  · rw [if_pos c29] at h
    refine x_tin C (show decode cX11_isLegalThree 28 = .ok (.tableswitch 210 3 27 #[116, 210, 210, 210, 124, 210, 210, 210, 124, 210, 210, 210, 131, 210, 210, 210, 131, 139, 158, 158, 210, 183, 183, 203, 203], 116) from by decide +kernel) 19 c29 (off := 131) (tgt := 159) (by decide) ?_
    refine x_lv C [1] rfl ?_
    exact b_X11_isLegalThree_159 r C x1  h
  rw [if_neg c29] at h
  by_cases c30 : x0 = 20
  · rw [if_pos c30] at h
    refine x_tin C (show decode cX11_isLegalThree 28 = .ok (.tableswitch 210 3 27 #[116, 210, 210, 210, 124, 210, 210, 210, 124, 210, 210, 210, 131, 210, 210, 210, 131, 139, 158, 158, 210, 183, 183, 203, 203], 116) from by decide +kernel) 20 c30 (off := 139) (tgt := 167) (by decide) ?_
    refine x_run C e_X11_isLegalThree_6 e_X11_isLegalThree_6_k (pc' := 168) (lv' := [(0, .int x0), (1, .int x1), (2, .int x2)]) (st' := [.int x2]) (σ' := (M, L)) rfl ⟨trivial, trivial⟩ ?_
    refine x_if_eq C (show decode cX11_isLegalThree 168 = .ok (.ifCond .eq 12, 3) from by decide +kernel) (tgt := 180) (by decide) (fun c31 => ?_) (fun c31 => ?_)
    · rw [if_pos c31] at h
      have g32 : xrg 0 0 x2 := (x_c_eq (x_rgt x2) (x_rgc (x := 0) (k := 0) (by decide)) c31).1
      refine x_run C e_X11_isLegalThree_7 e_X11_isLegalThree_7_k (pc' := 181) (lv' := [(0, .int x0), (1, .int x1), (2, .int x2)]) (st' := [.int 1]) (σ' := (M, L)) rfl ⟨trivial, trivial⟩ ?_
      refine x_goto C (show decode cX11_isLegalThree 181 = .ok (.goto 4, 3) from by decide +kernel) (tgt := 185) (by decide) ?_
      subst h
      exact x_iret C (show decode cX11_isLegalThree 185 = .ok (.ireturn, 1) from by decide +kernel) (x_finI (x_nb (x_rgw (x_rgc (x := 1) (k := 1) (by decide)) (lo' := 0) (hi' := 1) (by decide) (by decide))) ⟨⟨rfl, rfl⟩, (x_rgw (x_rgc (x := 1) (k := 1) (by decide)) (lo' := 0) (hi' := 1) (by decide) (by decide)), trivial⟩) (Nat.le_refl 0) (Nat.le_refl 0)
    · rw [if_neg c31] at h
      refine x_run C e_X11_isLegalThree_8 e_X11_isLegalThree_8_k (pc' := 174) (lv' := [(0, .int x0), (1, .int x1), (2, .int x2)]) (st' := [.int 4, .int 2, .int x1]) (σ' := (M, L)) rfl ⟨trivial, trivial, trivial, trivial⟩ ?_
      refine x_callS C (rest := []) (avs := [.int x1, .int 2, .int 4]) (k_X11_fits l x1 2 4 M L) yoX11_fits ml_X11_141 rfl ⟨Nat.zero_le _, Nat.zero_le _⟩ (show decode cX11_isLegalThree 174 = .ok (.invokestatic 141, 3) from by decide +kernel) rfl (fun v σ' hPo => ?_)
      obtain ⟨⟨rfl, rfl⟩, g34, -⟩ := hPo
      show V 0 0 177 [(0, .int x0), (1, .int x1), (2, .int x2)] [.int (f_X11_fits x1 2 4)] LAY (M, L)
      refine x_if_eq C (show decode cX11_isLegalThree 177 = .ok (.ifCond .eq 7, 3) from by decide +kernel) (tgt := 184) (by decide) (fun c36 => ?_) (fun c36 => ?_)
      · rw [if_pos c36] at h
        have g37 : xrg 0 0 (f_X11_fits x1 2 4) := (x_c_eq g34 (x_rgc (x := 0) (k := 0) (by decide)) c36).1
        refine x_run C e_X11_isLegalThree_9 e_X11_isLegalThree_9_k (pc' := 185) (lv' := [(0, .int x0), (1, .int x1), (2, .int x2)]) (st' := [.int 0]) (σ' := (M, L)) rfl ⟨trivial, trivial⟩ ?_
        subst h
        exact x_iret C (show decode cX11_isLegalThree 185 = .ok (.ireturn, 1) from by decide +kernel) (x_finI (x_nb (x_rgw (x_rgc (x := 0) (k := 0) (by decide)) (lo' := 0) (hi' := 1) (by decide) (by decide))) ⟨⟨rfl, rfl⟩, (x_rgw (x_rgc (x := 0) (k := 0) (by decide)) (lo' := 0) (hi' := 1) (by decide) (by decide)), trivial⟩) (Nat.le_refl 0) (Nat.le_refl 0)
      · rw [if_neg c36] at h
        have g38 : xrg 1 1 (f_X11_fits x1 2 4) := (x_c_ne g34 (by decide) c36)
        refine x_run C e_X11_isLegalThree_7 e_X11_isLegalThree_7_k (pc' := 181) (lv' := [(0, .int x0), (1, .int x1), (2, .int x2)]) (st' := [.int 1]) (σ' := (M, L)) rfl ⟨trivial, trivial⟩ ?_
        refine x_goto C (show decode cX11_isLegalThree 181 = .ok (.goto 4, 3) from by decide +kernel) (tgt := 185) (by decide) ?_
        subst h
        exact x_iret C (show decode cX11_isLegalThree 185 = .ok (.ireturn, 1) from by decide +kernel) (x_finI (x_nb (x_rgw (x_rgc (x := 1) (k := 1) (by decide)) (lo' := 0) (hi' := 1) (by decide) (by decide))) ⟨⟨rfl, rfl⟩, (x_rgw (x_rgc (x := 1) (k := 1) (by decide)) (lo' := 0) (hi' := 1) (by decide) (by decide)), trivial⟩) (Nat.le_refl 0) (Nat.le_refl 0)
  rw [if_neg c30] at h
  by_cases c39 : x0 = 21
  · rw [if_pos c39] at h
    refine x_tin C (show decode cX11_isLegalThree 28 = .ok (.tableswitch 210 3 27 #[116, 210, 210, 210, 124, 210, 210, 210, 124, 210, 210, 210, 131, 210, 210, 210, 131, 139, 158, 158, 210, 183, 183, 203, 203], 116) from by decide +kernel) 21 c39 (off := 158) (tgt := 186) (by decide) ?_
    refine x_lv C [1, 2] rfl ?_
    exact b_X11_isLegalThree_186 r C x1 x2  h
  rw [if_neg c39] at h
  by_cases c40 : x0 = 22
  · rw [if_pos c40] at h
    refine x_tin C (show decode cX11_isLegalThree 28 = .ok (.tableswitch 210 3 27 #[116, 210, 210, 210, 124, 210, 210, 210, 124, 210, 210, 210, 131, 210, 210, 210, 131, 139, 158, 158, 210, 183, 183, 203, 203], 116) from by decide +kernel) 22 c40 (off := 158) (tgt := 186) (by decide) ?_
    refine x_lv C [1, 2] rfl ?_
    exact b_X11_isLegalThree_186 r C x1 x2  h
  rw [if_neg c40] at h
  by_cases c41 : x0 = 23
  · rw [if_pos c41] at h
    refine x_tin C (show decode cX11_isLegalThree 28 = .ok (.tableswitch 210 3 27 #[116, 210, 210, 210, 124, 210, 210, 210, 124, 210, 210, 210, 131, 210, 210, 210, 131, 139, 158, 158, 210, 183, 183, 203, 203], 116) from by decide +kernel) 23 c41 (off := 210) (tgt := 238) (by decide) ?_
    refine x_lv C [0, 1] rfl ?_
    exact b_X11_isLegalThree_238 r C x0 x1  h
  rw [if_neg c41] at h
  by_cases c42 : x0 = 24
  · rw [if_pos c42] at h
    refine x_tin C (show decode cX11_isLegalThree 28 = .ok (.tableswitch 210 3 27 #[116, 210, 210, 210, 124, 210, 210, 210, 124, 210, 210, 210, 131, 210, 210, 210, 131, 139, 158, 158, 210, 183, 183, 203, 203], 116) from by decide +kernel) 24 c42 (off := 183) (tgt := 211) (by decide) ?_
    refine x_lv C [1, 2] rfl ?_
    exact b_X11_isLegalThree_211 r C x1 x2  h
  rw [if_neg c42] at h
  by_cases c43 : x0 = 25
  · rw [if_pos c43] at h
    refine x_tin C (show decode cX11_isLegalThree 28 = .ok (.tableswitch 210 3 27 #[116, 210, 210, 210, 124, 210, 210, 210, 124, 210, 210, 210, 131, 210, 210, 210, 131, 139, 158, 158, 210, 183, 183, 203, 203], 116) from by decide +kernel) 25 c43 (off := 183) (tgt := 211) (by decide) ?_
    refine x_lv C [1, 2] rfl ?_
    exact b_X11_isLegalThree_211 r C x1 x2  h
  rw [if_neg c43] at h
  by_cases c44 : x0 = 26
  · rw [if_pos c44] at h
    refine x_tin C (show decode cX11_isLegalThree 28 = .ok (.tableswitch 210 3 27 #[116, 210, 210, 210, 124, 210, 210, 210, 124, 210, 210, 210, 131, 210, 210, 210, 131, 139, 158, 158, 210, 183, 183, 203, 203], 116) from by decide +kernel) 26 c44 (off := 203) (tgt := 231) (by decide) ?_
    refine x_lv C [1] rfl ?_
    exact b_X11_isLegalThree_231 r C x1  h
  rw [if_neg c44] at h
  by_cases c45 : x0 = 27
  · rw [if_pos c45] at h
    refine x_tin C (show decode cX11_isLegalThree 28 = .ok (.tableswitch 210 3 27 #[116, 210, 210, 210, 124, 210, 210, 210, 124, 210, 210, 210, 131, 210, 210, 210, 131, 139, 158, 158, 210, 183, 183, 203, 203], 116) from by decide +kernel) 27 c45 (off := 203) (tgt := 231) (by decide) ?_
    refine x_lv C [1] rfl ?_
    exact b_X11_isLegalThree_231 r C x1  h
  rw [if_neg c45] at h
  have hz : x0.toInt < 3 ∨ 27 < x0.toInt := by
    have zc10 := lv_neT (a := 3) c10 (by decide)
    have zc14 := lv_neT (a := 4) c14 (by decide)
    have zc15 := lv_neT (a := 5) c15 (by decide)
    have zc16 := lv_neT (a := 6) c16 (by decide)
    have zc17 := lv_neT (a := 7) c17 (by decide)
    have zc18 := lv_neT (a := 8) c18 (by decide)
    have zc19 := lv_neT (a := 9) c19 (by decide)
    have zc20 := lv_neT (a := 10) c20 (by decide)
    have zc21 := lv_neT (a := 11) c21 (by decide)
    have zc22 := lv_neT (a := 12) c22 (by decide)
    have zc23 := lv_neT (a := 13) c23 (by decide)
    have zc24 := lv_neT (a := 14) c24 (by decide)
    have zc25 := lv_neT (a := 15) c25 (by decide)
    have zc26 := lv_neT (a := 16) c26 (by decide)
    have zc27 := lv_neT (a := 17) c27 (by decide)
    have zc28 := lv_neT (a := 18) c28 (by decide)
    have zc29 := lv_neT (a := 19) c29 (by decide)
    have zc30 := lv_neT (a := 20) c30 (by decide)
    have zc39 := lv_neT (a := 21) c39 (by decide)
    have zc40 := lv_neT (a := 22) c40 (by decide)
    have zc41 := lv_neT (a := 23) c41 (by decide)
    have zc42 := lv_neT (a := 24) c42 (by decide)
    have zc43 := lv_neT (a := 25) c43 (by decide)
    have zc44 := lv_neT (a := 26) c44 (by decide)
    have zc45 := lv_neT (a := 27) c45 (by decide)
    omega
  refine x_tout C (show decode cX11_isLegalThree 28 = .ok (.tableswitch 210 3 27 #[116, 210, 210, 210, 124, 210, 210, 210, 124, 210, 210, 210, 131, 210, 210, 210, 131, 139, 158, 158, 210, 183, 183, 203, 203], 116) from by decide +kernel) hz (tgt := 238) (by decide) ?_
  refine x_lv C [0, 1] rfl ?_
  exact b_X11_isLegalThree_238 r C x0 x1  h
set_option maxRecDepth 20000 in
set_option maxHeartbeats 4000000 in
theorem k_X11_isLegalThree (l : Launch) (a1 : Int32) (a2 : Int32) (M : St) (L : Nat → Nat → Int64) : XM l yX11_isLegalThree cX11_isLegalThree 4 (some .boolean) R_X11_isLegalThree LAY [.int a1, .int a2] (M, L) (P_X11_isLegalThree (f_X11_isLegalThree a1 a2) M L) := by
  refine XM.of (by decide) (Nat.le_of_ble_eq_true rfl) LAY_in cl_ok fl_X11_ok kc_X11_ok (fun V C => ?_)
  obtain ⟨r, h⟩ : ∃ r, f_X11_isLegalThree a1 a2 = r := ⟨_, rfl⟩
  rw [h] at C
  change C_X11_isLegalThree l r M L V at C
  unfold f_X11_isLegalThree at h
  show V 0 0 0 [(0, .int a1), (1, .int a2)] [] LAY (M, L)
  refine x_run C e_X11_isLegalThree_1 e_X11_isLegalThree_1_k (pc' := 11) (lv' := [(3, .int (a1 &&& 3)), (2, .int (a2 >>> ((3 : Int32) &&& 31))), (0, .int a1), (1, .int a2)]) (st' := [.int 19, .int a1]) (σ' := (M, L)) rfl ⟨trivial, trivial, trivial, trivial, trivial, trivial, trivial, trivial, trivial, trivial, trivial⟩ ?_
  refine x_icmp_ge C (show decode cX11_isLegalThree 11 = .ok (.if_icmp .ge 16, 3) from by decide +kernel) (tgt := 27) (by decide) (fun c1 => ?_) (fun c1 => ?_)
  · rw [if_pos c1] at h
    have g2 : xrg 19 2147483647 a1 := (x_c_le (x_rgc (x := 19) (k := 19) (by decide)) (x_rgt a1) c1).2
    refine x_lv C [2, 3, 1] rfl ?_
    exact b_X11_isLegalThree_27 r C a1 a2 (a2 >>> ((3 : Int32) &&& 31))  h
  · rw [if_neg c1] at h
    have g3 : xrg (-2147483648) 18 a1 := (x_c_nle (x_rgc (x := 19) (k := 19) (by decide)) (x_rgt a1) c1).2
    refine x_run C e_X11_isLegalThree_2 e_X11_isLegalThree_2_k (pc' := 16) (lv' := [(3, .int (a1 &&& 3)), (2, .int (a2 >>> ((3 : Int32) &&& 31))), (0, .int a1), (1, .int a2)]) (st' := [.int 3, .int (a1 &&& 3)]) (σ' := (M, L)) rfl ⟨trivial, trivial, trivial⟩ ?_
    refine x_icmp_ge C (show decode cX11_isLegalThree 16 = .ok (.if_icmp .ge 11, 3) from by decide +kernel) (tgt := 27) (by decide) (fun c4 => ?_) (fun c4 => ?_)
    · rw [if_pos c4] at h
      have g5 : xrg 3 3 (a1 &&& 3) := (x_c_le (x_rgc (x := 3) (k := 3) (by decide)) (x_rg_and (x := a1) (m := 3) (k := 3) (by decide) (by decide)) c4).2
      refine x_lv C [2, 3, 1] rfl ?_
      exact b_X11_isLegalThree_27 r C a1 a2 (a2 >>> ((3 : Int32) &&& 31))  h
    · rw [if_neg c4] at h
      have g6 : xrg 0 2 (a1 &&& 3) := (x_c_nle (x_rgc (x := 3) (k := 3) (by decide)) (x_rg_and (x := a1) (m := 3) (k := 3) (by decide) (by decide)) c4).2
      refine x_run C e_X11_isLegalThree_3 e_X11_isLegalThree_3_k (pc' := 23) (lv' := [(3, .int (a1 &&& 3)), (2, .int (a2 >>> ((3 : Int32) &&& 31))), (0, .int a1), (1, .int a2)]) (st' := [.int 9, .int (a1 &&& 3), .int a2]) (σ' := (M, L)) rfl ⟨trivial, trivial, trivial, trivial⟩ ?_
      refine x_callS C (rest := []) (avs := [.int a2, .int (a1 &&& 3), .int 9]) (k_X11_fits l a2 (a1 &&& 3) 9 M L) yoX11_fits ml_X11_141 rfl ⟨Nat.zero_le _, Nat.zero_le _⟩ (show decode cX11_isLegalThree 23 = .ok (.invokestatic 141, 3) from by decide +kernel) rfl (fun v σ' hPo => ?_)
      obtain ⟨⟨rfl, rfl⟩, g8, -⟩ := hPo
      show V 0 0 26 [(3, .int (a1 &&& 3)), (2, .int (a2 >>> ((3 : Int32) &&& 31))), (0, .int a1), (1, .int a2)] [.int (f_X11_fits a2 (a1 &&& 3) 9)] LAY (M, L)
      subst h
      exact x_iret C (show decode cX11_isLegalThree 26 = .ok (.ireturn, 1) from by decide +kernel) (x_finI (x_nb g8) ⟨⟨rfl, rfl⟩, g8, trivial⟩) (Nat.le_refl 0) (Nat.le_refl 0)
-- X11_isStatus
def e_X11_isStatus_1 : List xI := [(0, .iload_n 0, 1, .null), (1, .bipush 60, 2, .int 60)]
theorem e_X11_isStatus_1_k : e_X11_isStatus_1.all (fun q => xokB cX11_isStatus q && xokL q) = true := by decide +kernel
def e_X11_isStatus_2 : List xI := [(24, .iconst 0, 1, .int 0)]
theorem e_X11_isStatus_2_k : e_X11_isStatus_2.all (fun q => xokB cX11_isStatus q && xokL q) = true := by decide +kernel
def e_X11_isStatus_3 : List xI := [(6, .iload_n 1, 1, .null)]
theorem e_X11_isStatus_3_k : e_X11_isStatus_3.all (fun q => xokB cX11_isStatus q && xokL q) = true := by decide +kernel
def e_X11_isStatus_4 : List xI := [(20, .iconst 1, 1, .int 1)]
theorem e_X11_isStatus_4_k : e_X11_isStatus_4.all (fun q => xokB cX11_isStatus q && xokL q) = true := by decide +kernel
def e_X11_isStatus_5 : List xI := [(10, .iload_n 1, 1, .null), (11, .iconst 1, 1, .int 1)]
theorem e_X11_isStatus_5_k : e_X11_isStatus_5.all (fun q => xokB cX11_isStatus q && xokL q) = true := by decide +kernel
def e_X11_isStatus_6 : List xI := [(15, .iload_n 1, 1, .null), (16, .iconst 5, 1, .int 5)]
theorem e_X11_isStatus_6_k : e_X11_isStatus_6.all (fun q => xokB cX11_isStatus q && xokL q) = true := by decide +kernel
abbrev P_X11_isStatus (r : Int32) (M0 : St) (L : Nat → Nat → Int64) : Option Value → xG → Prop := fun v σ' => PoI r M0 L v σ' ∧ xrg 0 1 r ∧ True
abbrev R_X11_isStatus : Room := { frames := 0, cells := 0, slots := 0, locals := 0 }
abbrev C_X11_isStatus (l : Launch) (r : Int32) (M0 : St) (L : Nat → Nat → Int64) (V : XJ) : Prop := XC l yX11_isStatus.cls yX11_isStatus.name cX11_isStatus 2 R_X11_isStatus 0 0 fl_X11 kc_X11 LAY.length (xfin (some .boolean) LAY (P_X11_isStatus r M0 L)) V
def f_X11_isStatus (a1 : Int32) (a2 : Int32) : Int32 := (if a1 = 60 then (if a2 = 0 then 1 else (if a2 = 1 then 1 else (if a2 = 5 then 1 else 0))) else 0)
set_option maxRecDepth 20000 in
set_option maxHeartbeats 4000000 in
theorem k_X11_isStatus (l : Launch) (a1 : Int32) (a2 : Int32) (M : St) (L : Nat → Nat → Int64) : XM l yX11_isStatus cX11_isStatus 2 (some .boolean) R_X11_isStatus LAY [.int a1, .int a2] (M, L) (P_X11_isStatus (f_X11_isStatus a1 a2) M L) := by
  refine XM.of (by decide) (Nat.le_of_ble_eq_true rfl) LAY_in cl_ok fl_X11_ok kc_X11_ok (fun V C => ?_)
  obtain ⟨r, h⟩ : ∃ r, f_X11_isStatus a1 a2 = r := ⟨_, rfl⟩
  rw [h] at C
  change C_X11_isStatus l r M L V at C
  unfold f_X11_isStatus at h
  show V 0 0 0 [(0, .int a1), (1, .int a2)] [] LAY (M, L)
  refine x_run C e_X11_isStatus_1 e_X11_isStatus_1_k (pc' := 3) (lv' := [(0, .int a1), (1, .int a2)]) (st' := [.int 60, .int a1]) (σ' := (M, L)) rfl ⟨trivial, trivial, trivial⟩ ?_
  refine x_icmp_ne C (show decode cX11_isStatus 3 = .ok (.if_icmp .ne 21, 3) from by decide +kernel) (tgt := 24) (by decide) (fun c1 => ?_) (fun c1 => ?_)
  · rw [if_neg c1] at h
    refine x_run C e_X11_isStatus_2 e_X11_isStatus_2_k (pc' := 25) (lv' := [(0, .int a1), (1, .int a2)]) (st' := [.int 0]) (σ' := (M, L)) rfl ⟨trivial, trivial⟩ ?_
    subst h
    exact x_iret C (show decode cX11_isStatus 25 = .ok (.ireturn, 1) from by decide +kernel) (x_finI (x_nb (x_rgw (x_rgc (x := 0) (k := 0) (by decide)) (lo' := 0) (hi' := 1) (by decide) (by decide))) ⟨⟨rfl, rfl⟩, (x_rgw (x_rgc (x := 0) (k := 0) (by decide)) (lo' := 0) (hi' := 1) (by decide) (by decide)), trivial⟩) (Nat.le_refl 0) (Nat.le_refl 0)
  · rw [if_pos c1] at h
    have g2 : xrg 60 60 a1 := (x_c_eq (x_rgt a1) (x_rgc (x := 60) (k := 60) (by decide)) c1).1
    refine x_run C e_X11_isStatus_3 e_X11_isStatus_3_k (pc' := 7) (lv' := [(0, .int a1), (1, .int a2)]) (st' := [.int a2]) (σ' := (M, L)) rfl ⟨trivial, trivial⟩ ?_
    refine x_if_eq C (show decode cX11_isStatus 7 = .ok (.ifCond .eq 13, 3) from by decide +kernel) (tgt := 20) (by decide) (fun c3 => ?_) (fun c3 => ?_)
    · rw [if_pos c3] at h
      have g4 : xrg 0 0 a2 := (x_c_eq (x_rgt a2) (x_rgc (x := 0) (k := 0) (by decide)) c3).1
      refine x_run C e_X11_isStatus_4 e_X11_isStatus_4_k (pc' := 21) (lv' := [(0, .int a1), (1, .int a2)]) (st' := [.int 1]) (σ' := (M, L)) rfl ⟨trivial, trivial⟩ ?_
      refine x_goto C (show decode cX11_isStatus 21 = .ok (.goto 4, 3) from by decide +kernel) (tgt := 25) (by decide) ?_
      subst h
      exact x_iret C (show decode cX11_isStatus 25 = .ok (.ireturn, 1) from by decide +kernel) (x_finI (x_nb (x_rgw (x_rgc (x := 1) (k := 1) (by decide)) (lo' := 0) (hi' := 1) (by decide) (by decide))) ⟨⟨rfl, rfl⟩, (x_rgw (x_rgc (x := 1) (k := 1) (by decide)) (lo' := 0) (hi' := 1) (by decide) (by decide)), trivial⟩) (Nat.le_refl 0) (Nat.le_refl 0)
    · rw [if_neg c3] at h
      refine x_run C e_X11_isStatus_5 e_X11_isStatus_5_k (pc' := 12) (lv' := [(0, .int a1), (1, .int a2)]) (st' := [.int 1, .int a2]) (σ' := (M, L)) rfl ⟨trivial, trivial, trivial⟩ ?_
      refine x_icmp_eq C (show decode cX11_isStatus 12 = .ok (.if_icmp .eq 8, 3) from by decide +kernel) (tgt := 20) (by decide) (fun c5 => ?_) (fun c5 => ?_)
      · rw [if_pos c5] at h
        have g6 : xrg 1 1 a2 := (x_c_eq (x_rgt a2) (x_rgc (x := 1) (k := 1) (by decide)) c5).1
        refine x_run C e_X11_isStatus_4 e_X11_isStatus_4_k (pc' := 21) (lv' := [(0, .int a1), (1, .int a2)]) (st' := [.int 1]) (σ' := (M, L)) rfl ⟨trivial, trivial⟩ ?_
        refine x_goto C (show decode cX11_isStatus 21 = .ok (.goto 4, 3) from by decide +kernel) (tgt := 25) (by decide) ?_
        subst h
        exact x_iret C (show decode cX11_isStatus 25 = .ok (.ireturn, 1) from by decide +kernel) (x_finI (x_nb (x_rgw (x_rgc (x := 1) (k := 1) (by decide)) (lo' := 0) (hi' := 1) (by decide) (by decide))) ⟨⟨rfl, rfl⟩, (x_rgw (x_rgc (x := 1) (k := 1) (by decide)) (lo' := 0) (hi' := 1) (by decide) (by decide)), trivial⟩) (Nat.le_refl 0) (Nat.le_refl 0)
      · rw [if_neg c5] at h
        refine x_run C e_X11_isStatus_6 e_X11_isStatus_6_k (pc' := 17) (lv' := [(0, .int a1), (1, .int a2)]) (st' := [.int 5, .int a2]) (σ' := (M, L)) rfl ⟨trivial, trivial, trivial⟩ ?_
        refine x_icmp_ne C (show decode cX11_isStatus 17 = .ok (.if_icmp .ne 7, 3) from by decide +kernel) (tgt := 24) (by decide) (fun c7 => ?_) (fun c7 => ?_)
        · rw [if_neg c7] at h
          refine x_run C e_X11_isStatus_2 e_X11_isStatus_2_k (pc' := 25) (lv' := [(0, .int a1), (1, .int a2)]) (st' := [.int 0]) (σ' := (M, L)) rfl ⟨trivial, trivial⟩ ?_
          subst h
          exact x_iret C (show decode cX11_isStatus 25 = .ok (.ireturn, 1) from by decide +kernel) (x_finI (x_nb (x_rgw (x_rgc (x := 0) (k := 0) (by decide)) (lo' := 0) (hi' := 1) (by decide) (by decide))) ⟨⟨rfl, rfl⟩, (x_rgw (x_rgc (x := 0) (k := 0) (by decide)) (lo' := 0) (hi' := 1) (by decide) (by decide)), trivial⟩) (Nat.le_refl 0) (Nat.le_refl 0)
        · rw [if_pos c7] at h
          have g8 : xrg 5 5 a2 := (x_c_eq (x_rgt a2) (x_rgc (x := 5) (k := 5) (by decide)) c7).1
          refine x_run C e_X11_isStatus_4 e_X11_isStatus_4_k (pc' := 21) (lv' := [(0, .int a1), (1, .int a2)]) (st' := [.int 1]) (σ' := (M, L)) rfl ⟨trivial, trivial⟩ ?_
          refine x_goto C (show decode cX11_isStatus 21 = .ok (.goto 4, 3) from by decide +kernel) (tgt := 25) (by decide) ?_
          subst h
          exact x_iret C (show decode cX11_isStatus 25 = .ok (.ireturn, 1) from by decide +kernel) (x_finI (x_nb (x_rgw (x_rgc (x := 1) (k := 1) (by decide)) (lo' := 0) (hi' := 1) (by decide) (by decide))) ⟨⟨rfl, rfl⟩, (x_rgw (x_rgc (x := 1) (k := 1) (by decide)) (lo' := 0) (hi' := 1) (by decide) (by decide)), trivial⟩) (Nat.le_refl 0) (Nat.le_refl 0)
-- X11_isLegalTwelve
def e_X11_isLegalTwelve_1 : List xI := [(0, .iload_n 3, 1, .null)]
theorem e_X11_isLegalTwelve_1_k : e_X11_isLegalTwelve_1.all (fun q => xokB cX11_isLegalTwelve q && xokL q) = true := by decide +kernel
def e_X11_isLegalTwelve_2 : List xI := [(4, .iload_n 0, 1, .null), (5, .iconst 3, 1, .int 3), (6, .ishr, 1, .null), (7, .iconst 1, 1, .int 1)]
theorem e_X11_isLegalTwelve_2_k : e_X11_isLegalTwelve_2.all (fun q => xokB cX11_isLegalTwelve q && xokL q) = true := by decide +kernel
def e_X11_isLegalTwelve_3 : List xI := [(11, .iconst 1, 1, .int 1)]
theorem e_X11_isLegalTwelve_3_k : e_X11_isLegalTwelve_3.all (fun q => xokB cX11_isLegalTwelve q && xokL q) = true := by decide +kernel
def e_X11_isLegalTwelve_4 : List xI := [(13, .iload_n 3, 1, .null)]
theorem e_X11_isLegalTwelve_4_k : e_X11_isLegalTwelve_4.all (fun q => xokB cX11_isLegalTwelve q && xokL q) = true := by decide +kernel
def e_X11_isLegalTwelve_5 : List xI := [(17, .iload_n 2, 1, .null), (18, .iconst 4, 1, .int 4)]
theorem e_X11_isLegalTwelve_5_k : e_X11_isLegalTwelve_5.all (fun q => xokB cX11_isLegalTwelve q && xokL q) = true := by decide +kernel
def e_X11_isLegalTwelve_6 : List xI := [(56, .iload_n 0, 1, .null), (57, .iload_n 2, 1, .null)]
theorem e_X11_isLegalTwelve_6_k : e_X11_isLegalTwelve_6.all (fun q => xokB cX11_isLegalTwelve q && xokL q) = true := by decide +kernel
def e_X11_isLegalTwelve_7 : List xI := [(77, .iload_n 2, 1, .null), (78, .bipush 7, 2, .int 7)]
theorem e_X11_isLegalTwelve_7_k : e_X11_isLegalTwelve_7.all (fun q => xokB cX11_isLegalTwelve q && xokL q) = true := by decide +kernel
def e_X11_isLegalTwelve_8 : List xI := [(102, .iconst 0, 1, .int 0)]
theorem e_X11_isLegalTwelve_8_k : e_X11_isLegalTwelve_8.all (fun q => xokB cX11_isLegalTwelve q && xokL q) = true := by decide +kernel
def e_X11_isLegalTwelve_9 : List xI := [(83, .iload_n 1, 1, .null), (84, .iconst 3, 1, .int 3)]
theorem e_X11_isLegalTwelve_9_k : e_X11_isLegalTwelve_9.all (fun q => xokB cX11_isLegalTwelve q && xokL q) = true := by decide +kernel
def e_X11_isLegalTwelve_10 : List xI := [(88, .iload_n 0, 1, .null), (89, .iload_n 1, 1, .null), (90, .bipush 9, 2, .int 9)]
theorem e_X11_isLegalTwelve_10_k : e_X11_isLegalTwelve_10.all (fun q => xokB cX11_isLegalTwelve q && xokL q) = true := by decide +kernel
def e_X11_isLegalTwelve_11 : List xI := [(98, .iconst 1, 1, .int 1)]
theorem e_X11_isLegalTwelve_11_k : e_X11_isLegalTwelve_11.all (fun q => xokB cX11_isLegalTwelve q && xokL q) = true := by decide +kernel
def e_X11_isLegalTwelve_12 : List xI := [(64, .iload_n 1, 1, .null), (65, .iconst 2, 1, .int 2)]
theorem e_X11_isLegalTwelve_12_k : e_X11_isLegalTwelve_12.all (fun q => xokB cX11_isLegalTwelve q && xokL q) = true := by decide +kernel
def e_X11_isLegalTwelve_13 : List xI := [(73, .iconst 0, 1, .int 0)]
theorem e_X11_isLegalTwelve_13_k : e_X11_isLegalTwelve_13.all (fun q => xokB cX11_isLegalTwelve q && xokL q) = true := by decide +kernel
def e_X11_isLegalTwelve_14 : List xI := [(69, .iconst 1, 1, .int 1)]
theorem e_X11_isLegalTwelve_14_k : e_X11_isLegalTwelve_14.all (fun q => xokB cX11_isLegalTwelve q && xokL q) = true := by decide +kernel
def e_X11_isLegalTwelve_15 : List xI := [(22, .iload_n 0, 1, .null), (23, .iconst 0, 1, .int 0), (24, .iload_n 1, 1, .null)]
theorem e_X11_isLegalTwelve_15_k : e_X11_isLegalTwelve_15.all (fun q => xokB cX11_isLegalTwelve q && xokL q) = true := by decide +kernel
def e_X11_isLegalTwelve_16 : List xI := [(32, .bipush 9, 2, .int 9)]
theorem e_X11_isLegalTwelve_16_k : e_X11_isLegalTwelve_16.all (fun q => xokB cX11_isLegalTwelve q && xokL q) = true := by decide +kernel
def e_X11_isLegalTwelve_17 : List xI := [(28, .iconst 1, 1, .int 1)]
theorem e_X11_isLegalTwelve_17_k : e_X11_isLegalTwelve_17.all (fun q => xokB cX11_isLegalTwelve q && xokL q) = true := by decide +kernel
def e_X11_isLegalTwelve_18 : List xI := [(54, .iconst 0, 1, .int 0)]
theorem e_X11_isLegalTwelve_18_k : e_X11_isLegalTwelve_18.all (fun q => xokB cX11_isLegalTwelve q && xokL q) = true := by decide +kernel
def e_X11_isLegalTwelve_19 : List xI := [(40, .iload_n 3, 1, .null)]
theorem e_X11_isLegalTwelve_19_k : e_X11_isLegalTwelve_19.all (fun q => xokB cX11_isLegalTwelve q && xokL q) = true := by decide +kernel
def e_X11_isLegalTwelve_20 : List xI := [(50, .iconst 1, 1, .int 1)]
theorem e_X11_isLegalTwelve_20_k : e_X11_isLegalTwelve_20.all (fun q => xokB cX11_isLegalTwelve q && xokL q) = true := by decide +kernel
def e_X11_isLegalTwelve_21 : List xI := [(44, .iload_n 0, 1, .null), (45, .bipush 60, 2, .int 60)]
theorem e_X11_isLegalTwelve_21_k : e_X11_isLegalTwelve_21.all (fun q => xokB cX11_isLegalTwelve q && xokL q) = true := by decide +kernel
abbrev P_X11_isLegalTwelve (r : Int32) (M0 : St) (L : Nat → Nat → Int64) : Option Value → xG → Prop := fun v σ' => PoI r M0 L v σ' ∧ xrg 0 1 r ∧ True
abbrev R_X11_isLegalTwelve : Room := { frames := 1, cells := 0, slots := 0, locals := 24 }
abbrev C_X11_isLegalTwelve (l : Launch) (r : Int32) (M0 : St) (L : Nat → Nat → Int64) (V : XJ) : Prop := XC l yX11_isLegalTwelve.cls yX11_isLegalTwelve.name cX11_isLegalTwelve 4 R_X11_isLegalTwelve 0 0 fl_X11 kc_X11 LAY.length (xfin (some .boolean) LAY (P_X11_isLegalTwelve r M0 L)) V
def f_X11_isLegalTwelve_34 (x0 : Int32) (x3 : Int32) (s0 : Int32) (s1 : Int32) (s2 : Int32) : Int32 := (if (f_X11_fits s2 s1 s0) = 0 then 0 else (if x3 = 0 then (if x0 = 60 then 0 else 1) else 1))
def f_X11_isLegalTwelve_22 (x0 : Int32) (x1 : Int32) (x3 : Int32) : Int32 := (if x1 = 0 then f_X11_isLegalTwelve_34 x0 x3 1 0 x0 else f_X11_isLegalTwelve_34 x0 x3 9 0 x0)
def f_X11_isLegalTwelve_13 (x0 : Int32) (x1 : Int32) (x2 : Int32) (x3 : Int32) : Int32 := (if x3 = 0 then (if x2 = 4 then f_X11_isLegalTwelve_22 x0 x1 x3 else (if (f_X11_isStatus x0 x2) = 0 then (if 7 ≤ x2 then 0 else (if 3 ≤ x1 then 0 else (if (f_X11_fits x0 x1 9) = 0 then 0 else 1))) else (if 2 ≤ x1 then 0 else 1))) else f_X11_isLegalTwelve_22 x0 x1 x3)
def f_X11_isLegalTwelve (a1 : Int32) (a2 : Int32) (a3 : Int32) (a4 : Int32) : Int32 := (if a4 = 0 then f_X11_isLegalTwelve_13 a1 a2 a3 a4 else (if (a1 >>> ((3 : Int32) &&& 31)) = 1 then 1 else f_X11_isLegalTwelve_13 a1 a2 a3 a4))
set_option maxRecDepth 20000 in
set_option maxHeartbeats 4000000 in
theorem b_X11_isLegalTwelve_34 {l : Launch} {L : Nat → Nat → Int64} {V : XJ} (r : Int32) {M : St} (C : C_X11_isLegalTwelve l r M L V) (x0 : Int32) (x3 : Int32) (s0 : Int32) (s1 : Int32) (s2 : Int32) (ws0 : xrg 1 9 s0) (ws1 : xrg 0 0 s1) (h : f_X11_isLegalTwelve_34 x0 x3 s0 s1 s2 = r) : V 0 0 34 [(0, .int x0), (3, .int x3)] [.int s0, .int s1, .int s2] LAY (M, L) := by
  unfold f_X11_isLegalTwelve_34 at h
  refine x_callS C (rest := []) (avs := [.int s2, .int s1, .int s0]) (k_X11_fits l s2 s1 s0 M L) yoX11_fits ml_X11_141 rfl ⟨Nat.zero_le _, Nat.zero_le _⟩ (show decode cX11_isLegalTwelve 34 = .ok (.invokestatic 141, 3) from by decide +kernel) rfl (fun v σ' hPo => ?_)
  obtain ⟨⟨rfl, rfl⟩, g33, -⟩ := hPo
  show V 0 0 37 [(0, .int x0), (3, .int x3)] [.int (f_X11_fits s2 s1 s0)] LAY (M, L)
  refine x_if_eq C (show decode cX11_isLegalTwelve 37 = .ok (.ifCond .eq 17, 3) from by decide +kernel) (tgt := 54) (by decide) (fun c35 => ?_) (fun c35 => ?_)
  · rw [if_pos c35] at h
    have g36 : xrg 0 0 (f_X11_fits s2 s1 s0) := (x_c_eq g33 (x_rgc (x := 0) (k := 0) (by decide)) c35).1
    refine x_run C e_X11_isLegalTwelve_18 e_X11_isLegalTwelve_18_k (pc' := 55) (lv' := [(0, .int x0), (3, .int x3)]) (st' := [.int 0]) (σ' := (M, L)) rfl ⟨trivial, trivial⟩ ?_
    subst h
    exact x_iret C (show decode cX11_isLegalTwelve 55 = .ok (.ireturn, 1) from by decide +kernel) (x_finI (x_nb (x_rgw (x_rgc (x := 0) (k := 0) (by decide)) (lo' := 0) (hi' := 1) (by decide) (by decide))) ⟨⟨rfl, rfl⟩, (x_rgw (x_rgc (x := 0) (k := 0) (by decide)) (lo' := 0) (hi' := 1) (by decide) (by decide)), trivial⟩) (Nat.le_refl 0) (Nat.le_refl 0)
  · rw [if_neg c35] at h
    have g37 : xrg 1 1 (f_X11_fits s2 s1 s0) := (x_c_ne g33 (by decide) c35)
    refine x_run C e_X11_isLegalTwelve_19 e_X11_isLegalTwelve_19_k (pc' := 41) (lv' := [(0, .int x0), (3, .int x3)]) (st' := [.int x3]) (σ' := (M, L)) rfl ⟨trivial, trivial⟩ ?_
    refine x_if_ne C (show decode cX11_isLegalTwelve 41 = .ok (.ifCond .ne 9, 3) from by decide +kernel) (tgt := 50) (by decide) (fun c38 => ?_) (fun c38 => ?_)
    · rw [if_neg c38] at h
      refine x_run C e_X11_isLegalTwelve_20 e_X11_isLegalTwelve_20_k (pc' := 51) (lv' := [(0, .int x0), (3, .int x3)]) (st' := [.int 1]) (σ' := (M, L)) rfl ⟨trivial, trivial⟩ ?_
      refine x_goto C (show decode cX11_isLegalTwelve 51 = .ok (.goto 4, 3) from by decide +kernel) (tgt := 55) (by decide) ?_
      subst h
      exact x_iret C (show decode cX11_isLegalTwelve 55 = .ok (.ireturn, 1) from by decide +kernel) (x_finI (x_nb (x_rgw (x_rgc (x := 1) (k := 1) (by decide)) (lo' := 0) (hi' := 1) (by decide) (by decide))) ⟨⟨rfl, rfl⟩, (x_rgw (x_rgc (x := 1) (k := 1) (by decide)) (lo' := 0) (hi' := 1) (by decide) (by decide)), trivial⟩) (Nat.le_refl 0) (Nat.le_refl 0)
    · rw [if_pos c38] at h
      have g39 : xrg 0 0 x3 := (x_c_eq (x_rgt x3) (x_rgc (x := 0) (k := 0) (by decide)) c38).1
      refine x_run C e_X11_isLegalTwelve_21 e_X11_isLegalTwelve_21_k (pc' := 47) (lv' := [(0, .int x0), (3, .int x3)]) (st' := [.int 60, .int x0]) (σ' := (M, L)) rfl ⟨trivial, trivial, trivial⟩ ?_
      refine x_icmp_eq C (show decode cX11_isLegalTwelve 47 = .ok (.if_icmp .eq 7, 3) from by decide +kernel) (tgt := 54) (by decide) (fun c40 => ?_) (fun c40 => ?_)
      · rw [if_pos c40] at h
        have g41 : xrg 60 60 x0 := (x_c_eq (x_rgt x0) (x_rgc (x := 60) (k := 60) (by decide)) c40).1
        refine x_run C e_X11_isLegalTwelve_18 e_X11_isLegalTwelve_18_k (pc' := 55) (lv' := [(0, .int x0), (3, .int x3)]) (st' := [.int 0]) (σ' := (M, L)) rfl ⟨trivial, trivial⟩ ?_
        subst h
        exact x_iret C (show decode cX11_isLegalTwelve 55 = .ok (.ireturn, 1) from by decide +kernel) (x_finI (x_nb (x_rgw (x_rgc (x := 0) (k := 0) (by decide)) (lo' := 0) (hi' := 1) (by decide) (by decide))) ⟨⟨rfl, rfl⟩, (x_rgw (x_rgc (x := 0) (k := 0) (by decide)) (lo' := 0) (hi' := 1) (by decide) (by decide)), trivial⟩) (Nat.le_refl 0) (Nat.le_refl 0)
      · rw [if_neg c40] at h
        refine x_run C e_X11_isLegalTwelve_20 e_X11_isLegalTwelve_20_k (pc' := 51) (lv' := [(0, .int x0), (3, .int x3)]) (st' := [.int 1]) (σ' := (M, L)) rfl ⟨trivial, trivial⟩ ?_
        refine x_goto C (show decode cX11_isLegalTwelve 51 = .ok (.goto 4, 3) from by decide +kernel) (tgt := 55) (by decide) ?_
        subst h
        exact x_iret C (show decode cX11_isLegalTwelve 55 = .ok (.ireturn, 1) from by decide +kernel) (x_finI (x_nb (x_rgw (x_rgc (x := 1) (k := 1) (by decide)) (lo' := 0) (hi' := 1) (by decide) (by decide))) ⟨⟨rfl, rfl⟩, (x_rgw (x_rgc (x := 1) (k := 1) (by decide)) (lo' := 0) (hi' := 1) (by decide) (by decide)), trivial⟩) (Nat.le_refl 0) (Nat.le_refl 0)
set_option maxRecDepth 20000 in
set_option maxHeartbeats 4000000 in
theorem b_X11_isLegalTwelve_22 {l : Launch} {L : Nat → Nat → Int64} {V : XJ} (r : Int32) {M : St} (C : C_X11_isLegalTwelve l r M L V) (x0 : Int32) (x1 : Int32) (x3 : Int32) (h : f_X11_isLegalTwelve_22 x0 x1 x3 = r) : V 0 0 22 [(0, .int x0), (1, .int x1), (3, .int x3)] [] LAY (M, L) := by
  unfold f_X11_isLegalTwelve_22 at h
  refine x_run C e_X11_isLegalTwelve_15 e_X11_isLegalTwelve_15_k (pc' := 25) (lv' := [(0, .int x0), (1, .int x1), (3, .int x3)]) (st' := [.int x1, .int 0, .int x0]) (σ' := (M, L)) rfl ⟨trivial, trivial, trivial, trivial⟩ ?_
  refine x_if_ne C (show decode cX11_isLegalTwelve 25 = .ok (.ifCond .ne 7, 3) from by decide +kernel) (tgt := 32) (by decide) (fun c30 => ?_) (fun c30 => ?_)
  · rw [if_neg c30] at h
    refine x_run C e_X11_isLegalTwelve_16 e_X11_isLegalTwelve_16_k (pc' := 34) (lv' := [(0, .int x0), (1, .int x1), (3, .int x3)]) (st' := [.int 9, .int 0, .int x0]) (σ' := (M, L)) rfl ⟨trivial, trivial⟩ ?_
    refine x_lv C [0, 2] rfl ?_
    exact b_X11_isLegalTwelve_34 r C x0 x3 9 0 x0  (x_rgw (x_rgc (x := 9) (k := 9) (by decide)) (lo' := 1) (hi' := 9) (by decide) (by decide)) (x_rgc (x := 0) (k := 0) (by decide)) h
  · rw [if_pos c30] at h
    have g31 : xrg 0 0 x1 := (x_c_eq (x_rgt x1) (x_rgc (x := 0) (k := 0) (by decide)) c30).1
    refine x_run C e_X11_isLegalTwelve_17 e_X11_isLegalTwelve_17_k (pc' := 29) (lv' := [(0, .int x0), (1, .int x1), (3, .int x3)]) (st' := [.int 1, .int 0, .int x0]) (σ' := (M, L)) rfl ⟨trivial, trivial⟩ ?_
    refine x_goto C (show decode cX11_isLegalTwelve 29 = .ok (.goto 5, 3) from by decide +kernel) (tgt := 34) (by decide) ?_
    refine x_lv C [0, 2] rfl ?_
    exact b_X11_isLegalTwelve_34 r C x0 x3 1 0 x0  (x_rgw (x_rgc (x := 1) (k := 1) (by decide)) (lo' := 1) (hi' := 9) (by decide) (by decide)) (x_rgc (x := 0) (k := 0) (by decide)) h
set_option maxRecDepth 20000 in
set_option maxHeartbeats 4000000 in
theorem b_X11_isLegalTwelve_13 {l : Launch} {L : Nat → Nat → Int64} {V : XJ} (r : Int32) {M : St} (C : C_X11_isLegalTwelve l r M L V) (x0 : Int32) (x1 : Int32) (x2 : Int32) (x3 : Int32) (h : f_X11_isLegalTwelve_13 x0 x1 x2 x3 = r) : V 0 0 13 [(0, .int x0), (1, .int x1), (2, .int x2), (3, .int x3)] [] LAY (M, L) := by
  unfold f_X11_isLegalTwelve_13 at h
  refine x_run C e_X11_isLegalTwelve_4 e_X11_isLegalTwelve_4_k (pc' := 14) (lv' := [(0, .int x0), (1, .int x1), (2, .int x2), (3, .int x3)]) (st' := [.int x3]) (σ' := (M, L)) rfl ⟨trivial, trivial⟩ ?_
  refine x_if_ne C (show decode cX11_isLegalTwelve 14 = .ok (.ifCond .ne 8, 3) from by decide +kernel) (tgt := 22) (by decide) (fun c5 => ?_) (fun c5 => ?_)
  · rw [if_neg c5] at h
    refine x_lv C [0, 1, 3] rfl ?_
    exact b_X11_isLegalTwelve_22 r C x0 x1 x3  h
  · rw [if_pos c5] at h
    have g6 : xrg 0 0 x3 := (x_c_eq (x_rgt x3) (x_rgc (x := 0) (k := 0) (by decide)) c5).1
    refine x_run C e_X11_isLegalTwelve_5 e_X11_isLegalTwelve_5_k (pc' := 19) (lv' := [(0, .int x0), (1, .int x1), (2, .int x2), (3, .int x3)]) (st' := [.int 4, .int x2]) (σ' := (M, L)) rfl ⟨trivial, trivial, trivial⟩ ?_
    refine x_icmp_ne C (show decode cX11_isLegalTwelve 19 = .ok (.if_icmp .ne 37, 3) from by decide +kernel) (tgt := 56) (by decide) (fun c7 => ?_) (fun c7 => ?_)
    · rw [if_neg c7] at h
      refine x_run C e_X11_isLegalTwelve_6 e_X11_isLegalTwelve_6_k (pc' := 58) (lv' := [(0, .int x0), (1, .int x1), (2, .int x2), (3, .int x3)]) (st' := [.int x2, .int x0]) (σ' := (M, L)) rfl ⟨trivial, trivial, trivial⟩ ?_
      refine x_callS C (rest := []) (avs := [.int x0, .int x2]) (k_X11_isStatus l x0 x2 M L) yoX11_isStatus ml_X11_153 rfl ⟨Nat.zero_le _, Nat.zero_le _⟩ (show decode cX11_isLegalTwelve 58 = .ok (.invokestatic 153, 3) from by decide +kernel) rfl (fun v σ' hPo => ?_)
      obtain ⟨⟨rfl, rfl⟩, g9, -⟩ := hPo
      show V 0 0 61 [(0, .int x0), (1, .int x1), (2, .int x2), (3, .int x3)] [.int (f_X11_isStatus x0 x2)] LAY (M, L)
      refine x_if_eq C (show decode cX11_isLegalTwelve 61 = .ok (.ifCond .eq 16, 3) from by decide +kernel) (tgt := 77) (by decide) (fun c11 => ?_) (fun c11 => ?_)
      · rw [if_pos c11] at h
        have g12 : xrg 0 0 (f_X11_isStatus x0 x2) := (x_c_eq g9 (x_rgc (x := 0) (k := 0) (by decide)) c11).1
        refine x_run C e_X11_isLegalTwelve_7 e_X11_isLegalTwelve_7_k (pc' := 80) (lv' := [(0, .int x0), (1, .int x1), (2, .int x2), (3, .int x3)]) (st' := [.int 7, .int x2]) (σ' := (M, L)) rfl ⟨trivial, trivial, trivial⟩ ?_
        refine x_icmp_ge C (show decode cX11_isLegalTwelve 80 = .ok (.if_icmp .ge 22, 3) from by decide +kernel) (tgt := 102) (by decide) (fun c13 => ?_) (fun c13 => ?_)
        · rw [if_pos c13] at h
          have g14 : xrg 7 2147483647 x2 := (x_c_le (x_rgc (x := 7) (k := 7) (by decide)) (x_rgt x2) c13).2
          refine x_run C e_X11_isLegalTwelve_8 e_X11_isLegalTwelve_8_k (pc' := 103) (lv' := [(0, .int x0), (1, .int x1), (2, .int x2), (3, .int x3)]) (st' := [.int 0]) (σ' := (M, L)) rfl ⟨trivial, trivial⟩ ?_
          subst h
          exact x_iret C (show decode cX11_isLegalTwelve 103 = .ok (.ireturn, 1) from by decide +kernel) (x_finI (x_nb (x_rgw (x_rgc (x := 0) (k := 0) (by decide)) (lo' := 0) (hi' := 1) (by decide) (by decide))) ⟨⟨rfl, rfl⟩, (x_rgw (x_rgc (x := 0) (k := 0) (by decide)) (lo' := 0) (hi' := 1) (by decide) (by decide)), trivial⟩) (Nat.le_refl 0) (Nat.le_refl 0)
        · rw [if_neg c13] at h
          have g15 : xrg (-2147483648) 6 x2 := (x_c_nle (x_rgc (x := 7) (k := 7) (by decide)) (x_rgt x2) c13).2
          refine x_run C e_X11_isLegalTwelve_9 e_X11_isLegalTwelve_9_k (pc' := 85) (lv' := [(0, .int x0), (1, .int x1), (2, .int x2), (3, .int x3)]) (st' := [.int 3, .int x1]) (σ' := (M, L)) rfl ⟨trivial, trivial, trivial⟩ ?_
          refine x_icmp_ge C (show decode cX11_isLegalTwelve 85 = .ok (.if_icmp .ge 17, 3) from by decide +kernel) (tgt := 102) (by decide) (fun c16 => ?_) (fun c16 => ?_)
          · rw [if_pos c16] at h
            have g17 : xrg 3 2147483647 x1 := (x_c_le (x_rgc (x := 3) (k := 3) (by decide)) (x_rgt x1) c16).2
            refine x_run C e_X11_isLegalTwelve_8 e_X11_isLegalTwelve_8_k (pc' := 103) (lv' := [(0, .int x0), (1, .int x1), (2, .int x2), (3, .int x3)]) (st' := [.int 0]) (σ' := (M, L)) rfl ⟨trivial, trivial⟩ ?_
            subst h
            exact x_iret C (show decode cX11_isLegalTwelve 103 = .ok (.ireturn, 1) from by decide +kernel) (x_finI (x_nb (x_rgw (x_rgc (x := 0) (k := 0) (by decide)) (lo' := 0) (hi' := 1) (by decide) (by decide))) ⟨⟨rfl, rfl⟩, (x_rgw (x_rgc (x := 0) (k := 0) (by decide)) (lo' := 0) (hi' := 1) (by decide) (by decide)), trivial⟩) (Nat.le_refl 0) (Nat.le_refl 0)
          · rw [if_neg c16] at h
            have g18 : xrg (-2147483648) 2 x1 := (x_c_nle (x_rgc (x := 3) (k := 3) (by decide)) (x_rgt x1) c16).2
            refine x_run C e_X11_isLegalTwelve_10 e_X11_isLegalTwelve_10_k (pc' := 92) (lv' := [(0, .int x0), (1, .int x1), (2, .int x2), (3, .int x3)]) (st' := [.int 9, .int x1, .int x0]) (σ' := (M, L)) rfl ⟨trivial, trivial, trivial, trivial⟩ ?_
            refine x_callS C (rest := []) (avs := [.int x0, .int x1, .int 9]) (k_X11_fits l x0 x1 9 M L) yoX11_fits ml_X11_141 rfl ⟨Nat.zero_le _, Nat.zero_le _⟩ (show decode cX11_isLegalTwelve 92 = .ok (.invokestatic 141, 3) from by decide +kernel) rfl (fun v σ' hPo => ?_)
            obtain ⟨⟨rfl, rfl⟩, g20, -⟩ := hPo
            show V 0 0 95 [(0, .int x0), (1, .int x1), (2, .int x2), (3, .int x3)] [.int (f_X11_fits x0 x1 9)] LAY (M, L)
            refine x_if_eq C (show decode cX11_isLegalTwelve 95 = .ok (.ifCond .eq 7, 3) from by decide +kernel) (tgt := 102) (by decide) (fun c22 => ?_) (fun c22 => ?_)
            · rw [if_pos c22] at h
              have g23 : xrg 0 0 (f_X11_fits x0 x1 9) := (x_c_eq g20 (x_rgc (x := 0) (k := 0) (by decide)) c22).1
              refine x_run C e_X11_isLegalTwelve_8 e_X11_isLegalTwelve_8_k (pc' := 103) (lv' := [(0, .int x0), (1, .int x1), (2, .int x2), (3, .int x3)]) (st' := [.int 0]) (σ' := (M, L)) rfl ⟨trivial, trivial⟩ ?_
              subst h
              exact x_iret C (show decode cX11_isLegalTwelve 103 = .ok (.ireturn, 1) from by decide +kernel) (x_finI (x_nb (x_rgw (x_rgc (x := 0) (k := 0) (by decide)) (lo' := 0) (hi' := 1) (by decide) (by decide))) ⟨⟨rfl, rfl⟩, (x_rgw (x_rgc (x := 0) (k := 0) (by decide)) (lo' := 0) (hi' := 1) (by decide) (by decide)), trivial⟩) (Nat.le_refl 0) (Nat.le_refl 0)
            · rw [if_neg c22] at h
              have g24 : xrg 1 1 (f_X11_fits x0 x1 9) := (x_c_ne g20 (by decide) c22)
              refine x_run C e_X11_isLegalTwelve_11 e_X11_isLegalTwelve_11_k (pc' := 99) (lv' := [(0, .int x0), (1, .int x1), (2, .int x2), (3, .int x3)]) (st' := [.int 1]) (σ' := (M, L)) rfl ⟨trivial, trivial⟩ ?_
              refine x_goto C (show decode cX11_isLegalTwelve 99 = .ok (.goto 4, 3) from by decide +kernel) (tgt := 103) (by decide) ?_
              subst h
              exact x_iret C (show decode cX11_isLegalTwelve 103 = .ok (.ireturn, 1) from by decide +kernel) (x_finI (x_nb (x_rgw (x_rgc (x := 1) (k := 1) (by decide)) (lo' := 0) (hi' := 1) (by decide) (by decide))) ⟨⟨rfl, rfl⟩, (x_rgw (x_rgc (x := 1) (k := 1) (by decide)) (lo' := 0) (hi' := 1) (by decide) (by decide)), trivial⟩) (Nat.le_refl 0) (Nat.le_refl 0)
      · rw [if_neg c11] at h
        have g25 : xrg 1 1 (f_X11_isStatus x0 x2) := (x_c_ne g9 (by decide) c11)
        refine x_run C e_X11_isLegalTwelve_12 e_X11_isLegalTwelve_12_k (pc' := 66) (lv' := [(0, .int x0), (1, .int x1), (2, .int x2), (3, .int x3)]) (st' := [.int 2, .int x1]) (σ' := (M, L)) rfl ⟨trivial, trivial, trivial⟩ ?_
        refine x_icmp_ge C (show decode cX11_isLegalTwelve 66 = .ok (.if_icmp .ge 7, 3) from by decide +kernel) (tgt := 73) (by decide) (fun c26 => ?_) (fun c26 => ?_)
        · rw [if_pos c26] at h
          have g27 : xrg 2 2147483647 x1 := (x_c_le (x_rgc (x := 2) (k := 2) (by decide)) (x_rgt x1) c26).2
          refine x_run C e_X11_isLegalTwelve_13 e_X11_isLegalTwelve_13_k (pc' := 74) (lv' := [(0, .int x0), (1, .int x1), (2, .int x2), (3, .int x3)]) (st' := [.int 0]) (σ' := (M, L)) rfl ⟨trivial, trivial⟩ ?_
          refine x_goto C (show decode cX11_isLegalTwelve 74 = .ok (.goto 29, 3) from by decide +kernel) (tgt := 103) (by decide) ?_
          subst h
          exact x_iret C (show decode cX11_isLegalTwelve 103 = .ok (.ireturn, 1) from by decide +kernel) (x_finI (x_nb (x_rgw (x_rgc (x := 0) (k := 0) (by decide)) (lo' := 0) (hi' := 1) (by decide) (by decide))) ⟨⟨rfl, rfl⟩, (x_rgw (x_rgc (x := 0) (k := 0) (by decide)) (lo' := 0) (hi' := 1) (by decide) (by decide)), trivial⟩) (Nat.le_refl 0) (Nat.le_refl 0)
        · rw [if_neg c26] at h
          have g28 : xrg (-2147483648) 1 x1 := (x_c_nle (x_rgc (x := 2) (k := 2) (by decide)) (x_rgt x1) c26).2
          refine x_run C e_X11_isLegalTwelve_14 e_X11_isLegalTwelve_14_k (pc' := 70) (lv' := [(0, .int x0), (1, .int x1), (2, .int x2), (3, .int x3)]) (st' := [.int 1]) (σ' := (M, L)) rfl ⟨trivial, trivial⟩ ?_
          refine x_goto C (show decode cX11_isLegalTwelve 70 = .ok (.goto 33, 3) from by decide +kernel) (tgt := 103) (by decide) ?_
          subst h
          exact x_iret C (show decode cX11_isLegalTwelve 103 = .ok (.ireturn, 1) from by decide +kernel) (x_finI (x_nb (x_rgw (x_rgc (x := 1) (k := 1) (by decide)) (lo' := 0) (hi' := 1) (by decide) (by decide))) ⟨⟨rfl, rfl⟩, (x_rgw (x_rgc (x := 1) (k := 1) (by decide)) (lo' := 0) (hi' := 1) (by decide) (by decide)), trivial⟩) (Nat.le_refl 0) (Nat.le_refl 0)
    · rw [if_pos c7] at h
      have g29 : xrg 4 4 x2 := (x_c_eq (x_rgt x2) (x_rgc (x := 4) (k := 4) (by decide)) c7).1
      refine x_lv C [0, 1, 3] rfl ?_
      exact b_X11_isLegalTwelve_22 r C x0 x1 x3  h
set_option maxRecDepth 20000 in
set_option maxHeartbeats 4000000 in
theorem k_X11_isLegalTwelve (l : Launch) (a1 : Int32) (a2 : Int32) (a3 : Int32) (a4 : Int32) (M : St) (L : Nat → Nat → Int64) : XM l yX11_isLegalTwelve cX11_isLegalTwelve 4 (some .boolean) R_X11_isLegalTwelve LAY [.int a1, .int a2, .int a3, .int a4] (M, L) (P_X11_isLegalTwelve (f_X11_isLegalTwelve a1 a2 a3 a4) M L) := by
  refine XM.of (by decide) (Nat.le_of_ble_eq_true rfl) LAY_in cl_ok fl_X11_ok kc_X11_ok (fun V C => ?_)
  obtain ⟨r, h⟩ : ∃ r, f_X11_isLegalTwelve a1 a2 a3 a4 = r := ⟨_, rfl⟩
  rw [h] at C
  change C_X11_isLegalTwelve l r M L V at C
  unfold f_X11_isLegalTwelve at h
  show V 0 0 0 [(0, .int a1), (1, .int a2), (2, .int a3), (3, .int a4)] [] LAY (M, L)
  refine x_run C e_X11_isLegalTwelve_1 e_X11_isLegalTwelve_1_k (pc' := 1) (lv' := [(0, .int a1), (1, .int a2), (2, .int a3), (3, .int a4)]) (st' := [.int a4]) (σ' := (M, L)) rfl ⟨trivial, trivial⟩ ?_
  refine x_if_eq C (show decode cX11_isLegalTwelve 1 = .ok (.ifCond .eq 12, 3) from by decide +kernel) (tgt := 13) (by decide) (fun c1 => ?_) (fun c1 => ?_)
  · rw [if_pos c1] at h
    have g2 : xrg 0 0 a4 := (x_c_eq (x_rgt a4) (x_rgc (x := 0) (k := 0) (by decide)) c1).1
    exact b_X11_isLegalTwelve_13 r C a1 a2 a3 a4  h
  · rw [if_neg c1] at h
    refine x_run C e_X11_isLegalTwelve_2 e_X11_isLegalTwelve_2_k (pc' := 8) (lv' := [(0, .int a1), (1, .int a2), (2, .int a3), (3, .int a4)]) (st' := [.int 1, .int (a1 >>> ((3 : Int32) &&& 31))]) (σ' := (M, L)) rfl ⟨trivial, trivial, trivial, trivial, trivial⟩ ?_
    refine x_icmp_ne C (show decode cX11_isLegalTwelve 8 = .ok (.if_icmp .ne 5, 3) from by decide +kernel) (tgt := 13) (by decide) (fun c3 => ?_) (fun c3 => ?_)
    · rw [if_neg c3] at h
      exact b_X11_isLegalTwelve_13 r C a1 a2 a3 a4  h
    · rw [if_pos c3] at h
      have g4 : xrg 1 1 (a1 >>> ((3 : Int32) &&& 31)) := (x_c_eq (x_rgt (a1 >>> ((3 : Int32) &&& 31))) (x_rgc (x := 1) (k := 1) (by decide)) c3).1
      refine x_run C e_X11_isLegalTwelve_3 e_X11_isLegalTwelve_3_k (pc' := 12) (lv' := [(0, .int a1), (1, .int a2), (2, .int a3), (3, .int a4)]) (st' := [.int 1]) (σ' := (M, L)) rfl ⟨trivial, trivial⟩ ?_
      subst h
      exact x_iret C (show decode cX11_isLegalTwelve 12 = .ok (.ireturn, 1) from by decide +kernel) (x_finI (x_nb (x_rgw (x_rgc (x := 1) (k := 1) (by decide)) (lo' := 0) (hi' := 1) (by decide) (by decide))) ⟨⟨rfl, rfl⟩, (x_rgw (x_rgc (x := 1) (k := 1) (by decide)) (lo' := 0) (hi' := 1) (by decide) (by decide)), trivial⟩) (Nat.le_refl 0) (Nat.le_refl 0)
-- X11_isLegal
def e_X11_isLegal_1 : List xI := [(0, .iload_n 0, 1, .null), (1, .bipush 63, 2, .int 63), (3, .iand, 1, .null), (4, .istore_n 1, 1, .null), (5, .iload_n 1, 1, .null), (6, .iconst 3, 1, .int 3), (7, .ishr, 1, .null), (8, .istore_n 2, 1, .null), (9, .iload_n 0, 1, .null), (10, .bipush 6, 2, .int 6), (12, .ishr, 1, .null), (13, .iconst 3, 1, .int 3), (14, .iand, 1, .null), (15, .istore_n 3, 1, .null), (16, .iload_n 0, 1, .null), (17, .bipush 6, 2, .int 6), (19, .ishr, 1, .null), (20, .bipush 63, 2, .int 63), (22, .iand, 1, .null), (23, .istore 4, 2, .null), (25, .iload_n 0, 1, .null), (26, .bipush 9, 2, .int 9), (28, .ishr, 1, .null), (29, .bipush 7, 2, .int 7), (31, .iand, 1, .null), (32, .istore 5, 2, .null), (34, .iload_n 0, 1, .null), (35, .sipush 256, 3, .int 256), (38, .iand, 1, .null)]
theorem e_X11_isLegal_1_k : e_X11_isLegal_1.all (fun q => xokB cX11_isLegal q && xokL q) = true := by decide +kernel
def e_X11_isLegal_2 : List xI := [(46, .iconst 0, 1, .int 0)]
theorem e_X11_isLegal_2_k : e_X11_isLegal_2.all (fun q => xokB cX11_isLegal q && xokL q) = true := by decide +kernel
def e_X11_isLegal_3 : List xI := [(42, .iconst 1, 1, .int 1)]
theorem e_X11_isLegal_3_k : e_X11_isLegal_3.all (fun q => xokB cX11_isLegal q && xokL q) = true := by decide +kernel
def e_X11_isLegal_4 : List xI := [(47, .istore 6, 2, .null), (49, .iload_n 0, 1, .null), (50, .bipush 12, 2, .int 12), (52, .ishr, 1, .null)]
theorem e_X11_isLegal_4_k : e_X11_isLegal_4.all (fun q => xokB cX11_isLegal q && xokL q) = true := by decide +kernel
def e_X11_isLegal_5 : List xI := [(160, .iload 4, 2, .null), (162, .iload_n 1, 1, .null)]
theorem e_X11_isLegal_5_k : e_X11_isLegal_5.all (fun q => xokB cX11_isLegal q && xokL q) = true := by decide +kernel
def e_X11_isLegal_6 : List xI := [(225, .iload_n 3, 1, .null), (226, .iconst 3, 1, .int 3)]
theorem e_X11_isLegal_6_k : e_X11_isLegal_6.all (fun q => xokB cX11_isLegal q && xokL q) = true := by decide +kernel
def e_X11_isLegal_7 : List xI := [(248, .iload 6, 2, .null)]
theorem e_X11_isLegal_7_k : e_X11_isLegal_7.all (fun q => xokB cX11_isLegal q && xokL q) = true := by decide +kernel
def e_X11_isLegal_8 : List xI := [(276, .iload_n 1, 1, .null), (277, .iload_n 3, 1, .null), (278, .iconst 0, 1, .int 0)]
theorem e_X11_isLegal_8_k : e_X11_isLegal_8.all (fun q => xokB cX11_isLegal q && xokL q) = true := by decide +kernel
def e_X11_isLegal_9 : List xI := [(253, .iload_n 2, 1, .null), (254, .iconst 1, 1, .int 1)]
theorem e_X11_isLegal_9_k : e_X11_isLegal_9.all (fun q => xokB cX11_isLegal q && xokL q) = true := by decide +kernel
def e_X11_isLegal_10 : List xI := [(268, .iconst 1, 1, .int 1)]
theorem e_X11_isLegal_10_k : e_X11_isLegal_10.all (fun q => xokB cX11_isLegal q && xokL q) = true := by decide +kernel
def e_X11_isLegal_11 : List xI := [(258, .iload_n 1, 1, .null), (259, .iload_n 3, 1, .null), (260, .bipush 9, 2, .int 9)]
theorem e_X11_isLegal_11_k : e_X11_isLegal_11.all (fun q => xokB cX11_isLegal q && xokL q) = true := by decide +kernel
def e_X11_isLegal_12 : List xI := [(272, .iconst 0, 1, .int 0)]
theorem e_X11_isLegal_12_k : e_X11_isLegal_12.all (fun q => xokB cX11_isLegal q && xokL q) = true := by decide +kernel
def e_X11_isLegal_13 : List xI := [(230, .iload_n 1, 1, .null), (231, .iload 6, 2, .null)]
theorem e_X11_isLegal_13_k : e_X11_isLegal_13.all (fun q => xokB cX11_isLegal q && xokL q) = true := by decide +kernel
def e_X11_isLegal_14 : List xI := [(240, .iconst 1, 1, .int 1)]
theorem e_X11_isLegal_14_k : e_X11_isLegal_14.all (fun q => xokB cX11_isLegal q && xokL q) = true := by decide +kernel
def e_X11_isLegal_15 : List xI := [(236, .iconst 2, 1, .int 2)]
theorem e_X11_isLegal_15_k : e_X11_isLegal_15.all (fun q => xokB cX11_isLegal q && xokL q) = true := by decide +kernel
def e_X11_isLegal_16 : List xI := [(353, .iload_n 3, 1, .null), (354, .iconst 3, 1, .int 3)]
theorem e_X11_isLegal_16_k : e_X11_isLegal_16.all (fun q => xokB cX11_isLegal q && xokL q) = true := by decide +kernel
def e_X11_isLegal_17 : List xI := [(368, .iload_n 2, 1, .null), (369, .iconst 1, 1, .int 1)]
theorem e_X11_isLegal_17_k : e_X11_isLegal_17.all (fun q => xokB cX11_isLegal q && xokL q) = true := by decide +kernel
def e_X11_isLegal_18 : List xI := [(383, .iconst 1, 1, .int 1)]
theorem e_X11_isLegal_18_k : e_X11_isLegal_18.all (fun q => xokB cX11_isLegal q && xokL q) = true := by decide +kernel
def e_X11_isLegal_19 : List xI := [(373, .iload_n 1, 1, .null), (374, .iconst 0, 1, .int 0), (375, .bipush 9, 2, .int 9)]
theorem e_X11_isLegal_19_k : e_X11_isLegal_19.all (fun q => xokB cX11_isLegal q && xokL q) = true := by decide +kernel
def e_X11_isLegal_20 : List xI := [(387, .iconst 0, 1, .int 0)]
theorem e_X11_isLegal_20_k : e_X11_isLegal_20.all (fun q => xokB cX11_isLegal q && xokL q) = true := by decide +kernel
def e_X11_isLegal_21 : List xI := [(358, .iload_n 1, 1, .null), (359, .iload_n 3, 1, .null), (360, .bipush 8, 2, .int 8)]
theorem e_X11_isLegal_21_k : e_X11_isLegal_21.all (fun q => xokB cX11_isLegal q && xokL q) = true := by decide +kernel
def e_X11_isLegal_22 : List xI := [(464, .iconst 1, 1, .int 1)]
theorem e_X11_isLegal_22_k : e_X11_isLegal_22.all (fun q => xokB cX11_isLegal q && xokL q) = true := by decide +kernel
def e_X11_isLegal_23 : List xI := [(389, .iload_n 1, 1, .null), (390, .iload_n 3, 1, .null), (391, .iload 5, 2, .null), (393, .iload 6, 2, .null)]
theorem e_X11_isLegal_23_k : e_X11_isLegal_23.all (fun q => xokB cX11_isLegal q && xokL q) = true := by decide +kernel
def e_X11_isLegal_24 : List xI := [(399, .iload_n 3, 1, .null), (400, .iconst 3, 1, .int 3)]
theorem e_X11_isLegal_24_k : e_X11_isLegal_24.all (fun q => xokB cX11_isLegal q && xokL q) = true := by decide +kernel
def e_X11_isLegal_25 : List xI := [(420, .iconst 1, 1, .int 1)]
theorem e_X11_isLegal_25_k : e_X11_isLegal_25.all (fun q => xokB cX11_isLegal q && xokL q) = true := by decide +kernel
def e_X11_isLegal_26 : List xI := [(404, .iload 5, 2, .null), (406, .iconst 4, 1, .int 4)]
theorem e_X11_isLegal_26_k : e_X11_isLegal_26.all (fun q => xokB cX11_isLegal q && xokL q) = true := by decide +kernel
def e_X11_isLegal_27 : List xI := [(424, .iconst 0, 1, .int 0)]
theorem e_X11_isLegal_27_k : e_X11_isLegal_27.all (fun q => xokB cX11_isLegal q && xokL q) = true := by decide +kernel
def e_X11_isLegal_28 : List xI := [(410, .iload_n 1, 1, .null), (411, .iconst 1, 1, .int 1), (412, .bipush 10, 2, .int 10)]
theorem e_X11_isLegal_28_k : e_X11_isLegal_28.all (fun q => xokB cX11_isLegal q && xokL q) = true := by decide +kernel
def e_X11_isLegal_29 : List xI := [(426, .iload 6, 2, .null)]
theorem e_X11_isLegal_29_k : e_X11_isLegal_29.all (fun q => xokB cX11_isLegal q && xokL q) = true := by decide +kernel
def e_X11_isLegal_30 : List xI := [(458, .iconst 1, 1, .int 1)]
theorem e_X11_isLegal_30_k : e_X11_isLegal_30.all (fun q => xokB cX11_isLegal q && xokL q) = true := by decide +kernel
def e_X11_isLegal_31 : List xI := [(431, .iload_n 3, 1, .null)]
theorem e_X11_isLegal_31_k : e_X11_isLegal_31.all (fun q => xokB cX11_isLegal q && xokL q) = true := by decide +kernel
def e_X11_isLegal_32 : List xI := [(435, .iload_n 1, 1, .null), (436, .iconst 2, 1, .int 2), (437, .iconst 4, 1, .int 4)]
theorem e_X11_isLegal_32_k : e_X11_isLegal_32.all (fun q => xokB cX11_isLegal q && xokL q) = true := by decide +kernel
def e_X11_isLegal_33 : List xI := [(128, .iload_n 1, 1, .null), (129, .iload_n 0, 1, .null), (130, .bipush 12, 2, .int 12), (132, .ishr, 1, .null), (133, .iconst 0, 1, .int 0)]
theorem e_X11_isLegal_33_k : e_X11_isLegal_33.all (fun q => xokB cX11_isLegal q && xokL q) = true := by decide +kernel
def e_X11_isLegal_34 : List xI := [(158, .iconst 0, 1, .int 0)]
theorem e_X11_isLegal_34_k : e_X11_isLegal_34.all (fun q => xokB cX11_isLegal q && xokL q) = true := by decide +kernel
def e_X11_isLegal_35 : List xI := [(140, .iload 4, 2, .null), (142, .iload_n 0, 1, .null), (143, .bipush 12, 2, .int 12), (145, .ishr, 1, .null), (146, .bipush 8, 2, .int 8)]
theorem e_X11_isLegal_35_k : e_X11_isLegal_35.all (fun q => xokB cX11_isLegal q && xokL q) = true := by decide +kernel
def e_X11_isLegal_36 : List xI := [(154, .iconst 1, 1, .int 1)]
theorem e_X11_isLegal_36_k : e_X11_isLegal_36.all (fun q => xokB cX11_isLegal q && xokL q) = true := by decide +kernel
def e_X11_isLegal_37 : List xI := [(167, .iload_n 3, 1, .null), (168, .iconst 3, 1, .int 3)]
theorem e_X11_isLegal_37_k : e_X11_isLegal_37.all (fun q => xokB cX11_isLegal q && xokL q) = true := by decide +kernel
def e_X11_isLegal_38 : List xI := [(190, .iload 6, 2, .null)]
theorem e_X11_isLegal_38_k : e_X11_isLegal_38.all (fun q => xokB cX11_isLegal q && xokL q) = true := by decide +kernel
def e_X11_isLegal_39 : List xI := [(218, .iload_n 1, 1, .null), (219, .iload_n 3, 1, .null), (220, .iconst 0, 1, .int 0)]
theorem e_X11_isLegal_39_k : e_X11_isLegal_39.all (fun q => xokB cX11_isLegal q && xokL q) = true := by decide +kernel
def e_X11_isLegal_40 : List xI := [(195, .iload_n 2, 1, .null), (196, .iconst 2, 1, .int 2)]
theorem e_X11_isLegal_40_k : e_X11_isLegal_40.all (fun q => xokB cX11_isLegal q && xokL q) = true := by decide +kernel
def e_X11_isLegal_41 : List xI := [(210, .iconst 1, 1, .int 1)]
theorem e_X11_isLegal_41_k : e_X11_isLegal_41.all (fun q => xokB cX11_isLegal q && xokL q) = true := by decide +kernel
def e_X11_isLegal_42 : List xI := [(200, .iload_n 1, 1, .null), (201, .iload_n 3, 1, .null), (202, .bipush 10, 2, .int 10)]
theorem e_X11_isLegal_42_k : e_X11_isLegal_42.all (fun q => xokB cX11_isLegal q && xokL q) = true := by decide +kernel
def e_X11_isLegal_43 : List xI := [(214, .iconst 0, 1, .int 0)]
theorem e_X11_isLegal_43_k : e_X11_isLegal_43.all (fun q => xokB cX11_isLegal q && xokL q) = true := by decide +kernel
def e_X11_isLegal_44 : List xI := [(172, .iload_n 1, 1, .null), (173, .iload 6, 2, .null)]
theorem e_X11_isLegal_44_k : e_X11_isLegal_44.all (fun q => xokB cX11_isLegal q && xokL q) = true := by decide +kernel
def e_X11_isLegal_45 : List xI := [(182, .iconst 1, 1, .int 1)]
theorem e_X11_isLegal_45_k : e_X11_isLegal_45.all (fun q => xokB cX11_isLegal q && xokL q) = true := by decide +kernel
def e_X11_isLegal_46 : List xI := [(178, .iconst 2, 1, .int 2)]
theorem e_X11_isLegal_46_k : e_X11_isLegal_46.all (fun q => xokB cX11_isLegal q && xokL q) = true := by decide +kernel
def e_X11_isLegal_47 : List xI := [(241, .iconst 0, 1, .int 0)]
theorem e_X11_isLegal_47_k : e_X11_isLegal_47.all (fun q => xokB cX11_isLegal q && xokL q) = true := by decide +kernel
def e_X11_isLegal_48 : List xI := [(283, .iload_n 3, 1, .null), (284, .iconst 3, 1, .int 3)]
theorem e_X11_isLegal_48_k : e_X11_isLegal_48.all (fun q => xokB cX11_isLegal q && xokL q) = true := by decide +kernel
def e_X11_isLegal_49 : List xI := [(288, .iload 6, 2, .null)]
theorem e_X11_isLegal_49_k : e_X11_isLegal_49.all (fun q => xokB cX11_isLegal q && xokL q) = true := by decide +kernel
def e_X11_isLegal_50 : List xI := [(309, .iload_n 2, 1, .null), (310, .iconst 1, 1, .int 1)]
theorem e_X11_isLegal_50_k : e_X11_isLegal_50.all (fun q => xokB cX11_isLegal q && xokL q) = true := by decide +kernel
def e_X11_isLegal_51 : List xI := [(324, .iload_n 3, 1, .null)]
theorem e_X11_isLegal_51_k : e_X11_isLegal_51.all (fun q => xokB cX11_isLegal q && xokL q) = true := by decide +kernel
def e_X11_isLegal_52 : List xI := [(347, .iconst 1, 1, .int 1)]
theorem e_X11_isLegal_52_k : e_X11_isLegal_52.all (fun q => xokB cX11_isLegal q && xokL q) = true := by decide +kernel
def e_X11_isLegal_53 : List xI := [(328, .iload_n 0, 1, .null), (329, .bipush 12, 2, .int 12), (331, .ishr, 1, .null), (332, .bipush 7, 2, .int 7)]
theorem e_X11_isLegal_53_k : e_X11_isLegal_53.all (fun q => xokB cX11_isLegal q && xokL q) = true := by decide +kernel
def e_X11_isLegal_54 : List xI := [(351, .iconst 0, 1, .int 0)]
theorem e_X11_isLegal_54_k : e_X11_isLegal_54.all (fun q => xokB cX11_isLegal q && xokL q) = true := by decide +kernel
def e_X11_isLegal_55 : List xI := [(337, .iload_n 3, 1, .null), (338, .iconst 1, 1, .int 1)]
theorem e_X11_isLegal_55_k : e_X11_isLegal_55.all (fun q => xokB cX11_isLegal q && xokL q) = true := by decide +kernel
def e_X11_isLegal_56 : List xI := [(342, .iload_n 2, 1, .null), (343, .iconst 1, 1, .int 1)]
theorem e_X11_isLegal_56_k : e_X11_isLegal_56.all (fun q => xokB cX11_isLegal q && xokL q) = true := by decide +kernel
def e_X11_isLegal_57 : List xI := [(314, .iload_n 1, 1, .null), (315, .iload_n 3, 1, .null), (316, .bipush 10, 2, .int 10)]
theorem e_X11_isLegal_57_k : e_X11_isLegal_57.all (fun q => xokB cX11_isLegal q && xokL q) = true := by decide +kernel
def e_X11_isLegal_58 : List xI := [(444, .iload_n 3, 1, .null), (445, .iconst 1, 1, .int 1)]
theorem e_X11_isLegal_58_k : e_X11_isLegal_58.all (fun q => xokB cX11_isLegal q && xokL q) = true := by decide +kernel
def e_X11_isLegal_59 : List xI := [(462, .iconst 0, 1, .int 0)]
theorem e_X11_isLegal_59_k : e_X11_isLegal_59.all (fun q => xokB cX11_isLegal q && xokL q) = true := by decide +kernel
def e_X11_isLegal_60 : List xI := [(449, .iload_n 1, 1, .null), (450, .iconst 1, 1, .int 1), (451, .iconst 1, 1, .int 1)]
theorem e_X11_isLegal_60_k : e_X11_isLegal_60.all (fun q => xokB cX11_isLegal q && xokL q) = true := by decide +kernel
def e_X11_isLegal_61 : List xI := [(183, .iconst 0, 1, .int 0)]
theorem e_X11_isLegal_61_k : e_X11_isLegal_61.all (fun q => xokB cX11_isLegal q && xokL q) = true := by decide +kernel
def e_X11_isLegal_62 : List xI := [(293, .iload_n 1, 1, .null), (294, .iload_n 3, 1, .null), (295, .iconst 3, 1, .int 3)]
theorem e_X11_isLegal_62_k : e_X11_isLegal_62.all (fun q => xokB cX11_isLegal q && xokL q) = true := by decide +kernel
def e_X11_isLegal_63 : List xI := [(303, .iload_n 3, 1, .null)]
theorem e_X11_isLegal_63_k : e_X11_isLegal_63.all (fun q => xokB cX11_isLegal q && xokL q) = true := by decide +kernel
def e_X11_isLegal_64 : List xI := [(299, .iconst 1, 1, .int 1)]
theorem e_X11_isLegal_64_k : e_X11_isLegal_64.all (fun q => xokB cX11_isLegal q && xokL q) = true := by decide +kernel
def e_X11_isLegal_65 : List xI := [(304, .iconst 1, 1, .int 1)]
theorem e_X11_isLegal_65_k : e_X11_isLegal_65.all (fun q => xokB cX11_isLegal q && xokL q) = true := by decide +kernel
abbrev P_X11_isLegal (r : Int32) (M0 : St) (L : Nat → Nat → Int64) : Option Value → xG → Prop := fun v σ' => PoI r M0 L v σ' ∧ xrg 0 1 r ∧ True
abbrev R_X11_isLegal : Room := { frames := 2, cells := 0, slots := 0, locals := 47 }
abbrev C_X11_isLegal (l : Launch) (r : Int32) (M0 : St) (L : Nat → Nat → Int64) (V : XJ) : Prop := XC l yX11_isLegal.cls yX11_isLegal.name cX11_isLegal 7 R_X11_isLegal 0 0 fl_X11 kc_X11 LAY.length (xfin (some .boolean) LAY (P_X11_isLegal r M0 L)) V
def f_X11_isLegal_128 (x0 : Int32) (x1 : Int32) (x4 : Int32) : Int32 := (if (f_X11_fits x1 (x0 >>> ((12 : Int32) &&& 31)) 0) = 0 then 0 else (if (f_X11_fits x4 (x0 >>> ((12 : Int32) &&& 31)) 8) = 0 then 0 else 1))
def f_X11_isLegal_183 (s0 : Int32) (s1 : Int32) : Int32 := (f_X11_fits s1 s0 0)
def f_X11_isLegal_167 (x1 : Int32) (x2 : Int32) (x3 : Int32) (x6 : Int32) : Int32 := (if x3 = 3 then (if x6 = 0 then f_X11_isLegal_183 1 x1 else f_X11_isLegal_183 2 x1) else (if x6 = 0 then (f_X11_fits x1 x3 0) else (if x2 < 2 then 1 else (if (f_X11_fits x1 x3 10) = 0 then 0 else 1))))
def f_X11_isLegal_241 (s0 : Int32) (s1 : Int32) : Int32 := (f_X11_fits s1 s0 0)
def f_X11_isLegal_304 (s0 : Int32) (s1 : Int32) : Int32 := (f_X11_fits s1 s0 1)
def f_X11_isLegal_293 (x1 : Int32) (x3 : Int32) : Int32 := (if x3 = 3 then f_X11_isLegal_304 1 x1 else f_X11_isLegal_304 x3 x1)
def f_X11_isLegal_283 (x0 : Int32) (x1 : Int32) (x2 : Int32) (x3 : Int32) (x6 : Int32) : Int32 := (if x3 = 3 then f_X11_isLegal_293 x1 x3 else (if x6 = 0 then f_X11_isLegal_293 x1 x3 else (if x2 ≤ 1 then (if x3 = 0 then 1 else (if (x0 >>> ((12 : Int32) &&& 31)) = 7 then (if x3 = 1 then 1 else (if x2 = 1 then 1 else 0)) else 0)) else (f_X11_fits x1 x3 10))))
def f_X11_isLegal_444 (x1 : Int32) (x3 : Int32) : Int32 := (if x3 = 1 then (if (f_X11_fits x1 1 1) = 0 then 0 else 1) else 0)
def f_X11_isLegal_47 (x0 : Int32) (x1 : Int32) (x2 : Int32) (x3 : Int32) (x4 : Int32) (x5 : Int32) (s0 : Int32) : Int32 := (if (x0 >>> ((12 : Int32) &&& 31)) = 0 then f_X11_isLegal_128 x0 x1 x4 else (if (x0 >>> ((12 : Int32) &&& 31)) = 1 then f_X11_isLegal_128 x0 x1 x4 else (if (x0 >>> ((12 : Int32) &&& 31)) = 2 then f_X11_isLegal_128 x0 x1 x4 else (if (x0 >>> ((12 : Int32) &&& 31)) = 3 then (f_X11_isLegalThree x4 x1) else (if (x0 >>> ((12 : Int32) &&& 31)) = 4 then f_X11_isLegal_167 x1 x2 x3 s0 else (if (x0 >>> ((12 : Int32) &&& 31)) = 5 then f_X11_isLegal_167 x1 x2 x3 s0 else (if (x0 >>> ((12 : Int32) &&& 31)) = 6 then (if x3 = 3 then (if s0 = 0 then f_X11_isLegal_241 1 x1 else f_X11_isLegal_241 2 x1) else (if s0 = 0 then (f_X11_fits x1 x3 0) else (if x2 = 1 then 1 else (if (f_X11_fits x1 x3 9) = 0 then 0 else 1)))) else (if (x0 >>> ((12 : Int32) &&& 31)) = 7 then f_X11_isLegal_283 x0 x1 x2 x3 s0 else (if (x0 >>> ((12 : Int32) &&& 31)) = 8 then f_X11_isLegal_283 x0 x1 x2 x3 s0 else (if (x0 >>> ((12 : Int32) &&& 31)) = 9 then (if 3 ≤ x3 then (if x2 = 1 then 1 else (if (f_X11_fits x1 0 9) = 0 then 0 else 1)) else (f_X11_fits x1 x3 8)) else (if (x0 >>> ((12 : Int32) &&& 31)) = 10 then 1 else (if (x0 >>> ((12 : Int32) &&& 31)) = 11 then 1 else (if (x0 >>> ((12 : Int32) &&& 31)) = 12 then (f_X11_isLegalTwelve x1 x3 x5 s0) else (if (x0 >>> ((12 : Int32) &&& 31)) = 13 then (if x3 < 3 then 1 else (if 4 ≤ x5 then 0 else (if (f_X11_fits x1 1 10) = 0 then 0 else 1))) else (if (x0 >>> ((12 : Int32) &&& 31)) = 14 then (if s0 = 0 then 1 else (if x3 = 0 then (if (f_X11_fits x1 2 4) = 0 then f_X11_isLegal_444 x1 x3 else 1) else f_X11_isLegal_444 x1 x3)) else 1)))))))))))))))
def f_X11_isLegal (a1 : Int32) : Int32 := (if (a1 &&& 256) = 0 then f_X11_isLegal_47 a1 (a1 &&& 63) ((a1 &&& 63) >>> ((3 : Int32) &&& 31)) ((a1 >>> ((6 : Int32) &&& 31)) &&& 3) ((a1 >>> ((6 : Int32) &&& 31)) &&& 63) ((a1 >>> ((9 : Int32) &&& 31)) &&& 7) 0 else f_X11_isLegal_47 a1 (a1 &&& 63) ((a1 &&& 63) >>> ((3 : Int32) &&& 31)) ((a1 >>> ((6 : Int32) &&& 31)) &&& 3) ((a1 >>> ((6 : Int32) &&& 31)) &&& 63) ((a1 >>> ((9 : Int32) &&& 31)) &&& 7) 1)
set_option maxRecDepth 20000 in
set_option maxHeartbeats 4000000 in
theorem b_X11_isLegal_128 {l : Launch} {L : Nat → Nat → Int64} {V : XJ} (r : Int32) {M : St} (C : C_X11_isLegal l r M L V) (x0 : Int32) (x1 : Int32) (x4 : Int32) (wx1 : xrg 0 63 x1) (wx4 : xrg 0 63 x4) (h : f_X11_isLegal_128 x0 x1 x4 = r) : V 0 0 128 [(0, .int x0), (1, .int x1), (4, .int x4)] [] LAY (M, L) := by
  unfold f_X11_isLegal_128 at h
  refine x_run C e_X11_isLegal_33 e_X11_isLegal_33_k (pc' := 134) (lv' := [(0, .int x0), (1, .int x1), (4, .int x4)]) (st' := [.int 0, .int (x0 >>> ((12 : Int32) &&& 31)), .int x1]) (σ' := (M, L)) rfl ⟨trivial, trivial, trivial, trivial, trivial, trivial⟩ ?_
  refine x_callS C (rest := []) (avs := [.int x1, .int (x0 >>> ((12 : Int32) &&& 31)), .int 0]) (k_X11_fits l x1 (x0 >>> ((12 : Int32) &&& 31)) 0 M L) yoX11_fits ml_X11_141 rfl ⟨Nat.zero_le _, Nat.zero_le _⟩ (show decode cX11_isLegal 134 = .ok (.invokestatic 141, 3) from by decide +kernel) rfl (fun v σ' hPo => ?_)
  obtain ⟨⟨rfl, rfl⟩, g84, -⟩ := hPo
  show V 0 0 137 [(0, .int x0), (1, .int x1), (4, .int x4)] [.int (f_X11_fits x1 (x0 >>> ((12 : Int32) &&& 31)) 0)] LAY (M, L)
  refine x_if_eq C (show decode cX11_isLegal 137 = .ok (.ifCond .eq 21, 3) from by decide +kernel) (tgt := 158) (by decide) (fun c86 => ?_) (fun c86 => ?_)
  · rw [if_pos c86] at h
    have g87 : xrg 0 0 (f_X11_fits x1 (x0 >>> ((12 : Int32) &&& 31)) 0) := (x_c_eq g84 (x_rgc (x := 0) (k := 0) (by decide)) c86).1
    refine x_run C e_X11_isLegal_34 e_X11_isLegal_34_k (pc' := 159) (lv' := [(0, .int x0), (1, .int x1), (4, .int x4)]) (st' := [.int 0]) (σ' := (M, L)) rfl ⟨trivial, trivial⟩ ?_
    subst h
    exact x_iret C (show decode cX11_isLegal 159 = .ok (.ireturn, 1) from by decide +kernel) (x_finI (x_nb (x_rgw (x_rgc (x := 0) (k := 0) (by decide)) (lo' := 0) (hi' := 1) (by decide) (by decide))) ⟨⟨rfl, rfl⟩, (x_rgw (x_rgc (x := 0) (k := 0) (by decide)) (lo' := 0) (hi' := 1) (by decide) (by decide)), trivial⟩) (Nat.le_refl 0) (Nat.le_refl 0)
  · rw [if_neg c86] at h
    have g88 : xrg 1 1 (f_X11_fits x1 (x0 >>> ((12 : Int32) &&& 31)) 0) := (x_c_ne g84 (by decide) c86)
    refine x_run C e_X11_isLegal_35 e_X11_isLegal_35_k (pc' := 148) (lv' := [(0, .int x0), (1, .int x1), (4, .int x4)]) (st' := [.int 8, .int (x0 >>> ((12 : Int32) &&& 31)), .int x4]) (σ' := (M, L)) rfl ⟨trivial, trivial, trivial, trivial, trivial, trivial⟩ ?_
    refine x_callS C (rest := []) (avs := [.int x4, .int (x0 >>> ((12 : Int32) &&& 31)), .int 8]) (k_X11_fits l x4 (x0 >>> ((12 : Int32) &&& 31)) 8 M L) yoX11_fits ml_X11_141 rfl ⟨Nat.zero_le _, Nat.zero_le _⟩ (show decode cX11_isLegal 148 = .ok (.invokestatic 141, 3) from by decide +kernel) rfl (fun v σ' hPo => ?_)
    obtain ⟨⟨rfl, rfl⟩, g90, -⟩ := hPo
    show V 0 0 151 [(0, .int x0), (1, .int x1), (4, .int x4)] [.int (f_X11_fits x4 (x0 >>> ((12 : Int32) &&& 31)) 8)] LAY (M, L)
    refine x_if_eq C (show decode cX11_isLegal 151 = .ok (.ifCond .eq 7, 3) from by decide +kernel) (tgt := 158) (by decide) (fun c92 => ?_) (fun c92 => ?_)
    · rw [if_pos c92] at h
      have g93 : xrg 0 0 (f_X11_fits x4 (x0 >>> ((12 : Int32) &&& 31)) 8) := (x_c_eq g90 (x_rgc (x := 0) (k := 0) (by decide)) c92).1
      refine x_run C e_X11_isLegal_34 e_X11_isLegal_34_k (pc' := 159) (lv' := [(0, .int x0), (1, .int x1), (4, .int x4)]) (st' := [.int 0]) (σ' := (M, L)) rfl ⟨trivial, trivial⟩ ?_
      subst h
      exact x_iret C (show decode cX11_isLegal 159 = .ok (.ireturn, 1) from by decide +kernel) (x_finI (x_nb (x_rgw (x_rgc (x := 0) (k := 0) (by decide)) (lo' := 0) (hi' := 1) (by decide) (by decide))) ⟨⟨rfl, rfl⟩, (x_rgw (x_rgc (x := 0) (k := 0) (by decide)) (lo' := 0) (hi' := 1) (by decide) (by decide)), trivial⟩) (Nat.le_refl 0) (Nat.le_refl 0)
    · rw [if_neg c92] at h
      have g94 : xrg 1 1 (f_X11_fits x4 (x0 >>> ((12 : Int32) &&& 31)) 8) := (x_c_ne g90 (by decide) c92)
      refine x_run C e_X11_isLegal_36 e_X11_isLegal_36_k (pc' := 155) (lv' := [(0, .int x0), (1, .int x1), (4, .int x4)]) (st' := [.int 1]) (σ' := (M, L)) rfl ⟨trivial, trivial⟩ ?_
      refine x_goto C (show decode cX11_isLegal 155 = .ok (.goto 4, 3) from by decide +kernel) (tgt := 159) (by decide) ?_
      subst h
      exact x_iret C (show decode cX11_isLegal 159 = .ok (.ireturn, 1) from by decide +kernel) (x_finI (x_nb (x_rgw (x_rgc (x := 1) (k := 1) (by decide)) (lo' := 0) (hi' := 1) (by decide) (by decide))) ⟨⟨rfl, rfl⟩, (x_rgw (x_rgc (x := 1) (k := 1) (by decide)) (lo' := 0) (hi' := 1) (by decide) (by decide)), trivial⟩) (Nat.le_refl 0) (Nat.le_refl 0)
set_option maxRecDepth 20000 in
set_option maxHeartbeats 4000000 in
theorem b_X11_isLegal_183 {l : Launch} {L : Nat → Nat → Int64} {V : XJ} (r : Int32) {M : St} (C : C_X11_isLegal l r M L V) (s0 : Int32) (s1 : Int32) (ws0 : xrg 1 2 s0) (ws1 : xrg 0 63 s1) (h : f_X11_isLegal_183 s0 s1 = r) : V 0 0 183 [] [.int s0, .int s1] LAY (M, L) := by
  unfold f_X11_isLegal_183 at h
  refine x_run C e_X11_isLegal_61 e_X11_isLegal_61_k (pc' := 184) (lv' := []) (st' := [.int 0, .int s0, .int s1]) (σ' := (M, L)) rfl ⟨trivial, trivial⟩ ?_
  refine x_callS C (rest := []) (avs := [.int s1, .int s0, .int 0]) (k_X11_fits l s1 s0 0 M L) yoX11_fits ml_X11_141 rfl ⟨Nat.zero_le _, Nat.zero_le _⟩ (show decode cX11_isLegal 184 = .ok (.invokestatic 141, 3) from by decide +kernel) rfl (fun v σ' hPo => ?_)
  obtain ⟨⟨rfl, rfl⟩, g151, -⟩ := hPo
  show V 0 0 187 [] [.int (f_X11_fits s1 s0 0)] LAY (M, L)
  refine x_goto C (show decode cX11_isLegal 187 = .ok (.goto 37, 3) from by decide +kernel) (tgt := 224) (by decide) ?_
  subst h
  exact x_iret C (show decode cX11_isLegal 224 = .ok (.ireturn, 1) from by decide +kernel) (x_finI (x_nb g151) ⟨⟨rfl, rfl⟩, g151, trivial⟩) (Nat.le_refl 0) (Nat.le_refl 0)
set_option maxRecDepth 20000 in
set_option maxHeartbeats 4000000 in
theorem b_X11_isLegal_167 {l : Launch} {L : Nat → Nat → Int64} {V : XJ} (r : Int32) {M : St} (C : C_X11_isLegal l r M L V) (x1 : Int32) (x2 : Int32) (x3 : Int32) (x6 : Int32) (wx1 : xrg 0 63 x1) (wx3 : xrg 0 3 x3) (wx6 : xrg 0 1 x6) (h : f_X11_isLegal_167 x1 x2 x3 x6 = r) : V 0 0 167 [(1, .int x1), (2, .int x2), (3, .int x3), (6, .int x6)] [] LAY (M, L) := by
  unfold f_X11_isLegal_167 at h
  refine x_run C e_X11_isLegal_37 e_X11_isLegal_37_k (pc' := 169) (lv' := [(1, .int x1), (2, .int x2), (3, .int x3), (6, .int x6)]) (st' := [.int 3, .int x3]) (σ' := (M, L)) rfl ⟨trivial, trivial, trivial⟩ ?_
  refine x_icmp_ne C (show decode cX11_isLegal 169 = .ok (.if_icmp .ne 21, 3) from by decide +kernel) (tgt := 190) (by decide) (fun c95 => ?_) (fun c95 => ?_)
  · rw [if_neg c95] at h
    have g96 : xrg 0 2 x3 := (x_c_neh wx3 (by decide) c95)
    refine x_run C e_X11_isLegal_38 e_X11_isLegal_38_k (pc' := 192) (lv' := [(1, .int x1), (2, .int x2), (3, .int x3), (6, .int x6)]) (st' := [.int x6]) (σ' := (M, L)) rfl ⟨trivial, trivial⟩ ?_
    refine x_if_eq C (show decode cX11_isLegal 192 = .ok (.ifCond .eq 26, 3) from by decide +kernel) (tgt := 218) (by decide) (fun c97 => ?_) (fun c97 => ?_)
    · rw [if_pos c97] at h
      have g98 : xrg 0 0 x6 := (x_c_eq wx6 (x_rgc (x := 0) (k := 0) (by decide)) c97).1
      refine x_run C e_X11_isLegal_39 e_X11_isLegal_39_k (pc' := 221) (lv' := [(1, .int x1), (2, .int x2), (3, .int x3), (6, .int x6)]) (st' := [.int 0, .int x3, .int x1]) (σ' := (M, L)) rfl ⟨trivial, trivial, trivial, trivial⟩ ?_
      refine x_callS C (rest := []) (avs := [.int x1, .int x3, .int 0]) (k_X11_fits l x1 x3 0 M L) yoX11_fits ml_X11_141 rfl ⟨Nat.zero_le _, Nat.zero_le _⟩ (show decode cX11_isLegal 221 = .ok (.invokestatic 141, 3) from by decide +kernel) rfl (fun v σ' hPo => ?_)
      obtain ⟨⟨rfl, rfl⟩, g100, -⟩ := hPo
      show V 0 0 224 [(1, .int x1), (2, .int x2), (3, .int x3), (6, .int x6)] [.int (f_X11_fits x1 x3 0)] LAY (M, L)
      subst h
      exact x_iret C (show decode cX11_isLegal 224 = .ok (.ireturn, 1) from by decide +kernel) (x_finI (x_nb g100) ⟨⟨rfl, rfl⟩, g100, trivial⟩) (Nat.le_refl 0) (Nat.le_refl 0)
    · rw [if_neg c97] at h
      have g102 : xrg 1 1 x6 := (x_c_ne wx6 (by decide) c97)
      refine x_run C e_X11_isLegal_40 e_X11_isLegal_40_k (pc' := 197) (lv' := [(1, .int x1), (2, .int x2), (3, .int x3), (6, .int x6)]) (st' := [.int 2, .int x2]) (σ' := (M, L)) rfl ⟨trivial, trivial, trivial⟩ ?_
      refine x_icmp_lt C (show decode cX11_isLegal 197 = .ok (.if_icmp .lt 13, 3) from by decide +kernel) (tgt := 210) (by decide) (fun c103 => ?_) (fun c103 => ?_)
      · rw [if_pos c103] at h
        have g104 : xrg (-2147483648) 1 x2 := (x_c_lt (x_rgt x2) (x_rgc (x := 2) (k := 2) (by decide)) c103).1
        refine x_run C e_X11_isLegal_41 e_X11_isLegal_41_k (pc' := 211) (lv' := [(1, .int x1), (2, .int x2), (3, .int x3), (6, .int x6)]) (st' := [.int 1]) (σ' := (M, L)) rfl ⟨trivial, trivial⟩ ?_
        refine x_goto C (show decode cX11_isLegal 211 = .ok (.goto 13, 3) from by decide +kernel) (tgt := 224) (by decide) ?_
        subst h
        exact x_iret C (show decode cX11_isLegal 224 = .ok (.ireturn, 1) from by decide +kernel) (x_finI (x_nb (x_rgw (x_rgc (x := 1) (k := 1) (by decide)) (lo' := 0) (hi' := 1) (by decide) (by decide))) ⟨⟨rfl, rfl⟩, (x_rgw (x_rgc (x := 1) (k := 1) (by decide)) (lo' := 0) (hi' := 1) (by decide) (by decide)), trivial⟩) (Nat.le_refl 0) (Nat.le_refl 0)
      · rw [if_neg c103] at h
        have g105 : xrg 2 2147483647 x2 := (x_c_nlt (x_rgt x2) (x_rgc (x := 2) (k := 2) (by decide)) c103).1
        refine x_run C e_X11_isLegal_42 e_X11_isLegal_42_k (pc' := 204) (lv' := [(1, .int x1), (2, .int x2), (3, .int x3), (6, .int x6)]) (st' := [.int 10, .int x3, .int x1]) (σ' := (M, L)) rfl ⟨trivial, trivial, trivial, trivial⟩ ?_
        refine x_callS C (rest := []) (avs := [.int x1, .int x3, .int 10]) (k_X11_fits l x1 x3 10 M L) yoX11_fits ml_X11_141 rfl ⟨Nat.zero_le _, Nat.zero_le _⟩ (show decode cX11_isLegal 204 = .ok (.invokestatic 141, 3) from by decide +kernel) rfl (fun v σ' hPo => ?_)
        obtain ⟨⟨rfl, rfl⟩, g107, -⟩ := hPo
        show V 0 0 207 [(1, .int x1), (2, .int x2), (3, .int x3), (6, .int x6)] [.int (f_X11_fits x1 x3 10)] LAY (M, L)
        refine x_if_eq C (show decode cX11_isLegal 207 = .ok (.ifCond .eq 7, 3) from by decide +kernel) (tgt := 214) (by decide) (fun c109 => ?_) (fun c109 => ?_)
        · rw [if_pos c109] at h
          have g110 : xrg 0 0 (f_X11_fits x1 x3 10) := (x_c_eq g107 (x_rgc (x := 0) (k := 0) (by decide)) c109).1
          refine x_run C e_X11_isLegal_43 e_X11_isLegal_43_k (pc' := 215) (lv' := [(1, .int x1), (2, .int x2), (3, .int x3), (6, .int x6)]) (st' := [.int 0]) (σ' := (M, L)) rfl ⟨trivial, trivial⟩ ?_
          refine x_goto C (show decode cX11_isLegal 215 = .ok (.goto 9, 3) from by decide +kernel) (tgt := 224) (by decide) ?_
          subst h
          exact x_iret C (show decode cX11_isLegal 224 = .ok (.ireturn, 1) from by decide +kernel) (x_finI (x_nb (x_rgw (x_rgc (x := 0) (k := 0) (by decide)) (lo' := 0) (hi' := 1) (by decide) (by decide))) ⟨⟨rfl, rfl⟩, (x_rgw (x_rgc (x := 0) (k := 0) (by decide)) (lo' := 0) (hi' := 1) (by decide) (by decide)), trivial⟩) (Nat.le_refl 0) (Nat.le_refl 0)
        · rw [if_neg c109] at h
          have g111 : xrg 1 1 (f_X11_fits x1 x3 10) := (x_c_ne g107 (by decide) c109)
          refine x_run C e_X11_isLegal_41 e_X11_isLegal_41_k (pc' := 211) (lv' := [(1, .int x1), (2, .int x2), (3, .int x3), (6, .int x6)]) (st' := [.int 1]) (σ' := (M, L)) rfl ⟨trivial, trivial⟩ ?_
          refine x_goto C (show decode cX11_isLegal 211 = .ok (.goto 13, 3) from by decide +kernel) (tgt := 224) (by decide) ?_
          subst h
          exact x_iret C (show decode cX11_isLegal 224 = .ok (.ireturn, 1) from by decide +kernel) (x_finI (x_nb (x_rgw (x_rgc (x := 1) (k := 1) (by decide)) (lo' := 0) (hi' := 1) (by decide) (by decide))) ⟨⟨rfl, rfl⟩, (x_rgw (x_rgc (x := 1) (k := 1) (by decide)) (lo' := 0) (hi' := 1) (by decide) (by decide)), trivial⟩) (Nat.le_refl 0) (Nat.le_refl 0)
  · rw [if_pos c95] at h
    have g112 : xrg 3 3 x3 := (x_c_eq wx3 (x_rgc (x := 3) (k := 3) (by decide)) c95).1
    refine x_run C e_X11_isLegal_44 e_X11_isLegal_44_k (pc' := 175) (lv' := [(1, .int x1), (2, .int x2), (3, .int x3), (6, .int x6)]) (st' := [.int x6, .int x1]) (σ' := (M, L)) rfl ⟨trivial, trivial, trivial⟩ ?_
    refine x_if_eq C (show decode cX11_isLegal 175 = .ok (.ifCond .eq 7, 3) from by decide +kernel) (tgt := 182) (by decide) (fun c113 => ?_) (fun c113 => ?_)
    · rw [if_pos c113] at h
      have g114 : xrg 0 0 x6 := (x_c_eq wx6 (x_rgc (x := 0) (k := 0) (by decide)) c113).1
      refine x_run C e_X11_isLegal_45 e_X11_isLegal_45_k (pc' := 183) (lv' := [(1, .int x1), (2, .int x2), (3, .int x3), (6, .int x6)]) (st' := [.int 1, .int x1]) (σ' := (M, L)) rfl ⟨trivial, trivial⟩ ?_
      refine x_lv C [] rfl ?_
      exact b_X11_isLegal_183 r C 1 x1  (x_rgw (x_rgc (x := 1) (k := 1) (by decide)) (lo' := 1) (hi' := 2) (by decide) (by decide)) wx1 h
    · rw [if_neg c113] at h
      have g115 : xrg 1 1 x6 := (x_c_ne wx6 (by decide) c113)
      refine x_run C e_X11_isLegal_46 e_X11_isLegal_46_k (pc' := 179) (lv' := [(1, .int x1), (2, .int x2), (3, .int x3), (6, .int x6)]) (st' := [.int 2, .int x1]) (σ' := (M, L)) rfl ⟨trivial, trivial⟩ ?_
      refine x_goto C (show decode cX11_isLegal 179 = .ok (.goto 4, 3) from by decide +kernel) (tgt := 183) (by decide) ?_
      refine x_lv C [] rfl ?_
      exact b_X11_isLegal_183 r C 2 x1  (x_rgw (x_rgc (x := 2) (k := 2) (by decide)) (lo' := 1) (hi' := 2) (by decide) (by decide)) wx1 h
set_option maxRecDepth 20000 in
set_option maxHeartbeats 4000000 in
theorem b_X11_isLegal_241 {l : Launch} {L : Nat → Nat → Int64} {V : XJ} (r : Int32) {M : St} (C : C_X11_isLegal l r M L V) (s0 : Int32) (s1 : Int32) (ws0 : xrg 1 2 s0) (ws1 : xrg 0 63 s1) (h : f_X11_isLegal_241 s0 s1 = r) : V 0 0 241 [] [.int s0, .int s1] LAY (M, L) := by
  unfold f_X11_isLegal_241 at h
  refine x_run C e_X11_isLegal_47 e_X11_isLegal_47_k (pc' := 242) (lv' := []) (st' := [.int 0, .int s0, .int s1]) (σ' := (M, L)) rfl ⟨trivial, trivial⟩ ?_
  refine x_callS C (rest := []) (avs := [.int s1, .int s0, .int 0]) (k_X11_fits l s1 s0 0 M L) yoX11_fits ml_X11_141 rfl ⟨Nat.zero_le _, Nat.zero_le _⟩ (show decode cX11_isLegal 242 = .ok (.invokestatic 141, 3) from by decide +kernel) rfl (fun v σ' hPo => ?_)
  obtain ⟨⟨rfl, rfl⟩, g117, -⟩ := hPo
  show V 0 0 245 [] [.int (f_X11_fits s1 s0 0)] LAY (M, L)
  refine x_goto C (show decode cX11_isLegal 245 = .ok (.goto 37, 3) from by decide +kernel) (tgt := 282) (by decide) ?_
  subst h
  exact x_iret C (show decode cX11_isLegal 282 = .ok (.ireturn, 1) from by decide +kernel) (x_finI (x_nb g117) ⟨⟨rfl, rfl⟩, g117, trivial⟩) (Nat.le_refl 0) (Nat.le_refl 0)
set_option maxRecDepth 20000 in
set_option maxHeartbeats 4000000 in
theorem b_X11_isLegal_304 {l : Launch} {L : Nat → Nat → Int64} {V : XJ} (r : Int32) {M : St} (C : C_X11_isLegal l r M L V) (s0 : Int32) (s1 : Int32) (ws0 : xrg 0 2 s0) (ws1 : xrg 0 63 s1) (h : f_X11_isLegal_304 s0 s1 = r) : V 0 0 304 [] [.int s0, .int s1] LAY (M, L) := by
  unfold f_X11_isLegal_304 at h
  refine x_run C e_X11_isLegal_65 e_X11_isLegal_65_k (pc' := 305) (lv' := []) (st' := [.int 1, .int s0, .int s1]) (σ' := (M, L)) rfl ⟨trivial, trivial⟩ ?_
  refine x_callS C (rest := []) (avs := [.int s1, .int s0, .int 1]) (k_X11_fits l s1 s0 1 M L) yoX11_fits ml_X11_141 rfl ⟨Nat.zero_le _, Nat.zero_le _⟩ (show decode cX11_isLegal 305 = .ok (.invokestatic 141, 3) from by decide +kernel) rfl (fun v σ' hPo => ?_)
  obtain ⟨⟨rfl, rfl⟩, g157, -⟩ := hPo
  show V 0 0 308 [] [.int (f_X11_fits s1 s0 1)] LAY (M, L)
  subst h
  exact x_iret C (show decode cX11_isLegal 308 = .ok (.ireturn, 1) from by decide +kernel) (x_finI (x_nb g157) ⟨⟨rfl, rfl⟩, g157, trivial⟩) (Nat.le_refl 0) (Nat.le_refl 0)
set_option maxRecDepth 20000 in
set_option maxHeartbeats 4000000 in
theorem b_X11_isLegal_293 {l : Launch} {L : Nat → Nat → Int64} {V : XJ} (r : Int32) {M : St} (C : C_X11_isLegal l r M L V) (x1 : Int32) (x3 : Int32) (wx1 : xrg 0 63 x1) (wx3 : xrg 0 3 x3) (h : f_X11_isLegal_293 x1 x3 = r) : V 0 0 293 [(1, .int x1), (3, .int x3)] [] LAY (M, L) := by
  unfold f_X11_isLegal_293 at h
  refine x_run C e_X11_isLegal_62 e_X11_isLegal_62_k (pc' := 296) (lv' := [(1, .int x1), (3, .int x3)]) (st' := [.int 3, .int x3, .int x1]) (σ' := (M, L)) rfl ⟨trivial, trivial, trivial, trivial⟩ ?_
  refine x_icmp_ne C (show decode cX11_isLegal 296 = .ok (.if_icmp .ne 7, 3) from by decide +kernel) (tgt := 303) (by decide) (fun c153 => ?_) (fun c153 => ?_)
  · rw [if_neg c153] at h
    have g154 : xrg 0 2 x3 := (x_c_neh wx3 (by decide) c153)
    refine x_run C e_X11_isLegal_63 e_X11_isLegal_63_k (pc' := 304) (lv' := [(1, .int x1), (3, .int x3)]) (st' := [.int x3, .int x1]) (σ' := (M, L)) rfl ⟨trivial, trivial⟩ ?_
    refine x_lv C [] rfl ?_
    exact b_X11_isLegal_304 r C x3 x1  g154 wx1 h
  · rw [if_pos c153] at h
    have g155 : xrg 3 3 x3 := (x_c_eq wx3 (x_rgc (x := 3) (k := 3) (by decide)) c153).1
    refine x_run C e_X11_isLegal_64 e_X11_isLegal_64_k (pc' := 300) (lv' := [(1, .int x1), (3, .int x3)]) (st' := [.int 1, .int x1]) (σ' := (M, L)) rfl ⟨trivial, trivial⟩ ?_
    refine x_goto C (show decode cX11_isLegal 300 = .ok (.goto 4, 3) from by decide +kernel) (tgt := 304) (by decide) ?_
    refine x_lv C [] rfl ?_
    exact b_X11_isLegal_304 r C 1 x1  (x_rgw (x_rgc (x := 1) (k := 1) (by decide)) (lo' := 0) (hi' := 2) (by decide) (by decide)) wx1 h
set_option maxRecDepth 20000 in
set_option maxHeartbeats 4000000 in
theorem b_X11_isLegal_283 {l : Launch} {L : Nat → Nat → Int64} {V : XJ} (r : Int32) {M : St} (C : C_X11_isLegal l r M L V) (x0 : Int32) (x1 : Int32) (x2 : Int32) (x3 : Int32) (x6 : Int32) (wx1 : xrg 0 63 x1) (wx3 : xrg 0 3 x3) (wx6 : xrg 0 1 x6) (h : f_X11_isLegal_283 x0 x1 x2 x3 x6 = r) : V 0 0 283 [(0, .int x0), (1, .int x1), (2, .int x2), (3, .int x3), (6, .int x6)] [] LAY (M, L) := by
  unfold f_X11_isLegal_283 at h
  refine x_run C e_X11_isLegal_48 e_X11_isLegal_48_k (pc' := 285) (lv' := [(0, .int x0), (1, .int x1), (2, .int x2), (3, .int x3), (6, .int x6)]) (st' := [.int 3, .int x3]) (σ' := (M, L)) rfl ⟨trivial, trivial, trivial⟩ ?_
  refine x_icmp_eq C (show decode cX11_isLegal 285 = .ok (.if_icmp .eq 8, 3) from by decide +kernel) (tgt := 293) (by decide) (fun c119 => ?_) (fun c119 => ?_)
  · rw [if_pos c119] at h
    have g120 : xrg 3 3 x3 := (x_c_eq wx3 (x_rgc (x := 3) (k := 3) (by decide)) c119).1
    refine x_lv C [1, 3] rfl ?_
    exact b_X11_isLegal_293 r C x1 x3  wx1 (x_rgw g120 (lo' := 0) (hi' := 3) (by decide) (by decide)) h
  · rw [if_neg c119] at h
    have g121 : xrg 0 2 x3 := (x_c_neh wx3 (by decide) c119)
    refine x_run C e_X11_isLegal_49 e_X11_isLegal_49_k (pc' := 290) (lv' := [(0, .int x0), (1, .int x1), (2, .int x2), (3, .int x3), (6, .int x6)]) (st' := [.int x6]) (σ' := (M, L)) rfl ⟨trivial, trivial⟩ ?_
    refine x_if_ne C (show decode cX11_isLegal 290 = .ok (.ifCond .ne 19, 3) from by decide +kernel) (tgt := 309) (by decide) (fun c122 => ?_) (fun c122 => ?_)
    · rw [if_neg c122] at h
      have g123 : xrg 1 1 x6 := (x_c_ne wx6 (by decide) c122)
      refine x_run C e_X11_isLegal_50 e_X11_isLegal_50_k (pc' := 311) (lv' := [(0, .int x0), (1, .int x1), (2, .int x2), (3, .int x3), (6, .int x6)]) (st' := [.int 1, .int x2]) (σ' := (M, L)) rfl ⟨trivial, trivial, trivial⟩ ?_
      refine x_icmp_le C (show decode cX11_isLegal 311 = .ok (.if_icmp .le 13, 3) from by decide +kernel) (tgt := 324) (by decide) (fun c124 => ?_) (fun c124 => ?_)
      · rw [if_pos c124] at h
        have g125 : xrg (-2147483648) 1 x2 := (x_c_le (x_rgt x2) (x_rgc (x := 1) (k := 1) (by decide)) c124).1
        refine x_run C e_X11_isLegal_51 e_X11_isLegal_51_k (pc' := 325) (lv' := [(0, .int x0), (1, .int x1), (2, .int x2), (3, .int x3), (6, .int x6)]) (st' := [.int x3]) (σ' := (M, L)) rfl ⟨trivial, trivial⟩ ?_
        refine x_if_eq C (show decode cX11_isLegal 325 = .ok (.ifCond .eq 22, 3) from by decide +kernel) (tgt := 347) (by decide) (fun c126 => ?_) (fun c126 => ?_)
        · rw [if_pos c126] at h
          have g127 : xrg 0 0 x3 := (x_c_eq g121 (x_rgc (x := 0) (k := 0) (by decide)) c126).1
          refine x_run C e_X11_isLegal_52 e_X11_isLegal_52_k (pc' := 348) (lv' := [(0, .int x0), (1, .int x1), (2, .int x2), (3, .int x3), (6, .int x6)]) (st' := [.int 1]) (σ' := (M, L)) rfl ⟨trivial, trivial⟩ ?_
          refine x_goto C (show decode cX11_isLegal 348 = .ok (.goto 4, 3) from by decide +kernel) (tgt := 352) (by decide) ?_
          subst h
          exact x_iret C (show decode cX11_isLegal 352 = .ok (.ireturn, 1) from by decide +kernel) (x_finI (x_nb (x_rgw (x_rgc (x := 1) (k := 1) (by decide)) (lo' := 0) (hi' := 1) (by decide) (by decide))) ⟨⟨rfl, rfl⟩, (x_rgw (x_rgc (x := 1) (k := 1) (by decide)) (lo' := 0) (hi' := 1) (by decide) (by decide)), trivial⟩) (Nat.le_refl 0) (Nat.le_refl 0)
        · rw [if_neg c126] at h
          have g128 : xrg 1 2 x3 := (x_c_ne g121 (by decide) c126)
          refine x_run C e_X11_isLegal_53 e_X11_isLegal_53_k (pc' := 334) (lv' := [(0, .int x0), (1, .int x1), (2, .int x2), (3, .int x3), (6, .int x6)]) (st' := [.int 7, .int (x0 >>> ((12 : Int32) &&& 31))]) (σ' := (M, L)) rfl ⟨trivial, trivial, trivial, trivial, trivial⟩ ?_
          refine x_icmp_ne C (show decode cX11_isLegal 334 = .ok (.if_icmp .ne 17, 3) from by decide +kernel) (tgt := 351) (by decide) (fun c129 => ?_) (fun c129 => ?_)
          · rw [if_neg c129] at h
            refine x_run C e_X11_isLegal_54 e_X11_isLegal_54_k (pc' := 352) (lv' := [(0, .int x0), (1, .int x1), (2, .int x2), (3, .int x3), (6, .int x6)]) (st' := [.int 0]) (σ' := (M, L)) rfl ⟨trivial, trivial⟩ ?_
            subst h
            exact x_iret C (show decode cX11_isLegal 352 = .ok (.ireturn, 1) from by decide +kernel) (x_finI (x_nb (x_rgw (x_rgc (x := 0) (k := 0) (by decide)) (lo' := 0) (hi' := 1) (by decide) (by decide))) ⟨⟨rfl, rfl⟩, (x_rgw (x_rgc (x := 0) (k := 0) (by decide)) (lo' := 0) (hi' := 1) (by decide) (by decide)), trivial⟩) (Nat.le_refl 0) (Nat.le_refl 0)
          · rw [if_pos c129] at h
            have g130 : xrg 7 7 (x0 >>> ((12 : Int32) &&& 31)) := (x_c_eq (x_rgt (x0 >>> ((12 : Int32) &&& 31))) (x_rgc (x := 7) (k := 7) (by decide)) c129).1
            refine x_run C e_X11_isLegal_55 e_X11_isLegal_55_k (pc' := 339) (lv' := [(0, .int x0), (1, .int x1), (2, .int x2), (3, .int x3), (6, .int x6)]) (st' := [.int 1, .int x3]) (σ' := (M, L)) rfl ⟨trivial, trivial, trivial⟩ ?_
            refine x_icmp_eq C (show decode cX11_isLegal 339 = .ok (.if_icmp .eq 8, 3) from by decide +kernel) (tgt := 347) (by decide) (fun c131 => ?_) (fun c131 => ?_)
            · rw [if_pos c131] at h
              have g132 : xrg 1 1 x3 := (x_c_eq g128 (x_rgc (x := 1) (k := 1) (by decide)) c131).1
              refine x_run C e_X11_isLegal_52 e_X11_isLegal_52_k (pc' := 348) (lv' := [(0, .int x0), (1, .int x1), (2, .int x2), (3, .int x3), (6, .int x6)]) (st' := [.int 1]) (σ' := (M, L)) rfl ⟨trivial, trivial⟩ ?_
              refine x_goto C (show decode cX11_isLegal 348 = .ok (.goto 4, 3) from by decide +kernel) (tgt := 352) (by decide) ?_
              subst h
              exact x_iret C (show decode cX11_isLegal 352 = .ok (.ireturn, 1) from by decide +kernel) (x_finI (x_nb (x_rgw (x_rgc (x := 1) (k := 1) (by decide)) (lo' := 0) (hi' := 1) (by decide) (by decide))) ⟨⟨rfl, rfl⟩, (x_rgw (x_rgc (x := 1) (k := 1) (by decide)) (lo' := 0) (hi' := 1) (by decide) (by decide)), trivial⟩) (Nat.le_refl 0) (Nat.le_refl 0)
            · rw [if_neg c131] at h
              have g133 : xrg 2 2 x3 := (x_c_ne g128 (by decide) c131)
              refine x_run C e_X11_isLegal_56 e_X11_isLegal_56_k (pc' := 344) (lv' := [(0, .int x0), (1, .int x1), (2, .int x2), (3, .int x3), (6, .int x6)]) (st' := [.int 1, .int x2]) (σ' := (M, L)) rfl ⟨trivial, trivial, trivial⟩ ?_
              refine x_icmp_ne C (show decode cX11_isLegal 344 = .ok (.if_icmp .ne 7, 3) from by decide +kernel) (tgt := 351) (by decide) (fun c134 => ?_) (fun c134 => ?_)
              · rw [if_neg c134] at h
                have g135 : xrg (-2147483648) 0 x2 := (x_c_neh g125 (by decide) c134)
                refine x_run C e_X11_isLegal_54 e_X11_isLegal_54_k (pc' := 352) (lv' := [(0, .int x0), (1, .int x1), (2, .int x2), (3, .int x3), (6, .int x6)]) (st' := [.int 0]) (σ' := (M, L)) rfl ⟨trivial, trivial⟩ ?_
                subst h
                exact x_iret C (show decode cX11_isLegal 352 = .ok (.ireturn, 1) from by decide +kernel) (x_finI (x_nb (x_rgw (x_rgc (x := 0) (k := 0) (by decide)) (lo' := 0) (hi' := 1) (by decide) (by decide))) ⟨⟨rfl, rfl⟩, (x_rgw (x_rgc (x := 0) (k := 0) (by decide)) (lo' := 0) (hi' := 1) (by decide) (by decide)), trivial⟩) (Nat.le_refl 0) (Nat.le_refl 0)
              · rw [if_pos c134] at h
                have g136 : xrg 1 1 x2 := (x_c_eq g125 (x_rgc (x := 1) (k := 1) (by decide)) c134).1
                refine x_run C e_X11_isLegal_52 e_X11_isLegal_52_k (pc' := 348) (lv' := [(0, .int x0), (1, .int x1), (2, .int x2), (3, .int x3), (6, .int x6)]) (st' := [.int 1]) (σ' := (M, L)) rfl ⟨trivial, trivial⟩ ?_
                refine x_goto C (show decode cX11_isLegal 348 = .ok (.goto 4, 3) from by decide +kernel) (tgt := 352) (by decide) ?_
                subst h
                exact x_iret C (show decode cX11_isLegal 352 = .ok (.ireturn, 1) from by decide +kernel) (x_finI (x_nb (x_rgw (x_rgc (x := 1) (k := 1) (by decide)) (lo' := 0) (hi' := 1) (by decide) (by decide))) ⟨⟨rfl, rfl⟩, (x_rgw (x_rgc (x := 1) (k := 1) (by decide)) (lo' := 0) (hi' := 1) (by decide) (by decide)), trivial⟩) (Nat.le_refl 0) (Nat.le_refl 0)
      · rw [if_neg c124] at h
        have g137 : xrg 2 2147483647 x2 := (x_c_nle (x_rgt x2) (x_rgc (x := 1) (k := 1) (by decide)) c124).1
        refine x_run C e_X11_isLegal_57 e_X11_isLegal_57_k (pc' := 318) (lv' := [(0, .int x0), (1, .int x1), (2, .int x2), (3, .int x3), (6, .int x6)]) (st' := [.int 10, .int x3, .int x1]) (σ' := (M, L)) rfl ⟨trivial, trivial, trivial, trivial⟩ ?_
        refine x_callS C (rest := []) (avs := [.int x1, .int x3, .int 10]) (k_X11_fits l x1 x3 10 M L) yoX11_fits ml_X11_141 rfl ⟨Nat.zero_le _, Nat.zero_le _⟩ (show decode cX11_isLegal 318 = .ok (.invokestatic 141, 3) from by decide +kernel) rfl (fun v σ' hPo => ?_)
        obtain ⟨⟨rfl, rfl⟩, g139, -⟩ := hPo
        show V 0 0 321 [(0, .int x0), (1, .int x1), (2, .int x2), (3, .int x3), (6, .int x6)] [.int (f_X11_fits x1 x3 10)] LAY (M, L)
        refine x_goto C (show decode cX11_isLegal 321 = .ok (.goto 31, 3) from by decide +kernel) (tgt := 352) (by decide) ?_
        subst h
        exact x_iret C (show decode cX11_isLegal 352 = .ok (.ireturn, 1) from by decide +kernel) (x_finI (x_nb g139) ⟨⟨rfl, rfl⟩, g139, trivial⟩) (Nat.le_refl 0) (Nat.le_refl 0)
    · rw [if_pos c122] at h
      have g141 : xrg 0 0 x6 := (x_c_eq wx6 (x_rgc (x := 0) (k := 0) (by decide)) c122).1
      refine x_lv C [1, 3] rfl ?_
      exact b_X11_isLegal_293 r C x1 x3  wx1 (x_rgw g121 (lo' := 0) (hi' := 3) (by decide) (by decide)) h
set_option maxRecDepth 20000 in
set_option maxHeartbeats 4000000 in
theorem b_X11_isLegal_444 {l : Launch} {L : Nat → Nat → Int64} {V : XJ} (r : Int32) {M : St} (C : C_X11_isLegal l r M L V) (x1 : Int32) (x3 : Int32) (wx1 : xrg 0 63 x1) (wx3 : xrg 0 3 x3) (h : f_X11_isLegal_444 x1 x3 = r) : V 0 0 444 [(1, .int x1), (3, .int x3)] [] LAY (M, L) := by
  unfold f_X11_isLegal_444 at h
  refine x_run C e_X11_isLegal_58 e_X11_isLegal_58_k (pc' := 446) (lv' := [(1, .int x1), (3, .int x3)]) (st' := [.int 1, .int x3]) (σ' := (M, L)) rfl ⟨trivial, trivial, trivial⟩ ?_
  refine x_icmp_ne C (show decode cX11_isLegal 446 = .ok (.if_icmp .ne 16, 3) from by decide +kernel) (tgt := 462) (by decide) (fun c142 => ?_) (fun c142 => ?_)
  · rw [if_neg c142] at h
    refine x_run C e_X11_isLegal_59 e_X11_isLegal_59_k (pc' := 463) (lv' := [(1, .int x1), (3, .int x3)]) (st' := [.int 0]) (σ' := (M, L)) rfl ⟨trivial, trivial⟩ ?_
    subst h
    exact x_iret C (show decode cX11_isLegal 463 = .ok (.ireturn, 1) from by decide +kernel) (x_finI (x_nb (x_rgw (x_rgc (x := 0) (k := 0) (by decide)) (lo' := 0) (hi' := 1) (by decide) (by decide))) ⟨⟨rfl, rfl⟩, (x_rgw (x_rgc (x := 0) (k := 0) (by decide)) (lo' := 0) (hi' := 1) (by decide) (by decide)), trivial⟩) (Nat.le_refl 0) (Nat.le_refl 0)
  · rw [if_pos c142] at h
    have g143 : xrg 1 1 x3 := (x_c_eq wx3 (x_rgc (x := 1) (k := 1) (by decide)) c142).1
    refine x_run C e_X11_isLegal_60 e_X11_isLegal_60_k (pc' := 452) (lv' := [(1, .int x1), (3, .int x3)]) (st' := [.int 1, .int 1, .int x1]) (σ' := (M, L)) rfl ⟨trivial, trivial, trivial, trivial⟩ ?_
    refine x_callS C (rest := []) (avs := [.int x1, .int 1, .int 1]) (k_X11_fits l x1 1 1 M L) yoX11_fits ml_X11_141 rfl ⟨Nat.zero_le _, Nat.zero_le _⟩ (show decode cX11_isLegal 452 = .ok (.invokestatic 141, 3) from by decide +kernel) rfl (fun v σ' hPo => ?_)
    obtain ⟨⟨rfl, rfl⟩, g145, -⟩ := hPo
    show V 0 0 455 [(1, .int x1), (3, .int x3)] [.int (f_X11_fits x1 1 1)] LAY (M, L)
    refine x_if_eq C (show decode cX11_isLegal 455 = .ok (.ifCond .eq 7, 3) from by decide +kernel) (tgt := 462) (by decide) (fun c147 => ?_) (fun c147 => ?_)
    · rw [if_pos c147] at h
      have g148 : xrg 0 0 (f_X11_fits x1 1 1) := (x_c_eq g145 (x_rgc (x := 0) (k := 0) (by decide)) c147).1
      refine x_run C e_X11_isLegal_59 e_X11_isLegal_59_k (pc' := 463) (lv' := [(1, .int x1), (3, .int x3)]) (st' := [.int 0]) (σ' := (M, L)) rfl ⟨trivial, trivial⟩ ?_
      subst h
      exact x_iret C (show decode cX11_isLegal 463 = .ok (.ireturn, 1) from by decide +kernel) (x_finI (x_nb (x_rgw (x_rgc (x := 0) (k := 0) (by decide)) (lo' := 0) (hi' := 1) (by decide) (by decide))) ⟨⟨rfl, rfl⟩, (x_rgw (x_rgc (x := 0) (k := 0) (by decide)) (lo' := 0) (hi' := 1) (by decide) (by decide)), trivial⟩) (Nat.le_refl 0) (Nat.le_refl 0)
    · rw [if_neg c147] at h
      have g149 : xrg 1 1 (f_X11_fits x1 1 1) := (x_c_ne g145 (by decide) c147)
      refine x_run C e_X11_isLegal_30 e_X11_isLegal_30_k (pc' := 459) (lv' := [(1, .int x1), (3, .int x3)]) (st' := [.int 1]) (σ' := (M, L)) rfl ⟨trivial, trivial⟩ ?_
      refine x_goto C (show decode cX11_isLegal 459 = .ok (.goto 4, 3) from by decide +kernel) (tgt := 463) (by decide) ?_
      subst h
      exact x_iret C (show decode cX11_isLegal 463 = .ok (.ireturn, 1) from by decide +kernel) (x_finI (x_nb (x_rgw (x_rgc (x := 1) (k := 1) (by decide)) (lo' := 0) (hi' := 1) (by decide) (by decide))) ⟨⟨rfl, rfl⟩, (x_rgw (x_rgc (x := 1) (k := 1) (by decide)) (lo' := 0) (hi' := 1) (by decide) (by decide)), trivial⟩) (Nat.le_refl 0) (Nat.le_refl 0)
set_option maxRecDepth 20000 in
set_option maxHeartbeats 4000000 in
theorem b_X11_isLegal_47 {l : Launch} {L : Nat → Nat → Int64} {V : XJ} (r : Int32) {M : St} (C : C_X11_isLegal l r M L V) (x0 : Int32) (x1 : Int32) (x2 : Int32) (x3 : Int32) (x4 : Int32) (x5 : Int32) (s0 : Int32) (wx1 : xrg 0 63 x1) (wx3 : xrg 0 3 x3) (wx4 : xrg 0 63 x4) (wx5 : xrg 0 7 x5) (ws0 : xrg 0 1 s0) (h : f_X11_isLegal_47 x0 x1 x2 x3 x4 x5 s0 = r) : V 0 0 47 [(0, .int x0), (1, .int x1), (2, .int x2), (3, .int x3), (4, .int x4), (5, .int x5)] [.int s0] LAY (M, L) := by
  unfold f_X11_isLegal_47 at h
  refine x_run C e_X11_isLegal_4 e_X11_isLegal_4_k (pc' := 53) (lv' := [(6, .int s0), (0, .int x0), (1, .int x1), (2, .int x2), (3, .int x3), (4, .int x4), (5, .int x5)]) (st' := [.int (x0 >>> ((12 : Int32) &&& 31))]) (σ' := (M, L)) rfl ⟨trivial, trivial, trivial, trivial, trivial⟩ ?_
  by_cases c4 : (x0 >>> ((12 : Int32) &&& 31)) = 0
  · rw [if_pos c4] at h
    refine x_tin C (show decode cX11_isLegal 53 = .ok (.tableswitch 411 0 14 #[75, 75, 75, 107, 114, 114, 172, 230, 230, 300, 411, 411, 336, 346, 373], 75) from by decide +kernel) 0 c4 (off := 75) (tgt := 128) (by decide) ?_
    refine x_lv C [1, 2, 5] rfl ?_
    exact b_X11_isLegal_128 r C x0 x1 x4  wx1 wx4 h
  rw [if_neg c4] at h
  by_cases c5 : (x0 >>> ((12 : Int32) &&& 31)) = 1
  · rw [if_pos c5] at h
    refine x_tin C (show decode cX11_isLegal 53 = .ok (.tableswitch 411 0 14 #[75, 75, 75, 107, 114, 114, 172, 230, 230, 300, 411, 411, 336, 346, 373], 75) from by decide +kernel) 1 c5 (off := 75) (tgt := 128) (by decide) ?_
    refine x_lv C [1, 2, 5] rfl ?_
    exact b_X11_isLegal_128 r C x0 x1 x4  wx1 wx4 h
  rw [if_neg c5] at h
  by_cases c6 : (x0 >>> ((12 : Int32) &&& 31)) = 2
  · rw [if_pos c6] at h
    refine x_tin C (show decode cX11_isLegal 53 = .ok (.tableswitch 411 0 14 #[75, 75, 75, 107, 114, 114, 172, 230, 230, 300, 411, 411, 336, 346, 373], 75) from by decide +kernel) 2 c6 (off := 75) (tgt := 128) (by decide) ?_
    refine x_lv C [1, 2, 5] rfl ?_
    exact b_X11_isLegal_128 r C x0 x1 x4  wx1 wx4 h
  rw [if_neg c6] at h
  by_cases c7 : (x0 >>> ((12 : Int32) &&& 31)) = 3
  · rw [if_pos c7] at h
    refine x_tin C (show decode cX11_isLegal 53 = .ok (.tableswitch 411 0 14 #[75, 75, 75, 107, 114, 114, 172, 230, 230, 300, 411, 411, 336, 346, 373], 75) from by decide +kernel) 3 c7 (off := 107) (tgt := 160) (by decide) ?_
    refine x_run C e_X11_isLegal_5 e_X11_isLegal_5_k (pc' := 163) (lv' := [(6, .int s0), (0, .int x0), (1, .int x1), (2, .int x2), (3, .int x3), (4, .int x4), (5, .int x5)]) (st' := [.int x1, .int x4]) (σ' := (M, L)) rfl ⟨trivial, trivial, trivial⟩ ?_
    refine x_callS C (rest := []) (avs := [.int x4, .int x1]) (k_X11_isLegalThree l x4 x1 M L) yoX11_isLegalThree ml_X11_145 rfl ⟨Nat.zero_le _, Nat.zero_le _⟩ (show decode cX11_isLegal 163 = .ok (.invokestatic 145, 3) from by decide +kernel) rfl (fun v σ' hPo => ?_)
    obtain ⟨⟨rfl, rfl⟩, g9, -⟩ := hPo
    show V 0 0 166 [(6, .int s0), (0, .int x0), (1, .int x1), (2, .int x2), (3, .int x3), (4, .int x4), (5, .int x5)] [.int (f_X11_isLegalThree x4 x1)] LAY (M, L)
    subst h
    exact x_iret C (show decode cX11_isLegal 166 = .ok (.ireturn, 1) from by decide +kernel) (x_finI (x_nb g9) ⟨⟨rfl, rfl⟩, g9, trivial⟩) (Nat.le_refl 0) (Nat.le_refl 0)
  rw [if_neg c7] at h
  by_cases c11 : (x0 >>> ((12 : Int32) &&& 31)) = 4
  · rw [if_pos c11] at h
    refine x_tin C (show decode cX11_isLegal 53 = .ok (.tableswitch 411 0 14 #[75, 75, 75, 107, 114, 114, 172, 230, 230, 300, 411, 411, 336, 346, 373], 75) from by decide +kernel) 4 c11 (off := 114) (tgt := 167) (by decide) ?_
    refine x_lv C [2, 3, 4, 0] rfl ?_
    exact b_X11_isLegal_167 r C x1 x2 x3 s0  wx1 wx3 ws0 h
  rw [if_neg c11] at h
  by_cases c12 : (x0 >>> ((12 : Int32) &&& 31)) = 5
  · rw [if_pos c12] at h
    refine x_tin C (show decode cX11_isLegal 53 = .ok (.tableswitch 411 0 14 #[75, 75, 75, 107, 114, 114, 172, 230, 230, 300, 411, 411, 336, 346, 373], 75) from by decide +kernel) 5 c12 (off := 114) (tgt := 167) (by decide) ?_
    refine x_lv C [2, 3, 4, 0] rfl ?_
    exact b_X11_isLegal_167 r C x1 x2 x3 s0  wx1 wx3 ws0 h
  rw [if_neg c12] at h
  by_cases c13 : (x0 >>> ((12 : Int32) &&& 31)) = 6
  · rw [if_pos c13] at h
    refine x_tin C (show decode cX11_isLegal 53 = .ok (.tableswitch 411 0 14 #[75, 75, 75, 107, 114, 114, 172, 230, 230, 300, 411, 411, 336, 346, 373], 75) from by decide +kernel) 6 c13 (off := 172) (tgt := 225) (by decide) ?_
    refine x_run C e_X11_isLegal_6 e_X11_isLegal_6_k (pc' := 227) (lv' := [(6, .int s0), (0, .int x0), (1, .int x1), (2, .int x2), (3, .int x3), (4, .int x4), (5, .int x5)]) (st' := [.int 3, .int x3]) (σ' := (M, L)) rfl ⟨trivial, trivial, trivial⟩ ?_
    refine x_icmp_ne C (show decode cX11_isLegal 227 = .ok (.if_icmp .ne 21, 3) from by decide +kernel) (tgt := 248) (by decide) (fun c14 => ?_) (fun c14 => ?_)
    · rw [if_neg c14] at h
      have g15 : xrg 0 2 x3 := (x_c_neh wx3 (by decide) c14)
      refine x_run C e_X11_isLegal_7 e_X11_isLegal_7_k (pc' := 250) (lv' := [(6, .int s0), (0, .int x0), (1, .int x1), (2, .int x2), (3, .int x3), (4, .int x4), (5, .int x5)]) (st' := [.int s0]) (σ' := (M, L)) rfl ⟨trivial, trivial⟩ ?_
      refine x_if_eq C (show decode cX11_isLegal 250 = .ok (.ifCond .eq 26, 3) from by decide +kernel) (tgt := 276) (by decide) (fun c16 => ?_) (fun c16 => ?_)
      · rw [if_pos c16] at h
        have g17 : xrg 0 0 s0 := (x_c_eq ws0 (x_rgc (x := 0) (k := 0) (by decide)) c16).1
        refine x_run C e_X11_isLegal_8 e_X11_isLegal_8_k (pc' := 279) (lv' := [(6, .int s0), (0, .int x0), (1, .int x1), (2, .int x2), (3, .int x3), (4, .int x4), (5, .int x5)]) (st' := [.int 0, .int x3, .int x1]) (σ' := (M, L)) rfl ⟨trivial, trivial, trivial, trivial⟩ ?_
        refine x_callS C (rest := []) (avs := [.int x1, .int x3, .int 0]) (k_X11_fits l x1 x3 0 M L) yoX11_fits ml_X11_141 rfl ⟨Nat.zero_le _, Nat.zero_le _⟩ (show decode cX11_isLegal 279 = .ok (.invokestatic 141, 3) from by decide +kernel) rfl (fun v σ' hPo => ?_)
        obtain ⟨⟨rfl, rfl⟩, g19, -⟩ := hPo
        show V 0 0 282 [(6, .int s0), (0, .int x0), (1, .int x1), (2, .int x2), (3, .int x3), (4, .int x4), (5, .int x5)] [.int (f_X11_fits x1 x3 0)] LAY (M, L)
        subst h
        exact x_iret C (show decode cX11_isLegal 282 = .ok (.ireturn, 1) from by decide +kernel) (x_finI (x_nb g19) ⟨⟨rfl, rfl⟩, g19, trivial⟩) (Nat.le_refl 0) (Nat.le_refl 0)
      · rw [if_neg c16] at h
        have g21 : xrg 1 1 s0 := (x_c_ne ws0 (by decide) c16)
        refine x_run C e_X11_isLegal_9 e_X11_isLegal_9_k (pc' := 255) (lv' := [(6, .int s0), (0, .int x0), (1, .int x1), (2, .int x2), (3, .int x3), (4, .int x4), (5, .int x5)]) (st' := [.int 1, .int x2]) (σ' := (M, L)) rfl ⟨trivial, trivial, trivial⟩ ?_
        refine x_icmp_eq C (show decode cX11_isLegal 255 = .ok (.if_icmp .eq 13, 3) from by decide +kernel) (tgt := 268) (by decide) (fun c22 => ?_) (fun c22 => ?_)
        · rw [if_pos c22] at h
          have g23 : xrg 1 1 x2 := (x_c_eq (x_rgt x2) (x_rgc (x := 1) (k := 1) (by decide)) c22).1
          refine x_run C e_X11_isLegal_10 e_X11_isLegal_10_k (pc' := 269) (lv' := [(6, .int s0), (0, .int x0), (1, .int x1), (2, .int x2), (3, .int x3), (4, .int x4), (5, .int x5)]) (st' := [.int 1]) (σ' := (M, L)) rfl ⟨trivial, trivial⟩ ?_
          refine x_goto C (show decode cX11_isLegal 269 = .ok (.goto 13, 3) from by decide +kernel) (tgt := 282) (by decide) ?_
          subst h
          exact x_iret C (show decode cX11_isLegal 282 = .ok (.ireturn, 1) from by decide +kernel) (x_finI (x_nb (x_rgw (x_rgc (x := 1) (k := 1) (by decide)) (lo' := 0) (hi' := 1) (by decide) (by decide))) ⟨⟨rfl, rfl⟩, (x_rgw (x_rgc (x := 1) (k := 1) (by decide)) (lo' := 0) (hi' := 1) (by decide) (by decide)), trivial⟩) (Nat.le_refl 0) (Nat.le_refl 0)
        · rw [if_neg c22] at h
          refine x_run C e_X11_isLegal_11 e_X11_isLegal_11_k (pc' := 262) (lv' := [(6, .int s0), (0, .int x0), (1, .int x1), (2, .int x2), (3, .int x3), (4, .int x4), (5, .int x5)]) (st' := [.int 9, .int x3, .int x1]) (σ' := (M, L)) rfl ⟨trivial, trivial, trivial, trivial⟩ ?_
          refine x_callS C (rest := []) (avs := [.int x1, .int x3, .int 9]) (k_X11_fits l x1 x3 9 M L) yoX11_fits ml_X11_141 rfl ⟨Nat.zero_le _, Nat.zero_le _⟩ (show decode cX11_isLegal 262 = .ok (.invokestatic 141, 3) from by decide +kernel) rfl (fun v σ' hPo => ?_)
          obtain ⟨⟨rfl, rfl⟩, g25, -⟩ := hPo
          show V 0 0 265 [(6, .int s0), (0, .int x0), (1, .int x1), (2, .int x2), (3, .int x3), (4, .int x4), (5, .int x5)] [.int (f_X11_fits x1 x3 9)] LAY (M, L)
          refine x_if_eq C (show decode cX11_isLegal 265 = .ok (.ifCond .eq 7, 3) from by decide +kernel) (tgt := 272) (by decide) (fun c27 => ?_) (fun c27 => ?_)
          · rw [if_pos c27] at h
            have g28 : xrg 0 0 (f_X11_fits x1 x3 9) := (x_c_eq g25 (x_rgc (x := 0) (k := 0) (by decide)) c27).1
            refine x_run C e_X11_isLegal_12 e_X11_isLegal_12_k (pc' := 273) (lv' := [(6, .int s0), (0, .int x0), (1, .int x1), (2, .int x2), (3, .int x3), (4, .int x4), (5, .int x5)]) (st' := [.int 0]) (σ' := (M, L)) rfl ⟨trivial, trivial⟩ ?_
            refine x_goto C (show decode cX11_isLegal 273 = .ok (.goto 9, 3) from by decide +kernel) (tgt := 282) (by decide) ?_
            subst h
            exact x_iret C (show decode cX11_isLegal 282 = .ok (.ireturn, 1) from by decide +kernel) (x_finI (x_nb (x_rgw (x_rgc (x := 0) (k := 0) (by decide)) (lo' := 0) (hi' := 1) (by decide) (by decide))) ⟨⟨rfl, rfl⟩, (x_rgw (x_rgc (x := 0) (k := 0) (by decide)) (lo' := 0) (hi' := 1) (by decide) (by decide)), trivial⟩) (Nat.le_refl 0) (Nat.le_refl 0)
          · rw [if_neg c27] at h
            have g29 : xrg 1 1 (f_X11_fits x1 x3 9) := (x_c_ne g25 (by decide) c27)
            refine x_run C e_X11_isLegal_10 e_X11_isLegal_10_k (pc' := 269) (lv' := [(6, .int s0), (0, .int x0), (1, .int x1), (2, .int x2), (3, .int x3), (4, .int x4), (5, .int x5)]) (st' := [.int 1]) (σ' := (M, L)) rfl ⟨trivial, trivial⟩ ?_
            refine x_goto C (show decode cX11_isLegal 269 = .ok (.goto 13, 3) from by decide +kernel) (tgt := 282) (by decide) ?_
            subst h
            exact x_iret C (show decode cX11_isLegal 282 = .ok (.ireturn, 1) from by decide +kernel) (x_finI (x_nb (x_rgw (x_rgc (x := 1) (k := 1) (by decide)) (lo' := 0) (hi' := 1) (by decide) (by decide))) ⟨⟨rfl, rfl⟩, (x_rgw (x_rgc (x := 1) (k := 1) (by decide)) (lo' := 0) (hi' := 1) (by decide) (by decide)), trivial⟩) (Nat.le_refl 0) (Nat.le_refl 0)
    · rw [if_pos c14] at h
      have g30 : xrg 3 3 x3 := (x_c_eq wx3 (x_rgc (x := 3) (k := 3) (by decide)) c14).1
      refine x_run C e_X11_isLegal_13 e_X11_isLegal_13_k (pc' := 233) (lv' := [(6, .int s0), (0, .int x0), (1, .int x1), (2, .int x2), (3, .int x3), (4, .int x4), (5, .int x5)]) (st' := [.int s0, .int x1]) (σ' := (M, L)) rfl ⟨trivial, trivial, trivial⟩ ?_
      refine x_if_eq C (show decode cX11_isLegal 233 = .ok (.ifCond .eq 7, 3) from by decide +kernel) (tgt := 240) (by decide) (fun c31 => ?_) (fun c31 => ?_)
      · rw [if_pos c31] at h
        have g32 : xrg 0 0 s0 := (x_c_eq ws0 (x_rgc (x := 0) (k := 0) (by decide)) c31).1
        refine x_run C e_X11_isLegal_14 e_X11_isLegal_14_k (pc' := 241) (lv' := [(6, .int s0), (0, .int x0), (1, .int x1), (2, .int x2), (3, .int x3), (4, .int x4), (5, .int x5)]) (st' := [.int 1, .int x1]) (σ' := (M, L)) rfl ⟨trivial, trivial⟩ ?_
        refine x_lv C [] rfl ?_
        exact b_X11_isLegal_241 r C 1 x1  (x_rgw (x_rgc (x := 1) (k := 1) (by decide)) (lo' := 1) (hi' := 2) (by decide) (by decide)) wx1 h
      · rw [if_neg c31] at h
        have g33 : xrg 1 1 s0 := (x_c_ne ws0 (by decide) c31)
        refine x_run C e_X11_isLegal_15 e_X11_isLegal_15_k (pc' := 237) (lv' := [(6, .int s0), (0, .int x0), (1, .int x1), (2, .int x2), (3, .int x3), (4, .int x4), (5, .int x5)]) (st' := [.int 2, .int x1]) (σ' := (M, L)) rfl ⟨trivial, trivial⟩ ?_
        refine x_goto C (show decode cX11_isLegal 237 = .ok (.goto 4, 3) from by decide +kernel) (tgt := 241) (by decide) ?_
        refine x_lv C [] rfl ?_
        exact b_X11_isLegal_241 r C 2 x1  (x_rgw (x_rgc (x := 2) (k := 2) (by decide)) (lo' := 1) (hi' := 2) (by decide) (by decide)) wx1 h
  rw [if_neg c13] at h
  by_cases c34 : (x0 >>> ((12 : Int32) &&& 31)) = 7
  · rw [if_pos c34] at h
    refine x_tin C (show decode cX11_isLegal 53 = .ok (.tableswitch 411 0 14 #[75, 75, 75, 107, 114, 114, 172, 230, 230, 300, 411, 411, 336, 346, 373], 75) from by decide +kernel) 7 c34 (off := 230) (tgt := 283) (by decide) ?_
    refine x_lv C [1, 2, 3, 4, 0] rfl ?_
    exact b_X11_isLegal_283 r C x0 x1 x2 x3 s0  wx1 wx3 ws0 h
  rw [if_neg c34] at h
  by_cases c35 : (x0 >>> ((12 : Int32) &&& 31)) = 8
  · rw [if_pos c35] at h
    refine x_tin C (show decode cX11_isLegal 53 = .ok (.tableswitch 411 0 14 #[75, 75, 75, 107, 114, 114, 172, 230, 230, 300, 411, 411, 336, 346, 373], 75) from by decide +kernel) 8 c35 (off := 230) (tgt := 283) (by decide) ?_
    refine x_lv C [1, 2, 3, 4, 0] rfl ?_
    exact b_X11_isLegal_283 r C x0 x1 x2 x3 s0  wx1 wx3 ws0 h
  rw [if_neg c35] at h
  by_cases c36 : (x0 >>> ((12 : Int32) &&& 31)) = 9
  · rw [if_pos c36] at h
    refine x_tin C (show decode cX11_isLegal 53 = .ok (.tableswitch 411 0 14 #[75, 75, 75, 107, 114, 114, 172, 230, 230, 300, 411, 411, 336, 346, 373], 75) from by decide +kernel) 9 c36 (off := 300) (tgt := 353) (by decide) ?_
    refine x_run C e_X11_isLegal_16 e_X11_isLegal_16_k (pc' := 355) (lv' := [(6, .int s0), (0, .int x0), (1, .int x1), (2, .int x2), (3, .int x3), (4, .int x4), (5, .int x5)]) (st' := [.int 3, .int x3]) (σ' := (M, L)) rfl ⟨trivial, trivial, trivial⟩ ?_
    refine x_icmp_ge C (show decode cX11_isLegal 355 = .ok (.if_icmp .ge 13, 3) from by decide +kernel) (tgt := 368) (by decide) (fun c37 => ?_) (fun c37 => ?_)
    · rw [if_pos c37] at h
      have g38 : xrg 3 3 x3 := (x_c_le (x_rgc (x := 3) (k := 3) (by decide)) wx3 c37).2
      refine x_run C e_X11_isLegal_17 e_X11_isLegal_17_k (pc' := 370) (lv' := [(6, .int s0), (0, .int x0), (1, .int x1), (2, .int x2), (3, .int x3), (4, .int x4), (5, .int x5)]) (st' := [.int 1, .int x2]) (σ' := (M, L)) rfl ⟨trivial, trivial, trivial⟩ ?_
      refine x_icmp_eq C (show decode cX11_isLegal 370 = .ok (.if_icmp .eq 13, 3) from by decide +kernel) (tgt := 383) (by decide) (fun c39 => ?_) (fun c39 => ?_)
      · rw [if_pos c39] at h
        have g40 : xrg 1 1 x2 := (x_c_eq (x_rgt x2) (x_rgc (x := 1) (k := 1) (by decide)) c39).1
        refine x_run C e_X11_isLegal_18 e_X11_isLegal_18_k (pc' := 384) (lv' := [(6, .int s0), (0, .int x0), (1, .int x1), (2, .int x2), (3, .int x3), (4, .int x4), (5, .int x5)]) (st' := [.int 1]) (σ' := (M, L)) rfl ⟨trivial, trivial⟩ ?_
        refine x_goto C (show decode cX11_isLegal 384 = .ok (.goto 4, 3) from by decide +kernel) (tgt := 388) (by decide) ?_
        subst h
        exact x_iret C (show decode cX11_isLegal 388 = .ok (.ireturn, 1) from by decide +kernel) (x_finI (x_nb (x_rgw (x_rgc (x := 1) (k := 1) (by decide)) (lo' := 0) (hi' := 1) (by decide) (by decide))) ⟨⟨rfl, rfl⟩, (x_rgw (x_rgc (x := 1) (k := 1) (by decide)) (lo' := 0) (hi' := 1) (by decide) (by decide)), trivial⟩) (Nat.le_refl 0) (Nat.le_refl 0)
      · rw [if_neg c39] at h
        refine x_run C e_X11_isLegal_19 e_X11_isLegal_19_k (pc' := 377) (lv' := [(6, .int s0), (0, .int x0), (1, .int x1), (2, .int x2), (3, .int x3), (4, .int x4), (5, .int x5)]) (st' := [.int 9, .int 0, .int x1]) (σ' := (M, L)) rfl ⟨trivial, trivial, trivial, trivial⟩ ?_
        refine x_callS C (rest := []) (avs := [.int x1, .int 0, .int 9]) (k_X11_fits l x1 0 9 M L) yoX11_fits ml_X11_141 rfl ⟨Nat.zero_le _, Nat.zero_le _⟩ (show decode cX11_isLegal 377 = .ok (.invokestatic 141, 3) from by decide +kernel) rfl (fun v σ' hPo => ?_)
        obtain ⟨⟨rfl, rfl⟩, g42, -⟩ := hPo
        show V 0 0 380 [(6, .int s0), (0, .int x0), (1, .int x1), (2, .int x2), (3, .int x3), (4, .int x4), (5, .int x5)] [.int (f_X11_fits x1 0 9)] LAY (M, L)
        refine x_if_eq C (show decode cX11_isLegal 380 = .ok (.ifCond .eq 7, 3) from by decide +kernel) (tgt := 387) (by decide) (fun c44 => ?_) (fun c44 => ?_)
        · rw [if_pos c44] at h
          have g45 : xrg 0 0 (f_X11_fits x1 0 9) := (x_c_eq g42 (x_rgc (x := 0) (k := 0) (by decide)) c44).1
          refine x_run C e_X11_isLegal_20 e_X11_isLegal_20_k (pc' := 388) (lv' := [(6, .int s0), (0, .int x0), (1, .int x1), (2, .int x2), (3, .int x3), (4, .int x4), (5, .int x5)]) (st' := [.int 0]) (σ' := (M, L)) rfl ⟨trivial, trivial⟩ ?_
          subst h
          exact x_iret C (show decode cX11_isLegal 388 = .ok (.ireturn, 1) from by decide +kernel) (x_finI (x_nb (x_rgw (x_rgc (x := 0) (k := 0) (by decide)) (lo' := 0) (hi' := 1) (by decide) (by decide))) ⟨⟨rfl, rfl⟩, (x_rgw (x_rgc (x := 0) (k := 0) (by decide)) (lo' := 0) (hi' := 1) (by decide) (by decide)), trivial⟩) (Nat.le_refl 0) (Nat.le_refl 0)
        · rw [if_neg c44] at h
          have g46 : xrg 1 1 (f_X11_fits x1 0 9) := (x_c_ne g42 (by decide) c44)
          refine x_run C e_X11_isLegal_18 e_X11_isLegal_18_k (pc' := 384) (lv' := [(6, .int s0), (0, .int x0), (1, .int x1), (2, .int x2), (3, .int x3), (4, .int x4), (5, .int x5)]) (st' := [.int 1]) (σ' := (M, L)) rfl ⟨trivial, trivial⟩ ?_
          refine x_goto C (show decode cX11_isLegal 384 = .ok (.goto 4, 3) from by decide +kernel) (tgt := 388) (by decide) ?_
          subst h
          exact x_iret C (show decode cX11_isLegal 388 = .ok (.ireturn, 1) from by decide +kernel) (x_finI (x_nb (x_rgw (x_rgc (x := 1) (k := 1) (by decide)) (lo' := 0) (hi' := 1) (by decide) (by decide))) ⟨⟨rfl, rfl⟩, (x_rgw (x_rgc (x := 1) (k := 1) (by decide)) (lo' := 0) (hi' := 1) (by decide) (by decide)), trivial⟩) (Nat.le_refl 0) (Nat.le_refl 0)
    · rw [if_neg c37] at h
      have g47 : xrg 0 2 x3 := (x_c_nle (x_rgc (x := 3) (k := 3) (by decide)) wx3 c37).2
      refine x_run C e_X11_isLegal_21 e_X11_isLegal_21_k (pc' := 362) (lv' := [(6, .int s0), (0, .int x0), (1, .int x1), (2, .int x2), (3, .int x3), (4, .int x4), (5, .int x5)]) (st' := [.int 8, .int x3, .int x1]) (σ' := (M, L)) rfl ⟨trivial, trivial, trivial, trivial⟩ ?_
      refine x_callS C (rest := []) (avs := [.int x1, .int x3, .int 8]) (k_X11_fits l x1 x3 8 M L) yoX11_fits ml_X11_141 rfl ⟨Nat.zero_le _, Nat.zero_le _⟩ (show decode cX11_isLegal 362 = .ok (.invokestatic 141, 3) from by decide +kernel) rfl (fun v σ' hPo => ?_)
      obtain ⟨⟨rfl, rfl⟩, g49, -⟩ := hPo
      show V 0 0 365 [(6, .int s0), (0, .int x0), (1, .int x1), (2, .int x2), (3, .int x3), (4, .int x4), (5, .int x5)] [.int (f_X11_fits x1 x3 8)] LAY (M, L)
      refine x_goto C (show decode cX11_isLegal 365 = .ok (.goto 23, 3) from by decide +kernel) (tgt := 388) (by decide) ?_
      subst h
      exact x_iret C (show decode cX11_isLegal 388 = .ok (.ireturn, 1) from by decide +kernel) (x_finI (x_nb g49) ⟨⟨rfl, rfl⟩, g49, trivial⟩) (Nat.le_refl 0) (Nat.le_refl 0)
  rw [if_neg c36] at h
  by_cases c51 : (x0 >>> ((12 : Int32) &&& 31)) = 10
  · rw [if_pos c51] at h
    refine x_tin C (show decode cX11_isLegal 53 = .ok (.tableswitch 411 0 14 #[75, 75, 75, 107, 114, 114, 172, 230, 230, 300, 411, 411, 336, 346, 373], 75) from by decide +kernel) 10 c51 (off := 411) (tgt := 464) (by decide) ?_
    refine x_run C e_X11_isLegal_22 e_X11_isLegal_22_k (pc' := 465) (lv' := [(6, .int s0), (0, .int x0), (1, .int x1), (2, .int x2), (3, .int x3), (4, .int x4), (5, .int x5)]) (st' := [.int 1]) (σ' := (M, L)) rfl ⟨trivial, trivial⟩ ?_
    subst h
    exact x_iret C (show decode cX11_isLegal 465 = .ok (.ireturn, 1) from by decide +kernel) (x_finI (x_nb (x_rgw (x_rgc (x := 1) (k := 1) (by decide)) (lo' := 0) (hi' := 1) (by decide) (by decide))) ⟨⟨rfl, rfl⟩, (x_rgw (x_rgc (x := 1) (k := 1) (by decide)) (lo' := 0) (hi' := 1) (by decide) (by decide)), trivial⟩) (Nat.le_refl 0) (Nat.le_refl 0)
  rw [if_neg c51] at h
  by_cases c52 : (x0 >>> ((12 : Int32) &&& 31)) = 11
  · rw [if_pos c52] at h
    refine x_tin C (show decode cX11_isLegal 53 = .ok (.tableswitch 411 0 14 #[75, 75, 75, 107, 114, 114, 172, 230, 230, 300, 411, 411, 336, 346, 373], 75) from by decide +kernel) 11 c52 (off := 411) (tgt := 464) (by decide) ?_
    refine x_run C e_X11_isLegal_22 e_X11_isLegal_22_k (pc' := 465) (lv' := [(6, .int s0), (0, .int x0), (1, .int x1), (2, .int x2), (3, .int x3), (4, .int x4), (5, .int x5)]) (st' := [.int 1]) (σ' := (M, L)) rfl ⟨trivial, trivial⟩ ?_
    subst h
    exact x_iret C (show decode cX11_isLegal 465 = .ok (.ireturn, 1) from by decide +kernel) (x_finI (x_nb (x_rgw (x_rgc (x := 1) (k := 1) (by decide)) (lo' := 0) (hi' := 1) (by decide) (by decide))) ⟨⟨rfl, rfl⟩, (x_rgw (x_rgc (x := 1) (k := 1) (by decide)) (lo' := 0) (hi' := 1) (by decide) (by decide)), trivial⟩) (Nat.le_refl 0) (Nat.le_refl 0)
  rw [if_neg c52] at h
  by_cases c53 : (x0 >>> ((12 : Int32) &&& 31)) = 12
  · rw [if_pos c53] at h
    refine x_tin C (show decode cX11_isLegal 53 = .ok (.tableswitch 411 0 14 #[75, 75, 75, 107, 114, 114, 172, 230, 230, 300, 411, 411, 336, 346, 373], 75) from by decide +kernel) 12 c53 (off := 336) (tgt := 389) (by decide) ?_
    refine x_run C e_X11_isLegal_23 e_X11_isLegal_23_k (pc' := 395) (lv' := [(6, .int s0), (0, .int x0), (1, .int x1), (2, .int x2), (3, .int x3), (4, .int x4), (5, .int x5)]) (st' := [.int s0, .int x5, .int x3, .int x1]) (σ' := (M, L)) rfl ⟨trivial, trivial, trivial, trivial, trivial⟩ ?_
    refine x_callS C (rest := []) (avs := [.int x1, .int x3, .int x5, .int s0]) (k_X11_isLegalTwelve l x1 x3 x5 s0 M L) yoX11_isLegalTwelve ml_X11_149 rfl ⟨Nat.zero_le _, Nat.zero_le _⟩ (show decode cX11_isLegal 395 = .ok (.invokestatic 149, 3) from by decide +kernel) rfl (fun v σ' hPo => ?_)
    obtain ⟨⟨rfl, rfl⟩, g55, -⟩ := hPo
    show V 0 0 398 [(6, .int s0), (0, .int x0), (1, .int x1), (2, .int x2), (3, .int x3), (4, .int x4), (5, .int x5)] [.int (f_X11_isLegalTwelve x1 x3 x5 s0)] LAY (M, L)
    subst h
    exact x_iret C (show decode cX11_isLegal 398 = .ok (.ireturn, 1) from by decide +kernel) (x_finI (x_nb g55) ⟨⟨rfl, rfl⟩, g55, trivial⟩) (Nat.le_refl 0) (Nat.le_refl 0)
  rw [if_neg c53] at h
  by_cases c57 : (x0 >>> ((12 : Int32) &&& 31)) = 13
  · rw [if_pos c57] at h
    refine x_tin C (show decode cX11_isLegal 53 = .ok (.tableswitch 411 0 14 #[75, 75, 75, 107, 114, 114, 172, 230, 230, 300, 411, 411, 336, 346, 373], 75) from by decide +kernel) 13 c57 (off := 346) (tgt := 399) (by decide) ?_
    refine x_run C e_X11_isLegal_24 e_X11_isLegal_24_k (pc' := 401) (lv' := [(6, .int s0), (0, .int x0), (1, .int x1), (2, .int x2), (3, .int x3), (4, .int x4), (5, .int x5)]) (st' := [.int 3, .int x3]) (σ' := (M, L)) rfl ⟨trivial, trivial, trivial⟩ ?_
    refine x_icmp_lt C (show decode cX11_isLegal 401 = .ok (.if_icmp .lt 19, 3) from by decide +kernel) (tgt := 420) (by decide) (fun c58 => ?_) (fun c58 => ?_)
    · rw [if_pos c58] at h
      have g59 : xrg 0 2 x3 := (x_c_lt wx3 (x_rgc (x := 3) (k := 3) (by decide)) c58).1
      refine x_run C e_X11_isLegal_25 e_X11_isLegal_25_k (pc' := 421) (lv' := [(6, .int s0), (0, .int x0), (1, .int x1), (2, .int x2), (3, .int x3), (4, .int x4), (5, .int x5)]) (st' := [.int 1]) (σ' := (M, L)) rfl ⟨trivial, trivial⟩ ?_
      refine x_goto C (show decode cX11_isLegal 421 = .ok (.goto 4, 3) from by decide +kernel) (tgt := 425) (by decide) ?_
      subst h
      exact x_iret C (show decode cX11_isLegal 425 = .ok (.ireturn, 1) from by decide +kernel) (x_finI (x_nb (x_rgw (x_rgc (x := 1) (k := 1) (by decide)) (lo' := 0) (hi' := 1) (by decide) (by decide))) ⟨⟨rfl, rfl⟩, (x_rgw (x_rgc (x := 1) (k := 1) (by decide)) (lo' := 0) (hi' := 1) (by decide) (by decide)), trivial⟩) (Nat.le_refl 0) (Nat.le_refl 0)
    · rw [if_neg c58] at h
      have g60 : xrg 3 3 x3 := (x_c_nlt wx3 (x_rgc (x := 3) (k := 3) (by decide)) c58).1
      refine x_run C e_X11_isLegal_26 e_X11_isLegal_26_k (pc' := 407) (lv' := [(6, .int s0), (0, .int x0), (1, .int x1), (2, .int x2), (3, .int x3), (4, .int x4), (5, .int x5)]) (st' := [.int 4, .int x5]) (σ' := (M, L)) rfl ⟨trivial, trivial, trivial⟩ ?_
      refine x_icmp_ge C (show decode cX11_isLegal 407 = .ok (.if_icmp .ge 17, 3) from by decide +kernel) (tgt := 424) (by decide) (fun c61 => ?_) (fun c61 => ?_)
      · rw [if_pos c61] at h
        have g62 : xrg 4 7 x5 := (x_c_le (x_rgc (x := 4) (k := 4) (by decide)) wx5 c61).2
        refine x_run C e_X11_isLegal_27 e_X11_isLegal_27_k (pc' := 425) (lv' := [(6, .int s0), (0, .int x0), (1, .int x1), (2, .int x2), (3, .int x3), (4, .int x4), (5, .int x5)]) (st' := [.int 0]) (σ' := (M, L)) rfl ⟨trivial, trivial⟩ ?_
        subst h
        exact x_iret C (show decode cX11_isLegal 425 = .ok (.ireturn, 1) from by decide +kernel) (x_finI (x_nb (x_rgw (x_rgc (x := 0) (k := 0) (by decide)) (lo' := 0) (hi' := 1) (by decide) (by decide))) ⟨⟨rfl, rfl⟩, (x_rgw (x_rgc (x := 0) (k := 0) (by decide)) (lo' := 0) (hi' := 1) (by decide) (by decide)), trivial⟩) (Nat.le_refl 0) (Nat.le_refl 0)
      · rw [if_neg c61] at h
        have g63 : xrg 0 3 x5 := (x_c_nle (x_rgc (x := 4) (k := 4) (by decide)) wx5 c61).2
        refine x_run C e_X11_isLegal_28 e_X11_isLegal_28_k (pc' := 414) (lv' := [(6, .int s0), (0, .int x0), (1, .int x1), (2, .int x2), (3, .int x3), (4, .int x4), (5, .int x5)]) (st' := [.int 10, .int 1, .int x1]) (σ' := (M, L)) rfl ⟨trivial, trivial, trivial, trivial⟩ ?_
        refine x_callS C (rest := []) (avs := [.int x1, .int 1, .int 10]) (k_X11_fits l x1 1 10 M L) yoX11_fits ml_X11_141 rfl ⟨Nat.zero_le _, Nat.zero_le _⟩ (show decode cX11_isLegal 414 = .ok (.invokestatic 141, 3) from by decide +kernel) rfl (fun v σ' hPo => ?_)
        obtain ⟨⟨rfl, rfl⟩, g65, -⟩ := hPo
        show V 0 0 417 [(6, .int s0), (0, .int x0), (1, .int x1), (2, .int x2), (3, .int x3), (4, .int x4), (5, .int x5)] [.int (f_X11_fits x1 1 10)] LAY (M, L)
        refine x_if_eq C (show decode cX11_isLegal 417 = .ok (.ifCond .eq 7, 3) from by decide +kernel) (tgt := 424) (by decide) (fun c67 => ?_) (fun c67 => ?_)
        · rw [if_pos c67] at h
          have g68 : xrg 0 0 (f_X11_fits x1 1 10) := (x_c_eq g65 (x_rgc (x := 0) (k := 0) (by decide)) c67).1
          refine x_run C e_X11_isLegal_27 e_X11_isLegal_27_k (pc' := 425) (lv' := [(6, .int s0), (0, .int x0), (1, .int x1), (2, .int x2), (3, .int x3), (4, .int x4), (5, .int x5)]) (st' := [.int 0]) (σ' := (M, L)) rfl ⟨trivial, trivial⟩ ?_
          subst h
          exact x_iret C (show decode cX11_isLegal 425 = .ok (.ireturn, 1) from by decide +kernel) (x_finI (x_nb (x_rgw (x_rgc (x := 0) (k := 0) (by decide)) (lo' := 0) (hi' := 1) (by decide) (by decide))) ⟨⟨rfl, rfl⟩, (x_rgw (x_rgc (x := 0) (k := 0) (by decide)) (lo' := 0) (hi' := 1) (by decide) (by decide)), trivial⟩) (Nat.le_refl 0) (Nat.le_refl 0)
        · rw [if_neg c67] at h
          have g69 : xrg 1 1 (f_X11_fits x1 1 10) := (x_c_ne g65 (by decide) c67)
          refine x_run C e_X11_isLegal_25 e_X11_isLegal_25_k (pc' := 421) (lv' := [(6, .int s0), (0, .int x0), (1, .int x1), (2, .int x2), (3, .int x3), (4, .int x4), (5, .int x5)]) (st' := [.int 1]) (σ' := (M, L)) rfl ⟨trivial, trivial⟩ ?_
          refine x_goto C (show decode cX11_isLegal 421 = .ok (.goto 4, 3) from by decide +kernel) (tgt := 425) (by decide) ?_
          subst h
          exact x_iret C (show decode cX11_isLegal 425 = .ok (.ireturn, 1) from by decide +kernel) (x_finI (x_nb (x_rgw (x_rgc (x := 1) (k := 1) (by decide)) (lo' := 0) (hi' := 1) (by decide) (by decide))) ⟨⟨rfl, rfl⟩, (x_rgw (x_rgc (x := 1) (k := 1) (by decide)) (lo' := 0) (hi' := 1) (by decide) (by decide)), trivial⟩) (Nat.le_refl 0) (Nat.le_refl 0)
  rw [if_neg c57] at h
  by_cases c70 : (x0 >>> ((12 : Int32) &&& 31)) = 14
  · rw [if_pos c70] at h
    refine x_tin C (show decode cX11_isLegal 53 = .ok (.tableswitch 411 0 14 #[75, 75, 75, 107, 114, 114, 172, 230, 230, 300, 411, 411, 336, 346, 373], 75) from by decide +kernel) 14 c70 (off := 373) (tgt := 426) (by decide) ?_
    refine x_run C e_X11_isLegal_29 e_X11_isLegal_29_k (pc' := 428) (lv' := [(6, .int s0), (0, .int x0), (1, .int x1), (2, .int x2), (3, .int x3), (4, .int x4), (5, .int x5)]) (st' := [.int s0]) (σ' := (M, L)) rfl ⟨trivial, trivial⟩ ?_
    refine x_if_eq C (show decode cX11_isLegal 428 = .ok (.ifCond .eq 30, 3) from by decide +kernel) (tgt := 458) (by decide) (fun c71 => ?_) (fun c71 => ?_)
    · rw [if_pos c71] at h
      have g72 : xrg 0 0 s0 := (x_c_eq ws0 (x_rgc (x := 0) (k := 0) (by decide)) c71).1
      refine x_run C e_X11_isLegal_30 e_X11_isLegal_30_k (pc' := 459) (lv' := [(6, .int s0), (0, .int x0), (1, .int x1), (2, .int x2), (3, .int x3), (4, .int x4), (5, .int x5)]) (st' := [.int 1]) (σ' := (M, L)) rfl ⟨trivial, trivial⟩ ?_
      refine x_goto C (show decode cX11_isLegal 459 = .ok (.goto 4, 3) from by decide +kernel) (tgt := 463) (by decide) ?_
      subst h
      exact x_iret C (show decode cX11_isLegal 463 = .ok (.ireturn, 1) from by decide +kernel) (x_finI (x_nb (x_rgw (x_rgc (x := 1) (k := 1) (by decide)) (lo' := 0) (hi' := 1) (by decide) (by decide))) ⟨⟨rfl, rfl⟩, (x_rgw (x_rgc (x := 1) (k := 1) (by decide)) (lo' := 0) (hi' := 1) (by decide) (by decide)), trivial⟩) (Nat.le_refl 0) (Nat.le_refl 0)
    · rw [if_neg c71] at h
      have g73 : xrg 1 1 s0 := (x_c_ne ws0 (by decide) c71)
      refine x_run C e_X11_isLegal_31 e_X11_isLegal_31_k (pc' := 432) (lv' := [(6, .int s0), (0, .int x0), (1, .int x1), (2, .int x2), (3, .int x3), (4, .int x4), (5, .int x5)]) (st' := [.int x3]) (σ' := (M, L)) rfl ⟨trivial, trivial⟩ ?_
      refine x_if_ne C (show decode cX11_isLegal 432 = .ok (.ifCond .ne 12, 3) from by decide +kernel) (tgt := 444) (by decide) (fun c74 => ?_) (fun c74 => ?_)
      · rw [if_neg c74] at h
        have g75 : xrg 1 3 x3 := (x_c_ne wx3 (by decide) c74)
        refine x_lv C [2, 4] rfl ?_
        exact b_X11_isLegal_444 r C x1 x3  wx1 (x_rgw g75 (lo' := 0) (hi' := 3) (by decide) (by decide)) h
      · rw [if_pos c74] at h
        have g76 : xrg 0 0 x3 := (x_c_eq wx3 (x_rgc (x := 0) (k := 0) (by decide)) c74).1
        refine x_run C e_X11_isLegal_32 e_X11_isLegal_32_k (pc' := 438) (lv' := [(6, .int s0), (0, .int x0), (1, .int x1), (2, .int x2), (3, .int x3), (4, .int x4), (5, .int x5)]) (st' := [.int 4, .int 2, .int x1]) (σ' := (M, L)) rfl ⟨trivial, trivial, trivial, trivial⟩ ?_
        refine x_callS C (rest := []) (avs := [.int x1, .int 2, .int 4]) (k_X11_fits l x1 2 4 M L) yoX11_fits ml_X11_141 rfl ⟨Nat.zero_le _, Nat.zero_le _⟩ (show decode cX11_isLegal 438 = .ok (.invokestatic 141, 3) from by decide +kernel) rfl (fun v σ' hPo => ?_)
        obtain ⟨⟨rfl, rfl⟩, g78, -⟩ := hPo
        show V 0 0 441 [(6, .int s0), (0, .int x0), (1, .int x1), (2, .int x2), (3, .int x3), (4, .int x4), (5, .int x5)] [.int (f_X11_fits x1 2 4)] LAY (M, L)
        refine x_if_ne C (show decode cX11_isLegal 441 = .ok (.ifCond .ne 17, 3) from by decide +kernel) (tgt := 458) (by decide) (fun c80 => ?_) (fun c80 => ?_)
        · rw [if_neg c80] at h
          have g81 : xrg 1 1 (f_X11_fits x1 2 4) := (x_c_ne g78 (by decide) c80)
          refine x_run C e_X11_isLegal_30 e_X11_isLegal_30_k (pc' := 459) (lv' := [(6, .int s0), (0, .int x0), (1, .int x1), (2, .int x2), (3, .int x3), (4, .int x4), (5, .int x5)]) (st' := [.int 1]) (σ' := (M, L)) rfl ⟨trivial, trivial⟩ ?_
          refine x_goto C (show decode cX11_isLegal 459 = .ok (.goto 4, 3) from by decide +kernel) (tgt := 463) (by decide) ?_
          subst h
          exact x_iret C (show decode cX11_isLegal 463 = .ok (.ireturn, 1) from by decide +kernel) (x_finI (x_nb (x_rgw (x_rgc (x := 1) (k := 1) (by decide)) (lo' := 0) (hi' := 1) (by decide) (by decide))) ⟨⟨rfl, rfl⟩, (x_rgw (x_rgc (x := 1) (k := 1) (by decide)) (lo' := 0) (hi' := 1) (by decide) (by decide)), trivial⟩) (Nat.le_refl 0) (Nat.le_refl 0)
        · rw [if_pos c80] at h
          have g82 : xrg 0 0 (f_X11_fits x1 2 4) := (x_c_eq g78 (x_rgc (x := 0) (k := 0) (by decide)) c80).1
          refine x_lv C [2, 4] rfl ?_
          exact b_X11_isLegal_444 r C x1 x3  wx1 (x_rgw g76 (lo' := 0) (hi' := 3) (by decide) (by decide)) h
  rw [if_neg c70] at h
  have hz : (x0 >>> ((12 : Int32) &&& 31)).toInt < 0 ∨ 14 < (x0 >>> ((12 : Int32) &&& 31)).toInt := by
    have zc4 := lv_neT (a := 0) c4 (by decide)
    have zc5 := lv_neT (a := 1) c5 (by decide)
    have zc6 := lv_neT (a := 2) c6 (by decide)
    have zc7 := lv_neT (a := 3) c7 (by decide)
    have zc11 := lv_neT (a := 4) c11 (by decide)
    have zc12 := lv_neT (a := 5) c12 (by decide)
    have zc13 := lv_neT (a := 6) c13 (by decide)
    have zc34 := lv_neT (a := 7) c34 (by decide)
    have zc35 := lv_neT (a := 8) c35 (by decide)
    have zc36 := lv_neT (a := 9) c36 (by decide)
    have zc51 := lv_neT (a := 10) c51 (by decide)
    have zc52 := lv_neT (a := 11) c52 (by decide)
    have zc53 := lv_neT (a := 12) c53 (by decide)
    have zc57 := lv_neT (a := 13) c57 (by decide)
    have zc70 := lv_neT (a := 14) c70 (by decide)
    omega
  refine x_tout C (show decode cX11_isLegal 53 = .ok (.tableswitch 411 0 14 #[75, 75, 75, 107, 114, 114, 172, 230, 230, 300, 411, 411, 336, 346, 373], 75) from by decide +kernel) hz (tgt := 464) (by decide) ?_
  refine x_run C e_X11_isLegal_22 e_X11_isLegal_22_k (pc' := 465) (lv' := [(6, .int s0), (0, .int x0), (1, .int x1), (2, .int x2), (3, .int x3), (4, .int x4), (5, .int x5)]) (st' := [.int 1]) (σ' := (M, L)) rfl ⟨trivial, trivial⟩ ?_
  subst h
  exact x_iret C (show decode cX11_isLegal 465 = .ok (.ireturn, 1) from by decide +kernel) (x_finI (x_nb (x_rgw (x_rgc (x := 1) (k := 1) (by decide)) (lo' := 0) (hi' := 1) (by decide) (by decide))) ⟨⟨rfl, rfl⟩, (x_rgw (x_rgc (x := 1) (k := 1) (by decide)) (lo' := 0) (hi' := 1) (by decide) (by decide)), trivial⟩) (Nat.le_refl 0) (Nat.le_refl 0)
set_option maxRecDepth 20000 in
set_option maxHeartbeats 4000000 in
theorem k_X11_isLegal (l : Launch) (a1 : Int32) (M : St) (L : Nat → Nat → Int64) : XM l yX11_isLegal cX11_isLegal 7 (some .boolean) R_X11_isLegal LAY [.int a1] (M, L) (P_X11_isLegal (f_X11_isLegal a1) M L) := by
  refine XM.of (by decide) (Nat.le_of_ble_eq_true rfl) LAY_in cl_ok fl_X11_ok kc_X11_ok (fun V C => ?_)
  obtain ⟨r, h⟩ : ∃ r, f_X11_isLegal a1 = r := ⟨_, rfl⟩
  rw [h] at C
  change C_X11_isLegal l r M L V at C
  unfold f_X11_isLegal at h
  show V 0 0 0 [(0, .int a1)] [] LAY (M, L)
  refine x_run C e_X11_isLegal_1 e_X11_isLegal_1_k (pc' := 39) (lv' := [(5, .int ((a1 >>> ((9 : Int32) &&& 31)) &&& 7)), (4, .int ((a1 >>> ((6 : Int32) &&& 31)) &&& 63)), (3, .int ((a1 >>> ((6 : Int32) &&& 31)) &&& 3)), (2, .int ((a1 &&& 63) >>> ((3 : Int32) &&& 31))), (1, .int (a1 &&& 63)), (0, .int a1)]) (st' := [.int (a1 &&& 256)]) (σ' := (M, L)) rfl ⟨trivial, trivial, trivial, trivial, trivial, trivial, trivial, trivial, trivial, trivial, trivial, trivial, trivial, trivial, trivial, trivial, trivial, trivial, trivial, trivial, trivial, trivial, trivial, trivial, trivial, trivial, trivial, trivial, trivial, trivial⟩ ?_
  refine x_if_eq C (show decode cX11_isLegal 39 = .ok (.ifCond .eq 7, 3) from by decide +kernel) (tgt := 46) (by decide) (fun c1 => ?_) (fun c1 => ?_)
  · rw [if_pos c1] at h
    have g2 : xrg 0 0 (a1 &&& 256) := (x_c_eq (x_rg_and (x := a1) (m := 256) (k := 256) (by decide) (by decide)) (x_rgc (x := 0) (k := 0) (by decide)) c1).1
    refine x_run C e_X11_isLegal_2 e_X11_isLegal_2_k (pc' := 47) (lv' := [(5, .int ((a1 >>> ((9 : Int32) &&& 31)) &&& 7)), (4, .int ((a1 >>> ((6 : Int32) &&& 31)) &&& 63)), (3, .int ((a1 >>> ((6 : Int32) &&& 31)) &&& 3)), (2, .int ((a1 &&& 63) >>> ((3 : Int32) &&& 31))), (1, .int (a1 &&& 63)), (0, .int a1)]) (st' := [.int 0]) (σ' := (M, L)) rfl ⟨trivial, trivial⟩ ?_
    refine x_lv C [5, 4, 3, 2, 1, 0] rfl ?_
    exact b_X11_isLegal_47 r C a1 (a1 &&& 63) ((a1 &&& 63) >>> ((3 : Int32) &&& 31)) ((a1 >>> ((6 : Int32) &&& 31)) &&& 3) ((a1 >>> ((6 : Int32) &&& 31)) &&& 63) ((a1 >>> ((9 : Int32) &&& 31)) &&& 7) 0  (x_rg_and (x := a1) (m := 63) (k := 63) (by decide) (by decide)) (x_rg_and (x := (a1 >>> ((6 : Int32) &&& 31))) (m := 3) (k := 3) (by decide) (by decide)) (x_rg_and (x := (a1 >>> ((6 : Int32) &&& 31))) (m := 63) (k := 63) (by decide) (by decide)) (x_rg_and (x := (a1 >>> ((9 : Int32) &&& 31))) (m := 7) (k := 7) (by decide) (by decide)) (x_rgw (x_rgc (x := 0) (k := 0) (by decide)) (lo' := 0) (hi' := 1) (by decide) (by decide)) h
  · rw [if_neg c1] at h
    have g3 : xrg 1 256 (a1 &&& 256) := (x_c_ne (x_rg_and (x := a1) (m := 256) (k := 256) (by decide) (by decide)) (by decide) c1)
    refine x_run C e_X11_isLegal_3 e_X11_isLegal_3_k (pc' := 43) (lv' := [(5, .int ((a1 >>> ((9 : Int32) &&& 31)) &&& 7)), (4, .int ((a1 >>> ((6 : Int32) &&& 31)) &&& 63)), (3, .int ((a1 >>> ((6 : Int32) &&& 31)) &&& 3)), (2, .int ((a1 &&& 63) >>> ((3 : Int32) &&& 31))), (1, .int (a1 &&& 63)), (0, .int a1)]) (st' := [.int 1]) (σ' := (M, L)) rfl ⟨trivial, trivial⟩ ?_
    refine x_goto C (show decode cX11_isLegal 43 = .ok (.goto 4, 3) from by decide +kernel) (tgt := 47) (by decide) ?_
    refine x_lv C [5, 4, 3, 2, 1, 0] rfl ?_
    exact b_X11_isLegal_47 r C a1 (a1 &&& 63) ((a1 &&& 63) >>> ((3 : Int32) &&& 31)) ((a1 >>> ((6 : Int32) &&& 31)) &&& 3) ((a1 >>> ((6 : Int32) &&& 31)) &&& 63) ((a1 >>> ((9 : Int32) &&& 31)) &&& 7) 1  (x_rg_and (x := a1) (m := 63) (k := 63) (by decide) (by decide)) (x_rg_and (x := (a1 >>> ((6 : Int32) &&& 31))) (m := 3) (k := 3) (by decide) (by decide)) (x_rg_and (x := (a1 >>> ((6 : Int32) &&& 31))) (m := 63) (k := 63) (by decide) (by decide)) (x_rg_and (x := (a1 >>> ((9 : Int32) &&& 31))) (m := 7) (k := 7) (by decide) (by decide)) (x_rgw (x_rgc (x := 1) (k := 1) (by decide)) (lo' := 0) (hi' := 1) (by decide) (by decide)) h
-- X11_isPrivileged
def e_X11_isPrivileged_1 : List xI := [(0, .iload_n 0, 1, .null), (1, .bipush 63, 2, .int 63), (3, .iand, 1, .null), (4, .istore_n 1, 1, .null), (5, .iload_n 0, 1, .null), (6, .bipush 6, 2, .int 6), (8, .ishr, 1, .null), (9, .bipush 63, 2, .int 63), (11, .iand, 1, .null), (12, .istore_n 2, 1, .null), (13, .iload_n 0, 1, .null), (14, .bipush 12, 2, .int 12), (16, .ishr, 1, .null), (17, .iconst 3, 1, .int 3)]
theorem e_X11_isPrivileged_1_k : e_X11_isPrivileged_1.all (fun q => xokB cX11_isPrivileged q && xokL q) = true := by decide +kernel
def e_X11_isPrivileged_2 : List xI := [(63, .iload_n 0, 1, .null), (64, .bipush 12, 2, .int 12), (66, .ishr, 1, .null), (67, .bipush 12, 2, .int 12)]
theorem e_X11_isPrivileged_2_k : e_X11_isPrivileged_2.all (fun q => xokB cX11_isPrivileged q && xokL q) = true := by decide +kernel
def e_X11_isPrivileged_3 : List xI := [(108, .iconst 0, 1, .int 0)]
theorem e_X11_isPrivileged_3_k : e_X11_isPrivileged_3.all (fun q => xokB cX11_isPrivileged q && xokL q) = true := by decide +kernel
def e_X11_isPrivileged_4 : List xI := [(72, .iload_n 0, 1, .null), (73, .sipush 256, 3, .int 256), (76, .iand, 1, .null)]
theorem e_X11_isPrivileged_4_k : e_X11_isPrivileged_4.all (fun q => xokB cX11_isPrivileged q && xokL q) = true := by decide +kernel
def e_X11_isPrivileged_5 : List xI := [(80, .iload_n 1, 1, .null), (81, .iload_n 0, 1, .null), (82, .bipush 9, 2, .int 9), (84, .ishr, 1, .null), (85, .bipush 7, 2, .int 7), (87, .iand, 1, .null)]
theorem e_X11_isPrivileged_5_k : e_X11_isPrivileged_5.all (fun q => xokB cX11_isPrivileged q && xokL q) = true := by decide +kernel
def e_X11_isPrivileged_6 : List xI := [(94, .iload_n 0, 1, .null), (95, .bipush 6, 2, .int 6), (97, .ishr, 1, .null), (98, .iconst 3, 1, .int 3), (99, .iand, 1, .null), (100, .iconst 1, 1, .int 1)]
theorem e_X11_isPrivileged_6_k : e_X11_isPrivileged_6.all (fun q => xokB cX11_isPrivileged q && xokL q) = true := by decide +kernel
def e_X11_isPrivileged_7 : List xI := [(104, .iconst 1, 1, .int 1)]
theorem e_X11_isPrivileged_7_k : e_X11_isPrivileged_7.all (fun q => xokB cX11_isPrivileged q && xokL q) = true := by decide +kernel
def e_X11_isPrivileged_8 : List xI := [(21, .iload_n 2, 1, .null), (22, .bipush 11, 2, .int 11)]
theorem e_X11_isPrivileged_8_k : e_X11_isPrivileged_8.all (fun q => xokB cX11_isPrivileged q && xokL q) = true := by decide +kernel
def e_X11_isPrivileged_9 : List xI := [(57, .iconst 1, 1, .int 1)]
theorem e_X11_isPrivileged_9_k : e_X11_isPrivileged_9.all (fun q => xokB cX11_isPrivileged q && xokL q) = true := by decide +kernel
def e_X11_isPrivileged_10 : List xI := [(27, .iload_n 2, 1, .null), (28, .bipush 28, 2, .int 28)]
theorem e_X11_isPrivileged_10_k : e_X11_isPrivileged_10.all (fun q => xokB cX11_isPrivileged q && xokL q) = true := by decide +kernel
def e_X11_isPrivileged_11 : List xI := [(61, .iconst 0, 1, .int 0)]
theorem e_X11_isPrivileged_11_k : e_X11_isPrivileged_11.all (fun q => xokB cX11_isPrivileged q && xokL q) = true := by decide +kernel
def e_X11_isPrivileged_12 : List xI := [(33, .iload_n 1, 1, .null), (34, .bipush 32, 2, .int 32)]
theorem e_X11_isPrivileged_12_k : e_X11_isPrivileged_12.all (fun q => xokB cX11_isPrivileged q && xokL q) = true := by decide +kernel
def e_X11_isPrivileged_13 : List xI := [(39, .iload_n 1, 1, .null), (40, .bipush 49, 2, .int 49)]
theorem e_X11_isPrivileged_13_k : e_X11_isPrivileged_13.all (fun q => xokB cX11_isPrivileged q && xokL q) = true := by decide +kernel
def e_X11_isPrivileged_14 : List xI := [(45, .iload_n 1, 1, .null), (46, .bipush 50, 2, .int 50)]
theorem e_X11_isPrivileged_14_k : e_X11_isPrivileged_14.all (fun q => xokB cX11_isPrivileged q && xokL q) = true := by decide +kernel
def e_X11_isPrivileged_15 : List xI := [(51, .iload_n 1, 1, .null), (52, .bipush 51, 2, .int 51)]
theorem e_X11_isPrivileged_15_k : e_X11_isPrivileged_15.all (fun q => xokB cX11_isPrivileged q && xokL q) = true := by decide +kernel
abbrev P_X11_isPrivileged (r : Int32) (M0 : St) (L : Nat → Nat → Int64) : Option Value → xG → Prop := fun v σ' => PoI r M0 L v σ' ∧ xrg 0 1 r ∧ True
abbrev R_X11_isPrivileged : Room := { frames := 1, cells := 0, slots := 0, locals := 21 }
abbrev C_X11_isPrivileged (l : Launch) (r : Int32) (M0 : St) (L : Nat → Nat → Int64) (V : XJ) : Prop := XC l yX11_isPrivileged.cls yX11_isPrivileged.name cX11_isPrivileged 3 R_X11_isPrivileged 0 0 fl_X11 kc_X11 LAY.length (xfin (some .boolean) LAY (P_X11_isPrivileged r M0 L)) V
def f_X11_isPrivileged_45 (x1 : Int32) : Int32 := (if x1 = 50 then 1 else (if x1 = 51 then 1 else 0))
def f_X11_isPrivileged (a1 : Int32) : Int32 := (if (a1 >>> ((12 : Int32) &&& 31)) = 3 then (if ((a1 >>> ((6 : Int32) &&& 31)) &&& 63) = 11 then 1 else (if ((a1 >>> ((6 : Int32) &&& 31)) &&& 63) = 28 then (if (a1 &&& 63) < 32 then f_X11_isPrivileged_45 (a1 &&& 63) else (if (a1 &&& 63) < 49 then 1 else f_X11_isPrivileged_45 (a1 &&& 63))) else 0)) else (if (a1 >>> ((12 : Int32) &&& 31)) = 12 then (if (a1 &&& 256) = 0 then (if (f_X11_isStatus (a1 &&& 63) ((a1 >>> ((9 : Int32) &&& 31)) &&& 7)) = 0 then 0 else (if ((a1 >>> ((6 : Int32) &&& 31)) &&& 3) = 1 then 1 else 0)) else 0) else 0))
set_option maxRecDepth 20000 in
set_option maxHeartbeats 4000000 in
theorem b_X11_isPrivileged_45 {l : Launch} {L : Nat → Nat → Int64} {V : XJ} (r : Int32) {M : St} (C : C_X11_isPrivileged l r M L V) (x1 : Int32) (wx1 : xrg 0 63 x1) (h : f_X11_isPrivileged_45 x1 = r) : V 0 0 45 [(1, .int x1)] [] LAY (M, L) := by
  unfold f_X11_isPrivileged_45 at h
  refine x_run C e_X11_isPrivileged_14 e_X11_isPrivileged_14_k (pc' := 48) (lv' := [(1, .int x1)]) (st' := [.int 50, .int x1]) (σ' := (M, L)) rfl ⟨trivial, trivial, trivial⟩ ?_
  refine x_icmp_eq C (show decode cX11_isPrivileged 48 = .ok (.if_icmp .eq 9, 3) from by decide +kernel) (tgt := 57) (by decide) (fun c26 => ?_) (fun c26 => ?_)
  · rw [if_pos c26] at h
    have g27 : xrg 50 50 x1 := (x_c_eq wx1 (x_rgc (x := 50) (k := 50) (by decide)) c26).1
    refine x_run C e_X11_isPrivileged_9 e_X11_isPrivileged_9_k (pc' := 58) (lv' := [(1, .int x1)]) (st' := [.int 1]) (σ' := (M, L)) rfl ⟨trivial, trivial⟩ ?_
    refine x_goto C (show decode cX11_isPrivileged 58 = .ok (.goto 4, 3) from by decide +kernel) (tgt := 62) (by decide) ?_
    subst h
    exact x_iret C (show decode cX11_isPrivileged 62 = .ok (.ireturn, 1) from by decide +kernel) (x_finI (x_nb (x_rgw (x_rgc (x := 1) (k := 1) (by decide)) (lo' := 0) (hi' := 1) (by decide) (by decide))) ⟨⟨rfl, rfl⟩, (x_rgw (x_rgc (x := 1) (k := 1) (by decide)) (lo' := 0) (hi' := 1) (by decide) (by decide)), trivial⟩) (Nat.le_refl 0) (Nat.le_refl 0)
  · rw [if_neg c26] at h
    refine x_run C e_X11_isPrivileged_15 e_X11_isPrivileged_15_k (pc' := 54) (lv' := [(1, .int x1)]) (st' := [.int 51, .int x1]) (σ' := (M, L)) rfl ⟨trivial, trivial, trivial⟩ ?_
    refine x_icmp_ne C (show decode cX11_isPrivileged 54 = .ok (.if_icmp .ne 7, 3) from by decide +kernel) (tgt := 61) (by decide) (fun c28 => ?_) (fun c28 => ?_)
    · rw [if_neg c28] at h
      refine x_run C e_X11_isPrivileged_11 e_X11_isPrivileged_11_k (pc' := 62) (lv' := [(1, .int x1)]) (st' := [.int 0]) (σ' := (M, L)) rfl ⟨trivial, trivial⟩ ?_
      subst h
      exact x_iret C (show decode cX11_isPrivileged 62 = .ok (.ireturn, 1) from by decide +kernel) (x_finI (x_nb (x_rgw (x_rgc (x := 0) (k := 0) (by decide)) (lo' := 0) (hi' := 1) (by decide) (by decide))) ⟨⟨rfl, rfl⟩, (x_rgw (x_rgc (x := 0) (k := 0) (by decide)) (lo' := 0) (hi' := 1) (by decide) (by decide)), trivial⟩) (Nat.le_refl 0) (Nat.le_refl 0)
    · rw [if_pos c28] at h
      have g29 : xrg 51 51 x1 := (x_c_eq wx1 (x_rgc (x := 51) (k := 51) (by decide)) c28).1
      refine x_run C e_X11_isPrivileged_9 e_X11_isPrivileged_9_k (pc' := 58) (lv' := [(1, .int x1)]) (st' := [.int 1]) (σ' := (M, L)) rfl ⟨trivial, trivial⟩ ?_
      refine x_goto C (show decode cX11_isPrivileged 58 = .ok (.goto 4, 3) from by decide +kernel) (tgt := 62) (by decide) ?_
      subst h
      exact x_iret C (show decode cX11_isPrivileged 62 = .ok (.ireturn, 1) from by decide +kernel) (x_finI (x_nb (x_rgw (x_rgc (x := 1) (k := 1) (by decide)) (lo' := 0) (hi' := 1) (by decide) (by decide))) ⟨⟨rfl, rfl⟩, (x_rgw (x_rgc (x := 1) (k := 1) (by decide)) (lo' := 0) (hi' := 1) (by decide) (by decide)), trivial⟩) (Nat.le_refl 0) (Nat.le_refl 0)
set_option maxRecDepth 20000 in
set_option maxHeartbeats 4000000 in
theorem k_X11_isPrivileged (l : Launch) (a1 : Int32) (M : St) (L : Nat → Nat → Int64) : XM l yX11_isPrivileged cX11_isPrivileged 3 (some .boolean) R_X11_isPrivileged LAY [.int a1] (M, L) (P_X11_isPrivileged (f_X11_isPrivileged a1) M L) := by
  refine XM.of (by decide) (Nat.le_of_ble_eq_true rfl) LAY_in cl_ok fl_X11_ok kc_X11_ok (fun V C => ?_)
  obtain ⟨r, h⟩ : ∃ r, f_X11_isPrivileged a1 = r := ⟨_, rfl⟩
  rw [h] at C
  change C_X11_isPrivileged l r M L V at C
  unfold f_X11_isPrivileged at h
  show V 0 0 0 [(0, .int a1)] [] LAY (M, L)
  refine x_run C e_X11_isPrivileged_1 e_X11_isPrivileged_1_k (pc' := 18) (lv' := [(2, .int ((a1 >>> ((6 : Int32) &&& 31)) &&& 63)), (1, .int (a1 &&& 63)), (0, .int a1)]) (st' := [.int 3, .int (a1 >>> ((12 : Int32) &&& 31))]) (σ' := (M, L)) rfl ⟨trivial, trivial, trivial, trivial, trivial, trivial, trivial, trivial, trivial, trivial, trivial, trivial, trivial, trivial, trivial⟩ ?_
  refine x_icmp_ne C (show decode cX11_isPrivileged 18 = .ok (.if_icmp .ne 45, 3) from by decide +kernel) (tgt := 63) (by decide) (fun c1 => ?_) (fun c1 => ?_)
  · rw [if_neg c1] at h
    refine x_run C e_X11_isPrivileged_2 e_X11_isPrivileged_2_k (pc' := 69) (lv' := [(2, .int ((a1 >>> ((6 : Int32) &&& 31)) &&& 63)), (1, .int (a1 &&& 63)), (0, .int a1)]) (st' := [.int 12, .int (a1 >>> ((12 : Int32) &&& 31))]) (σ' := (M, L)) rfl ⟨trivial, trivial, trivial, trivial, trivial⟩ ?_
    refine x_icmp_ne C (show decode cX11_isPrivileged 69 = .ok (.if_icmp .ne 39, 3) from by decide +kernel) (tgt := 108) (by decide) (fun c2 => ?_) (fun c2 => ?_)
    · rw [if_neg c2] at h
      refine x_run C e_X11_isPrivileged_3 e_X11_isPrivileged_3_k (pc' := 109) (lv' := [(2, .int ((a1 >>> ((6 : Int32) &&& 31)) &&& 63)), (1, .int (a1 &&& 63)), (0, .int a1)]) (st' := [.int 0]) (σ' := (M, L)) rfl ⟨trivial, trivial⟩ ?_
      subst h
      exact x_iret C (show decode cX11_isPrivileged 109 = .ok (.ireturn, 1) from by decide +kernel) (x_finI (x_nb (x_rgw (x_rgc (x := 0) (k := 0) (by decide)) (lo' := 0) (hi' := 1) (by decide) (by decide))) ⟨⟨rfl, rfl⟩, (x_rgw (x_rgc (x := 0) (k := 0) (by decide)) (lo' := 0) (hi' := 1) (by decide) (by decide)), trivial⟩) (Nat.le_refl 0) (Nat.le_refl 0)
    · rw [if_pos c2] at h
      have g3 : xrg 12 12 (a1 >>> ((12 : Int32) &&& 31)) := (x_c_eq (x_rgt (a1 >>> ((12 : Int32) &&& 31))) (x_rgc (x := 12) (k := 12) (by decide)) c2).1
      refine x_run C e_X11_isPrivileged_4 e_X11_isPrivileged_4_k (pc' := 77) (lv' := [(2, .int ((a1 >>> ((6 : Int32) &&& 31)) &&& 63)), (1, .int (a1 &&& 63)), (0, .int a1)]) (st' := [.int (a1 &&& 256)]) (σ' := (M, L)) rfl ⟨trivial, trivial, trivial, trivial⟩ ?_
      refine x_if_ne C (show decode cX11_isPrivileged 77 = .ok (.ifCond .ne 31, 3) from by decide +kernel) (tgt := 108) (by decide) (fun c4 => ?_) (fun c4 => ?_)
      · rw [if_neg c4] at h
        have g5 : xrg 1 256 (a1 &&& 256) := (x_c_ne (x_rg_and (x := a1) (m := 256) (k := 256) (by decide) (by decide)) (by decide) c4)
        refine x_run C e_X11_isPrivileged_3 e_X11_isPrivileged_3_k (pc' := 109) (lv' := [(2, .int ((a1 >>> ((6 : Int32) &&& 31)) &&& 63)), (1, .int (a1 &&& 63)), (0, .int a1)]) (st' := [.int 0]) (σ' := (M, L)) rfl ⟨trivial, trivial⟩ ?_
        subst h
        exact x_iret C (show decode cX11_isPrivileged 109 = .ok (.ireturn, 1) from by decide +kernel) (x_finI (x_nb (x_rgw (x_rgc (x := 0) (k := 0) (by decide)) (lo' := 0) (hi' := 1) (by decide) (by decide))) ⟨⟨rfl, rfl⟩, (x_rgw (x_rgc (x := 0) (k := 0) (by decide)) (lo' := 0) (hi' := 1) (by decide) (by decide)), trivial⟩) (Nat.le_refl 0) (Nat.le_refl 0)
      · rw [if_pos c4] at h
        have g6 : xrg 0 0 (a1 &&& 256) := (x_c_eq (x_rg_and (x := a1) (m := 256) (k := 256) (by decide) (by decide)) (x_rgc (x := 0) (k := 0) (by decide)) c4).1
        refine x_run C e_X11_isPrivileged_5 e_X11_isPrivileged_5_k (pc' := 88) (lv' := [(2, .int ((a1 >>> ((6 : Int32) &&& 31)) &&& 63)), (1, .int (a1 &&& 63)), (0, .int a1)]) (st' := [.int ((a1 >>> ((9 : Int32) &&& 31)) &&& 7), .int (a1 &&& 63)]) (σ' := (M, L)) rfl ⟨trivial, trivial, trivial, trivial, trivial, trivial, trivial⟩ ?_
        refine x_callS C (rest := []) (avs := [.int (a1 &&& 63), .int ((a1 >>> ((9 : Int32) &&& 31)) &&& 7)]) (k_X11_isStatus l (a1 &&& 63) ((a1 >>> ((9 : Int32) &&& 31)) &&& 7) M L) yoX11_isStatus ml_X11_153 rfl ⟨Nat.zero_le _, Nat.zero_le _⟩ (show decode cX11_isPrivileged 88 = .ok (.invokestatic 153, 3) from by decide +kernel) rfl (fun v σ' hPo => ?_)
        obtain ⟨⟨rfl, rfl⟩, g8, -⟩ := hPo
        show V 0 0 91 [(2, .int ((a1 >>> ((6 : Int32) &&& 31)) &&& 63)), (1, .int (a1 &&& 63)), (0, .int a1)] [.int (f_X11_isStatus (a1 &&& 63) ((a1 >>> ((9 : Int32) &&& 31)) &&& 7))] LAY (M, L)
        refine x_if_eq C (show decode cX11_isPrivileged 91 = .ok (.ifCond .eq 17, 3) from by decide +kernel) (tgt := 108) (by decide) (fun c10 => ?_) (fun c10 => ?_)
        · rw [if_pos c10] at h
          have g11 : xrg 0 0 (f_X11_isStatus (a1 &&& 63) ((a1 >>> ((9 : Int32) &&& 31)) &&& 7)) := (x_c_eq g8 (x_rgc (x := 0) (k := 0) (by decide)) c10).1
          refine x_run C e_X11_isPrivileged_3 e_X11_isPrivileged_3_k (pc' := 109) (lv' := [(2, .int ((a1 >>> ((6 : Int32) &&& 31)) &&& 63)), (1, .int (a1 &&& 63)), (0, .int a1)]) (st' := [.int 0]) (σ' := (M, L)) rfl ⟨trivial, trivial⟩ ?_
          subst h
          exact x_iret C (show decode cX11_isPrivileged 109 = .ok (.ireturn, 1) from by decide +kernel) (x_finI (x_nb (x_rgw (x_rgc (x := 0) (k := 0) (by decide)) (lo' := 0) (hi' := 1) (by decide) (by decide))) ⟨⟨rfl, rfl⟩, (x_rgw (x_rgc (x := 0) (k := 0) (by decide)) (lo' := 0) (hi' := 1) (by decide) (by decide)), trivial⟩) (Nat.le_refl 0) (Nat.le_refl 0)
        · rw [if_neg c10] at h
          have g12 : xrg 1 1 (f_X11_isStatus (a1 &&& 63) ((a1 >>> ((9 : Int32) &&& 31)) &&& 7)) := (x_c_ne g8 (by decide) c10)
          refine x_run C e_X11_isPrivileged_6 e_X11_isPrivileged_6_k (pc' := 101) (lv' := [(2, .int ((a1 >>> ((6 : Int32) &&& 31)) &&& 63)), (1, .int (a1 &&& 63)), (0, .int a1)]) (st' := [.int 1, .int ((a1 >>> ((6 : Int32) &&& 31)) &&& 3)]) (σ' := (M, L)) rfl ⟨trivial, trivial, trivial, trivial, trivial, trivial, trivial⟩ ?_
          refine x_icmp_ne C (show decode cX11_isPrivileged 101 = .ok (.if_icmp .ne 7, 3) from by decide +kernel) (tgt := 108) (by decide) (fun c13 => ?_) (fun c13 => ?_)
          · rw [if_neg c13] at h
            refine x_run C e_X11_isPrivileged_3 e_X11_isPrivileged_3_k (pc' := 109) (lv' := [(2, .int ((a1 >>> ((6 : Int32) &&& 31)) &&& 63)), (1, .int (a1 &&& 63)), (0, .int a1)]) (st' := [.int 0]) (σ' := (M, L)) rfl ⟨trivial, trivial⟩ ?_
            subst h
            exact x_iret C (show decode cX11_isPrivileged 109 = .ok (.ireturn, 1) from by decide +kernel) (x_finI (x_nb (x_rgw (x_rgc (x := 0) (k := 0) (by decide)) (lo' := 0) (hi' := 1) (by decide) (by decide))) ⟨⟨rfl, rfl⟩, (x_rgw (x_rgc (x := 0) (k := 0) (by decide)) (lo' := 0) (hi' := 1) (by decide) (by decide)), trivial⟩) (Nat.le_refl 0) (Nat.le_refl 0)
          · rw [if_pos c13] at h
            have g14 : xrg 1 1 ((a1 >>> ((6 : Int32) &&& 31)) &&& 3) := (x_c_eq (x_rg_and (x := (a1 >>> ((6 : Int32) &&& 31))) (m := 3) (k := 3) (by decide) (by decide)) (x_rgc (x := 1) (k := 1) (by decide)) c13).1
            refine x_run C e_X11_isPrivileged_7 e_X11_isPrivileged_7_k (pc' := 105) (lv' := [(2, .int ((a1 >>> ((6 : Int32) &&& 31)) &&& 63)), (1, .int (a1 &&& 63)), (0, .int a1)]) (st' := [.int 1]) (σ' := (M, L)) rfl ⟨trivial, trivial⟩ ?_
            refine x_goto C (show decode cX11_isPrivileged 105 = .ok (.goto 4, 3) from by decide +kernel) (tgt := 109) (by decide) ?_
            subst h
            exact x_iret C (show decode cX11_isPrivileged 109 = .ok (.ireturn, 1) from by decide +kernel) (x_finI (x_nb (x_rgw (x_rgc (x := 1) (k := 1) (by decide)) (lo' := 0) (hi' := 1) (by decide) (by decide))) ⟨⟨rfl, rfl⟩, (x_rgw (x_rgc (x := 1) (k := 1) (by decide)) (lo' := 0) (hi' := 1) (by decide) (by decide)), trivial⟩) (Nat.le_refl 0) (Nat.le_refl 0)
  · rw [if_pos c1] at h
    have g15 : xrg 3 3 (a1 >>> ((12 : Int32) &&& 31)) := (x_c_eq (x_rgt (a1 >>> ((12 : Int32) &&& 31))) (x_rgc (x := 3) (k := 3) (by decide)) c1).1
    refine x_run C e_X11_isPrivileged_8 e_X11_isPrivileged_8_k (pc' := 24) (lv' := [(2, .int ((a1 >>> ((6 : Int32) &&& 31)) &&& 63)), (1, .int (a1 &&& 63)), (0, .int a1)]) (st' := [.int 11, .int ((a1 >>> ((6 : Int32) &&& 31)) &&& 63)]) (σ' := (M, L)) rfl ⟨trivial, trivial, trivial⟩ ?_
    refine x_icmp_eq C (show decode cX11_isPrivileged 24 = .ok (.if_icmp .eq 33, 3) from by decide +kernel) (tgt := 57) (by decide) (fun c16 => ?_) (fun c16 => ?_)
    · rw [if_pos c16] at h
      have g17 : xrg 11 11 ((a1 >>> ((6 : Int32) &&& 31)) &&& 63) := (x_c_eq (x_rg_and (x := (a1 >>> ((6 : Int32) &&& 31))) (m := 63) (k := 63) (by decide) (by decide)) (x_rgc (x := 11) (k := 11) (by decide)) c16).1
      refine x_run C e_X11_isPrivileged_9 e_X11_isPrivileged_9_k (pc' := 58) (lv' := [(2, .int ((a1 >>> ((6 : Int32) &&& 31)) &&& 63)), (1, .int (a1 &&& 63)), (0, .int a1)]) (st' := [.int 1]) (σ' := (M, L)) rfl ⟨trivial, trivial⟩ ?_
      refine x_goto C (show decode cX11_isPrivileged 58 = .ok (.goto 4, 3) from by decide +kernel) (tgt := 62) (by decide) ?_
      subst h
      exact x_iret C (show decode cX11_isPrivileged 62 = .ok (.ireturn, 1) from by decide +kernel) (x_finI (x_nb (x_rgw (x_rgc (x := 1) (k := 1) (by decide)) (lo' := 0) (hi' := 1) (by decide) (by decide))) ⟨⟨rfl, rfl⟩, (x_rgw (x_rgc (x := 1) (k := 1) (by decide)) (lo' := 0) (hi' := 1) (by decide) (by decide)), trivial⟩) (Nat.le_refl 0) (Nat.le_refl 0)
    · rw [if_neg c16] at h
      refine x_run C e_X11_isPrivileged_10 e_X11_isPrivileged_10_k (pc' := 30) (lv' := [(2, .int ((a1 >>> ((6 : Int32) &&& 31)) &&& 63)), (1, .int (a1 &&& 63)), (0, .int a1)]) (st' := [.int 28, .int ((a1 >>> ((6 : Int32) &&& 31)) &&& 63)]) (σ' := (M, L)) rfl ⟨trivial, trivial, trivial⟩ ?_
      refine x_icmp_ne C (show decode cX11_isPrivileged 30 = .ok (.if_icmp .ne 31, 3) from by decide +kernel) (tgt := 61) (by decide) (fun c18 => ?_) (fun c18 => ?_)
      · rw [if_neg c18] at h
        refine x_run C e_X11_isPrivileged_11 e_X11_isPrivileged_11_k (pc' := 62) (lv' := [(2, .int ((a1 >>> ((6 : Int32) &&& 31)) &&& 63)), (1, .int (a1 &&& 63)), (0, .int a1)]) (st' := [.int 0]) (σ' := (M, L)) rfl ⟨trivial, trivial⟩ ?_
        subst h
        exact x_iret C (show decode cX11_isPrivileged 62 = .ok (.ireturn, 1) from by decide +kernel) (x_finI (x_nb (x_rgw (x_rgc (x := 0) (k := 0) (by decide)) (lo' := 0) (hi' := 1) (by decide) (by decide))) ⟨⟨rfl, rfl⟩, (x_rgw (x_rgc (x := 0) (k := 0) (by decide)) (lo' := 0) (hi' := 1) (by decide) (by decide)), trivial⟩) (Nat.le_refl 0) (Nat.le_refl 0)
      · rw [if_pos c18] at h
        have g19 : xrg 28 28 ((a1 >>> ((6 : Int32) &&& 31)) &&& 63) := (x_c_eq (x_rg_and (x := (a1 >>> ((6 : Int32) &&& 31))) (m := 63) (k := 63) (by decide) (by decide)) (x_rgc (x := 28) (k := 28) (by decide)) c18).1
        refine x_run C e_X11_isPrivileged_12 e_X11_isPrivileged_12_k (pc' := 36) (lv' := [(2, .int ((a1 >>> ((6 : Int32) &&& 31)) &&& 63)), (1, .int (a1 &&& 63)), (0, .int a1)]) (st' := [.int 32, .int (a1 &&& 63)]) (σ' := (M, L)) rfl ⟨trivial, trivial, trivial⟩ ?_
        refine x_icmp_lt C (show decode cX11_isPrivileged 36 = .ok (.if_icmp .lt 9, 3) from by decide +kernel) (tgt := 45) (by decide) (fun c20 => ?_) (fun c20 => ?_)
        · rw [if_pos c20] at h
          have g21 : xrg 0 31 (a1 &&& 63) := (x_c_lt (x_rg_and (x := a1) (m := 63) (k := 63) (by decide) (by decide)) (x_rgc (x := 32) (k := 32) (by decide)) c20).1
          refine x_lv C [1] rfl ?_
          exact b_X11_isPrivileged_45 r C (a1 &&& 63)  (x_rgw g21 (lo' := 0) (hi' := 63) (by decide) (by decide)) h
        · rw [if_neg c20] at h
          have g22 : xrg 32 63 (a1 &&& 63) := (x_c_nlt (x_rg_and (x := a1) (m := 63) (k := 63) (by decide) (by decide)) (x_rgc (x := 32) (k := 32) (by decide)) c20).1
          refine x_run C e_X11_isPrivileged_13 e_X11_isPrivileged_13_k (pc' := 42) (lv' := [(2, .int ((a1 >>> ((6 : Int32) &&& 31)) &&& 63)), (1, .int (a1 &&& 63)), (0, .int a1)]) (st' := [.int 49, .int (a1 &&& 63)]) (σ' := (M, L)) rfl ⟨trivial, trivial, trivial⟩ ?_
          refine x_icmp_lt C (show decode cX11_isPrivileged 42 = .ok (.if_icmp .lt 15, 3) from by decide +kernel) (tgt := 57) (by decide) (fun c23 => ?_) (fun c23 => ?_)
          · rw [if_pos c23] at h
            have g24 : xrg 32 48 (a1 &&& 63) := (x_c_lt g22 (x_rgc (x := 49) (k := 49) (by decide)) c23).1
            refine x_run C e_X11_isPrivileged_9 e_X11_isPrivileged_9_k (pc' := 58) (lv' := [(2, .int ((a1 >>> ((6 : Int32) &&& 31)) &&& 63)), (1, .int (a1 &&& 63)), (0, .int a1)]) (st' := [.int 1]) (σ' := (M, L)) rfl ⟨trivial, trivial⟩ ?_
            refine x_goto C (show decode cX11_isPrivileged 58 = .ok (.goto 4, 3) from by decide +kernel) (tgt := 62) (by decide) ?_
            subst h
            exact x_iret C (show decode cX11_isPrivileged 62 = .ok (.ireturn, 1) from by decide +kernel) (x_finI (x_nb (x_rgw (x_rgc (x := 1) (k := 1) (by decide)) (lo' := 0) (hi' := 1) (by decide) (by decide))) ⟨⟨rfl, rfl⟩, (x_rgw (x_rgc (x := 1) (k := 1) (by decide)) (lo' := 0) (hi' := 1) (by decide) (by decide)), trivial⟩) (Nat.le_refl 0) (Nat.le_refl 0)
          · rw [if_neg c23] at h
            have g25 : xrg 49 63 (a1 &&& 63) := (x_c_nlt g22 (x_rgc (x := 49) (k := 49) (by decide)) c23).1
            refine x_lv C [1] rfl ?_
            exact b_X11_isPrivileged_45 r C (a1 &&& 63)  (x_rgw g25 (lo' := 0) (hi' := 63) (by decide) (by decide)) h
-- X11_index
def e_X11_index_1 : List xI := [(0, .aload_n 0, 1, .null)]
theorem e_X11_index_1_k : e_X11_index_1.all (fun q => xokB cX11_index q && xokL q) = true := by decide +kernel
def e_X11_index_2 : List xI := [(4, .istore_n 1, 1, .null), (5, .aload_n 0, 1, .null), (6, .getfield 7, 3, .null), (9, .iload_n 1, 1, .null), (10, .bipush 12, 2, .int 12), (12, .ishr, 1, .null), (13, .bipush 15, 2, .int 15), (15, .iand, 1, .null), (16, .iaload, 1, .null), (17, .istore_n 2, 1, .null), (18, .iload_n 1, 1, .null), (19, .i2b, 1, .null), (20, .iload_n 1, 1, .null), (21, .sipush 2048, 3, .int 2048), (24, .iand, 1, .null)]
theorem e_X11_index_2_k : e_X11_index_2.all (fun q => xokB cX11_index q && xokL q) = true := by decide +kernel
def e_X11_index_3 : List xI := [(32, .iload_n 2, 1, .null), (33, .i2s, 1, .null), (34, .iadd, 1, .null)]
theorem e_X11_index_3_k : e_X11_index_3.all (fun q => xokB cX11_index q && xokL q) = true := by decide +kernel
def e_X11_index_4 : List xI := [(28, .iload_n 2, 1, .null)]
theorem e_X11_index_4_k : e_X11_index_4.all (fun q => xokB cX11_index q && xokL q) = true := by decide +kernel
def e_X11_index_5 : List xI := [(34, .iadd, 1, .null)]
theorem e_X11_index_5_k : e_X11_index_5.all (fun q => xokB cX11_index q && xokL q) = true := by decide +kernel
abbrev P_X11_index (r : Int32 × St) (L : Nat → Nat → Int64) : Option Value → xG → Prop := fun v σ' => PoI r.1 r.2 L v σ' ∧ True ∧ Inv INVM r.2
abbrev R_X11_index : Room := { frames := 4, cells := 0, slots := 0, locals := 95 }
abbrev C_X11_index (l : Launch) (r : Int32 × St) (L : Nat → Nat → Int64) (V : XJ) : Prop := XC l yX11_index.cls yX11_index.name cX11_index 3 R_X11_index 0 0 fl_X11 kc_X11 LAY.length (xfin (some .int) LAY (P_X11_index r L)) V
def f_X11_index (M : St) : Int32 × St := (xb (f_X11_fetch  M) fun q1 => (if (q1.1 &&& 2048) = 0 then ((q1.1.toInt8.toInt32 + (q1.2 15 ((q1.1 >>> ((12 : Int32) &&& 31)) &&& 15).toNatClampNeg).toInt16.toInt32), q1.2) else ((q1.1.toInt8.toInt32 + (q1.2 15 ((q1.1 >>> ((12 : Int32) &&& 31)) &&& 15).toNatClampNeg)), q1.2)))
set_option maxRecDepth 20000 in
set_option maxHeartbeats 4000000 in
theorem k_X11_index (l : Launch) (M : St) (L : Nat → Nat → Int64) (hI : Inv INVM M) : XM l yX11_index cX11_index 3 (some .int) R_X11_index LAY [.ref 14] (M, L) (P_X11_index (f_X11_index M) L) := by
  refine XM.of (by decide) (Nat.le_of_ble_eq_true rfl) LAY_in cl_ok fl_X11_ok kc_X11_ok (fun V C => ?_)
  obtain ⟨r, h⟩ : ∃ r, f_X11_index M = r := ⟨_, rfl⟩
  rw [h] at C
  change C_X11_index l r L V at C
  unfold f_X11_index at h
  show V 0 0 0 [(0, .ref 14)] [] LAY (M, L)
  refine x_run C e_X11_index_1 e_X11_index_1_k (pc' := 1) (lv' := [(0, .ref 14)]) (st' := [.ref 14]) (σ' := (M, L)) rfl ⟨trivial, trivial⟩ ?_
  refine x_callV C (k := 14) (ci := 8) (rest := []) (avs := []) (k_X11_fetch l  M L hI) yoX11_fetch ml_X11_103 rfl rfl rfl rfl ⟨Nat.zero_le _, Nat.zero_le _⟩ (show decode cX11_index 1 = .ok (.invokevirtual 103, 3) from by decide +kernel) rfl (fun v σ' hPo => ?_)
  obtain ⟨⟨rfl, rfl⟩, g2, hI3⟩ := hPo
  generalize hq1 : f_X11_fetch  M = q1 at h g2 hI3 ⊢
  obtain ⟨r1, M1⟩ := q1
  have h := xb_eq h
  try dsimp only at h g2 hI3
  show V 0 0 4 [(0, .ref 14)] [.int r1] LAY (M1, L)
  refine x_run C e_X11_index_2 e_X11_index_2_k (pc' := 25) (lv' := [(2, .int (M1 15 ((r1 >>> ((12 : Int32) &&& 31)) &&& 15).toNatClampNeg)), (1, .int r1), (0, .ref 14)]) (st' := [.int (r1 &&& 2048), .int r1.toInt8.toInt32]) (σ' := (M1, L)) rfl ⟨trivial, trivial, trivial, trivial, trivial, trivial, trivial, trivial, (x_rgv (x_rg_and (x := (r1 >>> ((12 : Int32) &&& 31))) (m := 15) (k := 15) (by decide) (by decide)) (by decide) (by decide)), trivial, trivial, trivial, trivial, trivial, trivial, trivial⟩ ?_
  refine x_if_eq C (show decode cX11_index 25 = .ok (.ifCond .eq 7, 3) from by decide +kernel) (tgt := 32) (by decide) (fun c4 => ?_) (fun c4 => ?_)
  · rw [if_pos c4] at h
    have g5 : xrg 0 0 (r1 &&& 2048) := (x_c_eq (x_rg_and (x := r1) (m := 2048) (k := 2048) (by decide) (by decide)) (x_rgc (x := 0) (k := 0) (by decide)) c4).1
    refine x_run C e_X11_index_3 e_X11_index_3_k (pc' := 35) (lv' := [(2, .int (M1 15 ((r1 >>> ((12 : Int32) &&& 31)) &&& 15).toNatClampNeg)), (1, .int r1), (0, .ref 14)]) (st' := [.int (r1.toInt8.toInt32 + (M1 15 ((r1 >>> ((12 : Int32) &&& 31)) &&& 15).toNatClampNeg).toInt16.toInt32)]) (σ' := (M1, L)) rfl ⟨trivial, trivial, trivial, trivial⟩ ?_
    subst h
    exact x_iret C (show decode cX11_index 35 = .ok (.ireturn, 1) from by decide +kernel) (x_finI rfl ⟨⟨rfl, rfl⟩, trivial, hI3⟩) (Nat.le_refl 0) (Nat.le_refl 0)
  · rw [if_neg c4] at h
    have g6 : xrg 1 2048 (r1 &&& 2048) := (x_c_ne (x_rg_and (x := r1) (m := 2048) (k := 2048) (by decide) (by decide)) (by decide) c4)
    refine x_run C e_X11_index_4 e_X11_index_4_k (pc' := 29) (lv' := [(2, .int (M1 15 ((r1 >>> ((12 : Int32) &&& 31)) &&& 15).toNatClampNeg)), (1, .int r1), (0, .ref 14)]) (st' := [.int (M1 15 ((r1 >>> ((12 : Int32) &&& 31)) &&& 15).toNatClampNeg), .int r1.toInt8.toInt32]) (σ' := (M1, L)) rfl ⟨trivial, trivial⟩ ?_
    refine x_goto C (show decode cX11_index 29 = .ok (.goto 5, 3) from by decide +kernel) (tgt := 34) (by decide) ?_
    refine x_run C e_X11_index_5 e_X11_index_5_k (pc' := 35) (lv' := [(2, .int (M1 15 ((r1 >>> ((12 : Int32) &&& 31)) &&& 15).toNatClampNeg)), (1, .int r1), (0, .ref 14)]) (st' := [.int (r1.toInt8.toInt32 + (M1 15 ((r1 >>> ((12 : Int32) &&& 31)) &&& 15).toNatClampNeg))]) (σ' := (M1, L)) rfl ⟨trivial, trivial⟩ ?_
    subst h
    exact x_iret C (show decode cX11_index 35 = .ok (.ireturn, 1) from by decide +kernel) (x_finI rfl ⟨⟨rfl, rfl⟩, trivial, hI3⟩) (Nat.le_refl 0) (Nat.le_refl 0)
