/-! Model.fill -/
theorem nnI {a : Int32} (h0 : 0 ≤ a.toInt) : ∃ k : Nat, k < 2 ^ 31 ∧ a = nI k := by
  have h1 : a.toInt < 2 ^ 31 := Int32.toInt_lt a
  refine ⟨a.toInt.toNat, by omega, ?_⟩
  apply Int32.toInt_inj.mp
  rw [nI_toInt (by omega)]
  omega
theorem fill_ix {x1 x2 x5 : Int32} (w1 : xrg 0 2147483647 x1) (w2 : xrg 1 4 x2) (w5 : xrg 0 2147483647 x5) (wr : x1.toInt + 2 * x2.toInt ≤ 2048) (c : ¬ (2 * x2) ≤ x5) : xrg 0 2047 (x1 + x5) := by
  obtain ⟨i, hi, rfl⟩ := nnI w1.1
  obtain ⟨j, hj, rfl⟩ := nnI w5.1
  obtain ⟨k, hk, rfl⟩ := nnI (a := x2) (by have := w2.1; omega)
  have h1 := w2.1
  have h2 := w2.2
  rw [nI_toInt hk] at h1 h2
  have e : (2 : Int32) * nI k = nI (2 * k) := by
    rcases (show k = 1 ∨ k = 2 ∨ k = 3 ∨ k = 4 by omega) with rfl | rfl | rfl | rfl <;> decide
  rw [e] at c
  have hc : ¬ 2 * k ≤ j := fun x => c ((nI_leI (by omega) hj).mpr x)
  rw [nI_toInt hi, nI_toInt hk] at wr
  rw [nI_add]
  exact xrg_nI (by omega) (by omega)
theorem fill_in {a1 a2 : Int32} (w1 : xrg 0 2147483647 a1) (w2 : xrg 1 4 a2) (c : ¬ (2048 - (2 * a2)) < a1) : a1.toInt + 2 * a2.toInt ≤ 2048 := by
  obtain ⟨i, hi, rfl⟩ := nnI w1.1
  obtain ⟨k, hk, rfl⟩ := nnI (a := a2) (by have := w2.1; omega)
  have h1 := w2.1
  have h2 := w2.2
  rw [nI_toInt hk] at h1 h2
  have e : (2048 : Int32) - (2 * nI k) = nI (2048 - 2 * k) := by
    rcases (show k = 1 ∨ k = 2 ∨ k = 3 ∨ k = 4 by omega) with rfl | rfl | rfl | rfl <;> decide
  rw [e] at c
  have hc : ¬ 2048 - 2 * k < i := fun x => c ((nI_ltI (by omega) hi).mpr x)
  rw [nI_toInt hi, nI_toInt hk]
  omega
-- X11_fill
def e_X11_fill_1 : List xI := [(0, .aload_n 0, 1, .null), (1, .iload_n 2, 1, .null), (2, .iconst 1, 1, .int 1)]
theorem e_X11_fill_1_k : e_X11_fill_1.all (fun q => xokB cX11_fill q && xokL q) = true := by decide +kernel
def e_X11_fill_2 : List xI := [(11, .iconst 1, 1, .int 1)]
theorem e_X11_fill_2_k : e_X11_fill_2.all (fun q => xokB cX11_fill q && xokL q) = true := by decide +kernel
def e_X11_fill_3 : List xI := [(41, .putfield 42, 3, .null), (44, .aload_n 0, 1, .null), (45, .getfield 42, 3, .null)]
theorem e_X11_fill_3_k : e_X11_fill_3.all (fun q => xokB cX11_fill q && xokL q) = true := by decide +kernel
def e_X11_fill_4 : List xI := [(6, .iload_n 2, 1, .null), (7, .iconst 4, 1, .int 4)]
theorem e_X11_fill_4_k : e_X11_fill_4.all (fun q => xokB cX11_fill q && xokL q) = true := by decide +kernel
def e_X11_fill_5 : List xI := [(15, .iload_n 1, 1, .null)]
theorem e_X11_fill_5_k : e_X11_fill_5.all (fun q => xokB cX11_fill q && xokL q) = true := by decide +kernel
def e_X11_fill_6 : List xI := [(36, .iconst 2, 1, .int 2)]
theorem e_X11_fill_6_k : e_X11_fill_6.all (fun q => xokB cX11_fill q && xokL q) = true := by decide +kernel
def e_X11_fill_7 : List xI := [(19, .iload_n 1, 1, .null), (20, .sipush 2048, 3, .int 2048), (23, .iconst 2, 1, .int 2), (24, .iload_n 2, 1, .null), (25, .imul, 1, .null), (26, .isub, 1, .null)]
theorem e_X11_fill_7_k : e_X11_fill_7.all (fun q => xokB cX11_fill q && xokL q) = true := by decide +kernel
def e_X11_fill_8 : List xI := [(30, .iload_n 1, 1, .null), (31, .iconst 2, 1, .int 2), (32, .irem, 1, .null)]
theorem e_X11_fill_8_k : e_X11_fill_8.all (fun q => xokB cX11_fill q && xokL q) = true := by decide +kernel
def e_X11_fill_9 : List xI := [(40, .iconst 0, 1, .int 0), (41, .putfield 42, 3, .null), (44, .aload_n 0, 1, .null), (45, .getfield 42, 3, .null)]
theorem e_X11_fill_9_k : e_X11_fill_9.all (fun q => xokB cX11_fill q && xokL q) = true := by decide +kernel
def e_X11_fill_10 : List xI := [(52, .iconst 0, 1, .int 0), (53, .istore 5, 2, .null)]
theorem e_X11_fill_10_k : e_X11_fill_10.all (fun q => xokB cX11_fill q && xokL q) = true := by decide +kernel
def e_X11_fill_11 : List xI := [(55, .iload 5, 2, .null), (57, .iconst 2, 1, .int 2), (58, .iload_n 2, 1, .null), (59, .imul, 1, .null)]
theorem e_X11_fill_11_k : e_X11_fill_11.all (fun q => xokB cX11_fill q && xokL q) = true := by decide +kernel
def e_X11_fill_12 : List xI := [(63, .aload_n 0, 1, .null), (64, .getfield 27, 3, .null), (67, .iload_n 1, 1, .null), (68, .iload 5, 2, .null), (70, .iadd, 1, .null), (71, .lload_n 3, 1, .null), (72, .bipush 8, 2, .int 8), (74, .iconst 2, 1, .int 2), (75, .iload_n 2, 1, .null), (76, .imul, 1, .null), (77, .iconst 1, 1, .int 1), (78, .isub, 1, .null), (79, .iload 5, 2, .null), (81, .isub, 1, .null), (82, .imul, 1, .null), (83, .lshr, 1, .null), (84, .l2i, 1, .null), (85, .sipush 255, 3, .int 255), (88, .iand, 1, .null), (89, .iastore, 1, .null), (90, .iinc 5 1, 3, .null)]
theorem e_X11_fill_12_k : e_X11_fill_12.all (fun q => xokB cX11_fill q && xokL q) = true := by decide +kernel
abbrev P_X11_fill (r : St) (L : Nat → Nat → Int64) : Option Value → xG → Prop := fun v σ' => PoV r L v σ' ∧ Inv INVM r
abbrev R_X11_fill : Room := { frames := 0, cells := 0, slots := 0, locals := 0 }
abbrev C_X11_fill (l : Launch) (r : St) (L : Nat → Nat → Int64) (V : XJ) : Prop := XC l yX11_fill.cls yX11_fill.name cX11_fill 6 R_X11_fill 0 0 fl_X11 kc_X11 LAY.length (xfin none LAY (P_X11_fill r L)) V
def f_X11_fill_55 : Nat → Int32 → Int32 → Int64 → Int32 → St → St
  | 0, x1, x2, x3, x5, M => M
  | n + 1, x1, x2, x3, x5, M => (if (2 * x2) ≤ x5 then M else f_X11_fill_55 n x1 x2 x3 (x5 + 1) (xup M 18 (x1 + x5).toNatClampNeg ((x3 >>> ((8 * (((2 * x2) - 1) - x5)).toInt64 &&& 63)).toInt32 &&& 255)))
def f_X11_fill (a1 : Int32) (a2 : Int32) (a3 : Int64) (M : St) : St := (if a2 < 1 then (xup M 14 0 1) else (if a2 ≤ 4 then (if a1 < 0 then (xup M 14 0 2) else (if (2048 - (2 * a2)) < a1 then (xup M 14 0 2) else (if (a1 - a1 / 2 * 2) = 0 then f_X11_fill_55 (((2 * a2).toInt - (0 : Int32).toInt).toNat + 1) a1 a2 a3 0 (xup M 14 0 0) else (xup M 14 0 2)))) else (xup M 14 0 1)))
set_option maxRecDepth 20000 in
set_option maxHeartbeats 4000000 in
theorem b_X11_fill_55 {l : Launch} {L : Nat → Nat → Int64} {V : XJ} (r : St) (C : C_X11_fill l r L V) : ∀ (n : Nat) (x1 : Int32) (x2 : Int32) (x3 : Int64) (x5 : Int32) (M : St), xrg 0 2147483647 x1 → xrg 1 4 x2 → xrg 0 2147483647 x5 → x1.toInt + 2 * x2.toInt ≤ 2048 → Inv INVM M → ((2 * x2).toInt - x5.toInt).toNat < n → f_X11_fill_55 n x1 x2 x3 x5 M = r → V 0 0 55 [(0, .ref 14), (1, .int x1), (2, .int x2), (3, .long x3), (5, .int x5)] [] LAY (M, L) := by
  intro n
  induction n with
  | zero => intro x1 x2 x3 x5 M  wx1 wx2 wx5 wrel hI hm; exact absurd hm (Nat.not_lt_zero _)
  | succ n ih =>
    intro x1 x2 x3 x5 M  wx1 wx2 wx5 wrel hI hm h
    unfold f_X11_fill_55 at h
    refine x_run C e_X11_fill_11 e_X11_fill_11_k (pc' := 60) (lv' := [(0, .ref 14), (1, .int x1), (2, .int x2), (3, .long x3), (5, .int x5)]) (st' := [.int (2 * x2), .int x5]) (σ' := (M, L)) rfl ⟨trivial, trivial, trivial, trivial, trivial⟩ ?_
    refine x_icmp_ge C (show decode cX11_fill 60 = .ok (.if_icmp .ge 36, 3) from by decide +kernel) (tgt := 96) (by decide) (fun c27 => ?_) (fun c27 => ?_)
    · rw [if_pos c27] at h
      have g28 : xrg (-2147483648) 2147483647 (2 * x2) := (x_c_le (x_rgt (2 * x2)) wx5 c27).1
      subst h
      exact x_vret C (show decode cX11_fill 96 = .ok (.return_, 1) from by decide +kernel) (x_finV ⟨⟨rfl, rfl⟩, hI⟩) (Nat.le_refl 0) (Nat.le_refl 0)
    · rw [if_neg c27] at h
      have g29 : xrg 1 2147483647 (2 * x2) := (x_c_nle (x_rgt (2 * x2)) wx5 c27).1
      have g30 : xrg 0 2147483646 x5 := (x_c_nle (x_rgt (2 * x2)) wx5 c27).2
      have hk31 := x_meas (x_nle c27) hm
      refine x_run C e_X11_fill_12 e_X11_fill_12_k (pc' := 93) (lv' := [(5, .int (x5 + 1)), (0, .ref 14), (1, .int x1), (2, .int x2), (3, .long x3)]) (st' := []) (σ' := ((xup M 18 (x1 + x5).toNatClampNeg ((x3 >>> ((8 * (((2 * x2) - 1) - x5)).toInt64 &&& 63)).toInt32 &&& 255)), L)) rfl ⟨trivial, trivial, trivial, trivial, trivial, trivial, trivial, trivial, trivial, trivial, trivial, trivial, trivial, trivial, trivial, trivial, trivial, trivial, trivial, (x_rgv (fill_ix wx1 wx2 wx5 wrel c27) (by decide) (by decide)), trivial, trivial⟩ ?_
      have hI32 : Inv INVM (xup M 18 (x1 + x5).toNatClampNeg ((x3 >>> ((8 * (((2 * x2) - 1) - x5)).toInt64 &&& 63)).toInt32 &&& 255)) := (hI.arr 18 ((x1 + x5).toNatClampNeg) ((x3 >>> ((8 * (((2 * x2) - 1) - x5)).toInt64 &&& 63)).toInt32 &&& 255) (by decide))
      refine x_goto C (show decode cX11_fill 93 = .ok (.goto (-38), 3) from by decide +kernel) (tgt := 55) (by decide) ?_
      refine x_lv C [1, 2, 3, 4, 0] rfl ?_
      exact ih x1 x2 x3 (x5 + 1) (xup M 18 (x1 + x5).toNatClampNeg ((x3 >>> ((8 * (((2 * x2) - 1) - x5)).toInt64 &&& 63)).toInt32 &&& 255)) wx1 wx2 (x_rgw (x_rg_add g30 (x_rgc (x := 1) (k := 1) (by decide)) (by decide) (by decide)) (lo' := 0) (hi' := 2147483647) (by decide) (by decide)) wrel hI32 (hk31) h
set_option maxRecDepth 20000 in
set_option maxHeartbeats 4000000 in
theorem k_X11_fill (l : Launch) (a1 : Int32) (a2 : Int32) (a3 : Int64) (M : St) (L : Nat → Nat → Int64) (hI : Inv INVM M) : XM l yX11_fill cX11_fill 6 none R_X11_fill LAY [.ref 14, .int a1, .int a2, .long a3] (M, L) (P_X11_fill (f_X11_fill a1 a2 a3 M) L) := by
  refine XM.of (by decide) (Nat.le_of_ble_eq_true rfl) LAY_in cl_ok fl_X11_ok kc_X11_ok (fun V C => ?_)
  obtain ⟨r, h⟩ : ∃ r, f_X11_fill a1 a2 a3 M = r := ⟨_, rfl⟩
  rw [h] at C
  change C_X11_fill l r L V at C
  unfold f_X11_fill at h
  show V 0 0 0 [(0, .ref 14), (1, .int a1), (2, .int a2), (3, .long a3)] [] LAY (M, L)
  refine x_run C e_X11_fill_1 e_X11_fill_1_k (pc' := 3) (lv' := [(0, .ref 14), (1, .int a1), (2, .int a2), (3, .long a3)]) (st' := [.int 1, .int a2, .ref 14]) (σ' := (M, L)) rfl ⟨trivial, trivial, trivial, trivial⟩ ?_
  refine x_icmp_lt C (show decode cX11_fill 3 = .ok (.if_icmp .lt 8, 3) from by decide +kernel) (tgt := 11) (by decide) (fun c1 => ?_) (fun c1 => ?_)
  · rw [if_pos c1] at h
    have g2 : xrg (-2147483648) 0 a2 := (x_c_lt (x_rgt a2) (x_rgc (x := 1) (k := 1) (by decide)) c1).1
    refine x_run C e_X11_fill_2 e_X11_fill_2_k (pc' := 12) (lv' := [(0, .ref 14), (1, .int a1), (2, .int a2), (3, .long a3)]) (st' := [.int 1, .ref 14]) (σ' := (M, L)) rfl ⟨trivial, trivial⟩ ?_
    refine x_goto C (show decode cX11_fill 12 = .ok (.goto 29, 3) from by decide +kernel) (tgt := 41) (by decide) ?_
    refine x_run C e_X11_fill_3 e_X11_fill_3_k (pc' := 48) (lv' := [(0, .ref 14), (1, .int a1), (2, .int a2), (3, .long a3)]) (st' := [.int 1]) (σ' := ((xup M 14 0 1), L)) rfl ⟨trivial, trivial, trivial, trivial⟩ ?_
    have hI3 : Inv INVM (xup M 14 0 1) := (hI.fld 14 0 1 (by decide))
    refine x_if_le C (show decode cX11_fill 48 = .ok (.ifCond .le 4, 3) from by decide +kernel) (tgt := 52) (by decide) (fun c4 => absurd c4 (by decide)) (fun c4 => ?_)
    subst h
    exact x_vret C (show decode cX11_fill 51 = .ok (.return_, 1) from by decide +kernel) (x_finV ⟨⟨rfl, rfl⟩, hI3⟩) (Nat.le_refl 0) (Nat.le_refl 0)
  · rw [if_neg c1] at h
    have g5 : xrg 1 2147483647 a2 := (x_c_nlt (x_rgt a2) (x_rgc (x := 1) (k := 1) (by decide)) c1).1
    refine x_run C e_X11_fill_4 e_X11_fill_4_k (pc' := 8) (lv' := [(0, .ref 14), (1, .int a1), (2, .int a2), (3, .long a3)]) (st' := [.int 4, .int a2, .ref 14]) (σ' := (M, L)) rfl ⟨trivial, trivial, trivial⟩ ?_
    refine x_icmp_le C (show decode cX11_fill 8 = .ok (.if_icmp .le 7, 3) from by decide +kernel) (tgt := 15) (by decide) (fun c6 => ?_) (fun c6 => ?_)
    · rw [if_pos c6] at h
      have g7 : xrg 1 4 a2 := (x_c_le g5 (x_rgc (x := 4) (k := 4) (by decide)) c6).1
      refine x_run C e_X11_fill_5 e_X11_fill_5_k (pc' := 16) (lv' := [(0, .ref 14), (1, .int a1), (2, .int a2), (3, .long a3)]) (st' := [.int a1, .ref 14]) (σ' := (M, L)) rfl ⟨trivial, trivial⟩ ?_
      refine x_if_lt C (show decode cX11_fill 16 = .ok (.ifCond .lt 20, 3) from by decide +kernel) (tgt := 36) (by decide) (fun c8 => ?_) (fun c8 => ?_)
      · rw [if_pos c8] at h
        have g9 : xrg (-2147483648) (-1) a1 := (x_c_lt (x_rgt a1) (x_rgc (x := 0) (k := 0) (by decide)) c8).1
        refine x_run C e_X11_fill_6 e_X11_fill_6_k (pc' := 37) (lv' := [(0, .ref 14), (1, .int a1), (2, .int a2), (3, .long a3)]) (st' := [.int 2, .ref 14]) (σ' := (M, L)) rfl ⟨trivial, trivial⟩ ?_
        refine x_goto C (show decode cX11_fill 37 = .ok (.goto 4, 3) from by decide +kernel) (tgt := 41) (by decide) ?_
        refine x_run C e_X11_fill_3 e_X11_fill_3_k (pc' := 48) (lv' := [(0, .ref 14), (1, .int a1), (2, .int a2), (3, .long a3)]) (st' := [.int 2]) (σ' := ((xup M 14 0 2), L)) rfl ⟨trivial, trivial, trivial, trivial⟩ ?_
        have hI10 : Inv INVM (xup M 14 0 2) := (hI.fld 14 0 2 (by decide))
        refine x_if_le C (show decode cX11_fill 48 = .ok (.ifCond .le 4, 3) from by decide +kernel) (tgt := 52) (by decide) (fun c11 => absurd c11 (by decide)) (fun c11 => ?_)
        subst h
        exact x_vret C (show decode cX11_fill 51 = .ok (.return_, 1) from by decide +kernel) (x_finV ⟨⟨rfl, rfl⟩, hI10⟩) (Nat.le_refl 0) (Nat.le_refl 0)
      · rw [if_neg c8] at h
        have g12 : xrg 0 2147483647 a1 := (x_c_nlt (x_rgt a1) (x_rgc (x := 0) (k := 0) (by decide)) c8).1
        refine x_run C e_X11_fill_7 e_X11_fill_7_k (pc' := 27) (lv' := [(0, .ref 14), (1, .int a1), (2, .int a2), (3, .long a3)]) (st' := [.int (2048 - (2 * a2)), .int a1, .ref 14]) (σ' := (M, L)) rfl ⟨trivial, trivial, trivial, trivial, trivial, trivial, trivial⟩ ?_
        refine x_icmp_gt C (show decode cX11_fill 27 = .ok (.if_icmp .gt 9, 3) from by decide +kernel) (tgt := 36) (by decide) (fun c13 => ?_) (fun c13 => ?_)
        · rw [if_pos c13] at h
          have g14 : xrg (-2147483648) 2147483646 (2048 - (2 * a2)) := (x_c_lt (x_rgt (2048 - (2 * a2))) g12 c13).1
          refine x_run C e_X11_fill_6 e_X11_fill_6_k (pc' := 37) (lv' := [(0, .ref 14), (1, .int a1), (2, .int a2), (3, .long a3)]) (st' := [.int 2, .ref 14]) (σ' := (M, L)) rfl ⟨trivial, trivial⟩ ?_
          refine x_goto C (show decode cX11_fill 37 = .ok (.goto 4, 3) from by decide +kernel) (tgt := 41) (by decide) ?_
          refine x_run C e_X11_fill_3 e_X11_fill_3_k (pc' := 48) (lv' := [(0, .ref 14), (1, .int a1), (2, .int a2), (3, .long a3)]) (st' := [.int 2]) (σ' := ((xup M 14 0 2), L)) rfl ⟨trivial, trivial, trivial, trivial⟩ ?_
          have hI15 : Inv INVM (xup M 14 0 2) := (hI.fld 14 0 2 (by decide))
          refine x_if_le C (show decode cX11_fill 48 = .ok (.ifCond .le 4, 3) from by decide +kernel) (tgt := 52) (by decide) (fun c16 => absurd c16 (by decide)) (fun c16 => ?_)
          subst h
          exact x_vret C (show decode cX11_fill 51 = .ok (.return_, 1) from by decide +kernel) (x_finV ⟨⟨rfl, rfl⟩, hI15⟩) (Nat.le_refl 0) (Nat.le_refl 0)
        · rw [if_neg c13] at h
          have g17 : xrg 0 2147483647 (2048 - (2 * a2)) := (x_c_nlt (x_rgt (2048 - (2 * a2))) g12 c13).1
          refine x_run C e_X11_fill_8 e_X11_fill_8_k (pc' := 33) (lv' := [(0, .ref 14), (1, .int a1), (2, .int a2), (3, .long a3)]) (st' := [.int (a1 - a1 / 2 * 2), .ref 14]) (σ' := (M, L)) rfl ⟨trivial, trivial, (by decide), trivial⟩ ?_
          refine x_if_eq C (show decode cX11_fill 33 = .ok (.ifCond .eq 7, 3) from by decide +kernel) (tgt := 40) (by decide) (fun c18 => ?_) (fun c18 => ?_)
          · rw [if_pos c18] at h
            have g19 : xrg 0 0 (a1 - a1 / 2 * 2) := (x_c_eq (x_rgt (a1 - a1 / 2 * 2)) (x_rgc (x := 0) (k := 0) (by decide)) c18).1
            refine x_run C e_X11_fill_9 e_X11_fill_9_k (pc' := 48) (lv' := [(0, .ref 14), (1, .int a1), (2, .int a2), (3, .long a3)]) (st' := [.int 0]) (σ' := ((xup M 14 0 0), L)) rfl ⟨trivial, trivial, trivial, trivial, trivial⟩ ?_
            have hI20 : Inv INVM (xup M 14 0 0) := (hI.fld 14 0 0 (by decide))
            refine x_if_le C (show decode cX11_fill 48 = .ok (.ifCond .le 4, 3) from by decide +kernel) (tgt := 52) (by decide) (fun c21 => ?_) (fun c21 => absurd c21 (by decide))
            refine x_run C e_X11_fill_10 e_X11_fill_10_k (pc' := 55) (lv' := [(5, .int 0), (0, .ref 14), (1, .int a1), (2, .int a2), (3, .long a3)]) (st' := []) (σ' := ((xup M 14 0 0), L)) rfl ⟨trivial, trivial, trivial⟩ ?_
            refine x_lv C [1, 2, 3, 4, 0] rfl ?_
            exact b_X11_fill_55 r C (((2 * a2).toInt - (0 : Int32).toInt).toNat + 1) a1 a2 a3 0 (xup M 14 0 0) g12 g7 (x_rgw (x_rgc (x := 0) (k := 0) (by decide)) (lo' := 0) (hi' := 2147483647) (by decide) (by decide)) (fill_in g12 g7 c13) hI20 (Nat.lt_succ_self _) h
          · rw [if_neg c18] at h
            refine x_run C e_X11_fill_6 e_X11_fill_6_k (pc' := 37) (lv' := [(0, .ref 14), (1, .int a1), (2, .int a2), (3, .long a3)]) (st' := [.int 2, .ref 14]) (σ' := (M, L)) rfl ⟨trivial, trivial⟩ ?_
            refine x_goto C (show decode cX11_fill 37 = .ok (.goto 4, 3) from by decide +kernel) (tgt := 41) (by decide) ?_
            refine x_run C e_X11_fill_3 e_X11_fill_3_k (pc' := 48) (lv' := [(0, .ref 14), (1, .int a1), (2, .int a2), (3, .long a3)]) (st' := [.int 2]) (σ' := ((xup M 14 0 2), L)) rfl ⟨trivial, trivial, trivial, trivial⟩ ?_
            have hI22 : Inv INVM (xup M 14 0 2) := (hI.fld 14 0 2 (by decide))
            refine x_if_le C (show decode cX11_fill 48 = .ok (.ifCond .le 4, 3) from by decide +kernel) (tgt := 52) (by decide) (fun c23 => absurd c23 (by decide)) (fun c23 => ?_)
            subst h
            exact x_vret C (show decode cX11_fill 51 = .ok (.return_, 1) from by decide +kernel) (x_finV ⟨⟨rfl, rfl⟩, hI22⟩) (Nat.le_refl 0) (Nat.le_refl 0)
    · rw [if_neg c6] at h
      have g24 : xrg 5 2147483647 a2 := (x_c_nle g5 (x_rgc (x := 4) (k := 4) (by decide)) c6).1
      refine x_run C e_X11_fill_2 e_X11_fill_2_k (pc' := 12) (lv' := [(0, .ref 14), (1, .int a1), (2, .int a2), (3, .long a3)]) (st' := [.int 1, .ref 14]) (σ' := (M, L)) rfl ⟨trivial, trivial⟩ ?_
      refine x_goto C (show decode cX11_fill 12 = .ok (.goto 29, 3) from by decide +kernel) (tgt := 41) (by decide) ?_
      refine x_run C e_X11_fill_3 e_X11_fill_3_k (pc' := 48) (lv' := [(0, .ref 14), (1, .int a1), (2, .int a2), (3, .long a3)]) (st' := [.int 1]) (σ' := ((xup M 14 0 1), L)) rfl ⟨trivial, trivial, trivial, trivial⟩ ?_
      have hI25 : Inv INVM (xup M 14 0 1) := (hI.fld 14 0 1 (by decide))
      refine x_if_le C (show decode cX11_fill 48 = .ok (.ifCond .le 4, 3) from by decide +kernel) (tgt := 52) (by decide) (fun c26 => absurd c26 (by decide)) (fun c26 => ?_)
      subst h
      exact x_vret C (show decode cX11_fill 51 = .ok (.return_, 1) from by decide +kernel) (x_finV ⟨⟨rfl, rfl⟩, hI25⟩) (Nat.le_refl 0) (Nat.le_refl 0)
