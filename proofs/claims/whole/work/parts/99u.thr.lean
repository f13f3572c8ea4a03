/-! the methods of the class that may throw -/
theorem pw_pos {a n : Int32} (h : ¬ f_X10_isPlaceOfWords a n = 0) : ¬ a < 0 ∧ ¬ (2048 - (2 * n)) < a := by
  unfold f_X10_isPlaceOfWords at h
  by_cases c1 : a < 0
  · rw [if_pos c1] at h; exact absurd rfl h
  · rw [if_neg c1] at h
    by_cases c2 : (2048 - (2 * n)) < a
    · rw [if_pos c2] at h; exact absurd rfl h
    · exact ⟨c1, c2⟩
theorem pw_rng {a : Int32} (h : ¬ f_X10_isPlaceOfWords a 1 = 0) : xrg 0 2046 a := by
  obtain ⟨c1, c2⟩ := pw_pos h
  rw [Int32.not_lt, Int32.le_iff_toInt_le] at c1 c2
  exact ⟨c1, c2⟩
theorem pw_in {a n : Int32} (wn : xrg 1 4 n) (h : ¬ f_X10_isPlaceOfWords a n = 0) : xrg 0 2147483647 a ∧ a.toInt + 2 * n.toInt ≤ 2048 := by
  obtain ⟨c1, c2⟩ := pw_pos h
  have w : xrg 0 2147483647 a := ⟨by rw [Int32.not_lt, Int32.le_iff_toInt_le] at c1; exact c1, by have := Int32.toInt_lt a; omega⟩
  exact ⟨w, fill_in w wn c2⟩
theorem fill_i2 {x1 x2 x5 : Int32} (w1 : xrg 0 2147483647 x1) (w2 : xrg 1 4 x2) (w5 : xrg 0 4 x5) (wr : x1.toInt + 2 * x2.toInt ≤ 2048) (c : ¬ x2 ≤ x5) : xrg 0 2046 (x1 + (2 * x5)) := by
  obtain ⟨i, hi, rfl⟩ := nnI w1.1
  obtain ⟨j, hj, rfl⟩ := nnI w5.1
  obtain ⟨k, hk, rfl⟩ := nnI (a := x2) (by have := w2.1; omega)
  have h1 := w2.1
  have h2 := w2.2
  rw [nI_toInt hk] at h1 h2
  have hc : ¬ k ≤ j := fun x => c ((nI_leI hk hj).mpr x)
  have e : (2 : Int32) * nI j = nI (2 * j) := by
    rcases (show j = 0 ∨ j = 1 ∨ j = 2 ∨ j = 3 by omega) with rfl | rfl | rfl | rfl <;> decide
  rw [nI_toInt hi, nI_toInt hk] at wr
  rw [e, nI_add]
  exact xrg_nI (by omega) (by omega)
-- X10_fence
abbrev T_X10_fence (r : Int32 × St) : String → Prop := fun E => (E = "java/lang/IndexOutOfBoundsException" ∧ r.1 = 1)
theorem th_X10_fence_11 : xthr cX10_fence yX10_fence.cls "java/lang/IndexOutOfBoundsException" 38 40 11 := ⟨by decide +kernel, by decide +kernel, by decide +kernel, by decide +kernel, vf0.1, vt0, vn0, by decide +kernel, by decide +kernel⟩
def e_X10_fence_1 : List xI := [(0, .iload_n 1, 1, .null)]
theorem e_X10_fence_1_k : e_X10_fence_1.all (fun q => xokB cX10_fence q && xokL q) = true := by decide +kernel
def e_X10_fence_2 : List xI := [(4, .iload_n 1, 1, .null), (5, .sipush 2048, 3, .int 2048)]
theorem e_X10_fence_2_k : e_X10_fence_2.all (fun q => xokB cX10_fence q && xokL q) = true := by decide +kernel
def e_X10_fence_3 : List xI := [(19, .aload_n 0, 1, .null), (20, .getfield 21, 3, .null), (23, .iload_n 1, 1, .null), (24, .putfield 48, 3, .null)]
theorem e_X10_fence_3_k : e_X10_fence_3.all (fun q => xokB cX10_fence q && xokL q) = true := by decide +kernel
abbrev P_X10_fence (r : Int32 × St) (L : Nat → Nat → Int64) : Option Value → xG → Prop := fun v σ' => r.1 = 0 ∧ PoV r.2 L v σ' ∧ InvK INVC r.2
abbrev R_X10_fence : Room := { frames := 6, cells := 1, slots := 6, locals := 81 }
abbrev C_X10_fence (l : Launch) (r : Int32 × St) (L : Nat → Nat → Int64) (V : XJ) : Prop := XC l yX10_fence.cls yX10_fence.name cX10_fence 2 R_X10_fence 1 6 fl_X10 kc_X10 LAY.length (xfin none LAY (P_X10_fence r L)) V
def f_X10_fence (a1 : Int32) (M : St) : Int32 × St := (if a1 < 0 then (1, M) else (if a1 ≤ 2048 then (0, (xup M 4 6 a1)) else (1, M)))
set_option maxRecDepth 20000 in
set_option maxHeartbeats 4000000 in
theorem k_X10_fence (l : Launch) (hst : l.stackTraces = false) (a1 : Int32) (M : St) (L : Nat → Nat → Int64) (hI : InvK INVC M) : XMX l yX10_fence cX10_fence 2 none R_X10_fence LAY [.ref 0, .int a1] (M, L) (P_X10_fence (f_X10_fence a1 M) L) (T_X10_fence (f_X10_fence a1 M)) := by
  refine XMX.of hst (by decide) (Nat.le_of_ble_eq_true rfl) LAY_in cl_ok fl_X10_ok kc_X10_ok (by decide) (by decide) (by decide) (by decide) (fun V C hth => ?_)
  obtain ⟨r, h⟩ : ∃ r, f_X10_fence a1 M = r := ⟨_, rfl⟩
  rw [h] at C hth
  change C_X10_fence l r L V at C
  unfold f_X10_fence at h
  show V 0 0 0 [(0, .ref 0), (1, .int a1)] [] LAY (M, L)
  refine x_run C e_X10_fence_1 e_X10_fence_1_k (pc' := 1) (lv' := [(0, .ref 0), (1, .int a1)]) (st' := [.int a1]) (σ' := (M, L)) rfl ⟨trivial, trivial⟩ ?_
  refine x_if_lt C (show decode cX10_fence 1 = .ok (.ifCond .lt 10, 3) from by decide +kernel) (tgt := 11) (by decide) (fun c1 => ?_) (fun c1 => ?_)
  · rw [if_pos c1] at h
    have g2 : xrg (-2147483648) (-1) a1 := (x_c_lt (x_rgt a1) (x_rgc (x := 0) (k := 0) (by decide)) c1).1
    subst h
    exact hth 11 38 40 "java/lang/IndexOutOfBoundsException" _ th_X10_fence_11 ⟨rfl, rfl⟩
  · rw [if_neg c1] at h
    have g3 : xrg 0 2147483647 a1 := (x_c_nlt (x_rgt a1) (x_rgc (x := 0) (k := 0) (by decide)) c1).1
    refine x_run C e_X10_fence_2 e_X10_fence_2_k (pc' := 8) (lv' := [(0, .ref 0), (1, .int a1)]) (st' := [.int 2048, .int a1]) (σ' := (M, L)) rfl ⟨trivial, trivial, trivial⟩ ?_
    refine x_icmp_le C (show decode cX10_fence 8 = .ok (.if_icmp .le 11, 3) from by decide +kernel) (tgt := 19) (by decide) (fun c4 => ?_) (fun c4 => ?_)
    · rw [if_pos c4] at h
      have g5 : xrg 0 2048 a1 := (x_c_le g3 (x_rgc (x := 2048) (k := 2048) (by decide)) c4).1
      refine x_run C e_X10_fence_3 e_X10_fence_3_k (pc' := 27) (lv' := [(0, .ref 0), (1, .int a1)]) (st' := []) (σ' := ((xup M 4 6 a1), L)) rfl ⟨trivial, trivial, trivial, trivial, trivial⟩ ?_
      have hI6 : InvK INVC (xup M 4 6 a1) := (hI.fld 4 6 a1 (by decide))
      subst h
      exact x_vret C (show decode cX10_fence 27 = .ok (.return_, 1) from by decide +kernel) (x_finV ⟨rfl, ⟨rfl, rfl⟩, hI6⟩) (by decide) (by decide)
    · rw [if_neg c4] at h
      have g7 : xrg 2049 2147483647 a1 := (x_c_nle g3 (x_rgc (x := 2048) (k := 2048) (by decide)) c4).1
      subst h
      exact hth 11 38 40 "java/lang/IndexOutOfBoundsException" _ th_X10_fence_11 ⟨rfl, rfl⟩
-- X10_level
abbrev T_X10_level (r : Int32 × St) : String → Prop := fun E => (E = "java/lang/IllegalArgumentException" ∧ r.1 = 1)
theorem th_X10_level_10 : xthr cX10_level yX10_level.cls "java/lang/IllegalArgumentException" 45 47 10 := ⟨by decide +kernel, by decide +kernel, by decide +kernel, by decide +kernel, vf0.2.1, vt1, vn1, by decide +kernel, by decide +kernel⟩
def e_X10_level_1 : List xI := [(0, .iload_n 1, 1, .null)]
theorem e_X10_level_1_k : e_X10_level_1.all (fun q => xokB cX10_level q && xokL q) = true := by decide +kernel
def e_X10_level_2 : List xI := [(4, .iload_n 1, 1, .null), (5, .bipush 7, 2, .int 7)]
theorem e_X10_level_2_k : e_X10_level_2.all (fun q => xokB cX10_level q && xokL q) = true := by decide +kernel
def e_X10_level_3 : List xI := [(18, .aload_n 0, 1, .null), (19, .getfield 30, 3, .null), (22, .iload_n 1, 1, .null), (23, .putfield 66, 3, .null)]
theorem e_X10_level_3_k : e_X10_level_3.all (fun q => xokB cX10_level q && xokL q) = true := by decide +kernel
abbrev P_X10_level (r : Int32 × St) (L : Nat → Nat → Int64) : Option Value → xG → Prop := fun v σ' => r.1 = 0 ∧ PoV r.2 L v σ' ∧ InvK INVC r.2
abbrev R_X10_level : Room := { frames := 6, cells := 1, slots := 6, locals := 81 }
abbrev C_X10_level (l : Launch) (r : Int32 × St) (L : Nat → Nat → Int64) (V : XJ) : Prop := XC l yX10_level.cls yX10_level.name cX10_level 2 R_X10_level 1 6 fl_X10 kc_X10 LAY.length (xfin none LAY (P_X10_level r L)) V
def f_X10_level (a1 : Int32) (M : St) : Int32 × St := (if a1 < 0 then (1, M) else (if a1 ≤ 7 then (0, (xup M 8 9 a1)) else (1, M)))
set_option maxRecDepth 20000 in
set_option maxHeartbeats 4000000 in
theorem k_X10_level (l : Launch) (hst : l.stackTraces = false) (a1 : Int32) (M : St) (L : Nat → Nat → Int64) (hI : InvK INVC M) : XMX l yX10_level cX10_level 2 none R_X10_level LAY [.ref 0, .int a1] (M, L) (P_X10_level (f_X10_level a1 M) L) (T_X10_level (f_X10_level a1 M)) := by
  refine XMX.of hst (by decide) (Nat.le_of_ble_eq_true rfl) LAY_in cl_ok fl_X10_ok kc_X10_ok (by decide) (by decide) (by decide) (by decide) (fun V C hth => ?_)
  obtain ⟨r, h⟩ : ∃ r, f_X10_level a1 M = r := ⟨_, rfl⟩
  rw [h] at C hth
  change C_X10_level l r L V at C
  unfold f_X10_level at h
  show V 0 0 0 [(0, .ref 0), (1, .int a1)] [] LAY (M, L)
  refine x_run C e_X10_level_1 e_X10_level_1_k (pc' := 1) (lv' := [(0, .ref 0), (1, .int a1)]) (st' := [.int a1]) (σ' := (M, L)) rfl ⟨trivial, trivial⟩ ?_
  refine x_if_lt C (show decode cX10_level 1 = .ok (.ifCond .lt 9, 3) from by decide +kernel) (tgt := 10) (by decide) (fun c1 => ?_) (fun c1 => ?_)
  · rw [if_pos c1] at h
    have g2 : xrg (-2147483648) (-1) a1 := (x_c_lt (x_rgt a1) (x_rgc (x := 0) (k := 0) (by decide)) c1).1
    subst h
    exact hth 10 45 47 "java/lang/IllegalArgumentException" _ th_X10_level_10 ⟨rfl, rfl⟩
  · rw [if_neg c1] at h
    have g3 : xrg 0 2147483647 a1 := (x_c_nlt (x_rgt a1) (x_rgc (x := 0) (k := 0) (by decide)) c1).1
    refine x_run C e_X10_level_2 e_X10_level_2_k (pc' := 7) (lv' := [(0, .ref 0), (1, .int a1)]) (st' := [.int 7, .int a1]) (σ' := (M, L)) rfl ⟨trivial, trivial, trivial⟩ ?_
    refine x_icmp_le C (show decode cX10_level 7 = .ok (.if_icmp .le 11, 3) from by decide +kernel) (tgt := 18) (by decide) (fun c4 => ?_) (fun c4 => ?_)
    · rw [if_pos c4] at h
      have g5 : xrg 0 7 a1 := (x_c_le g3 (x_rgc (x := 7) (k := 7) (by decide)) c4).1
      refine x_run C e_X10_level_3 e_X10_level_3_k (pc' := 26) (lv' := [(0, .ref 0), (1, .int a1)]) (st' := []) (σ' := ((xup M 8 9 a1), L)) rfl ⟨trivial, trivial, trivial, trivial, trivial⟩ ?_
      have hI6 : InvK INVC (xup M 8 9 a1) := (hI.set 8 9 g5 (by decide))
      subst h
      exact x_vret C (show decode cX10_level 26 = .ok (.return_, 1) from by decide +kernel) (x_finV ⟨rfl, ⟨rfl, rfl⟩, hI6⟩) (by decide) (by decide)
    · rw [if_neg c4] at h
      have g7 : xrg 8 2147483647 a1 := (x_c_nle g3 (x_rgc (x := 7) (k := 7) (by decide)) c4).1
      subst h
      exact hth 10 45 47 "java/lang/IllegalArgumentException" _ th_X10_level_10 ⟨rfl, rfl⟩
-- X10_get
abbrev T_X10_get (r : Int32 × Int32 × St) : String → Prop := fun E => (E = "java/lang/IndexOutOfBoundsException" ∧ r.1 = 1)
theorem th_X10_get_10 : xthr cX10_get yX10_get.cls "java/lang/IndexOutOfBoundsException" 38 40 10 := ⟨by decide +kernel, by decide +kernel, by decide +kernel, by decide +kernel, vf0.1, vt0, vn0, by decide +kernel, by decide +kernel⟩
def e_X10_get_1 : List xI := [(0, .iload_n 1, 1, .null)]
theorem e_X10_get_1_k : e_X10_get_1.all (fun q => xokB cX10_get q && xokL q) = true := by decide +kernel
def e_X10_get_2 : List xI := [(4, .iload_n 1, 1, .null), (5, .bipush 19, 2, .int 19)]
theorem e_X10_get_2_k : e_X10_get_2.all (fun q => xokB cX10_get q && xokL q) = true := by decide +kernel
def e_X10_get_3 : List xI := [(18, .aload_n 0, 1, .null), (19, .getfield 12, 3, .null), (22, .getfield 80, 3, .null), (25, .iload_n 1, 1, .null), (26, .iaload, 1, .null)]
theorem e_X10_get_3_k : e_X10_get_3.all (fun q => xokB cX10_get q && xokL q) = true := by decide +kernel
abbrev P_X10_get (r : Int32 × Int32 × St) (L : Nat → Nat → Int64) : Option Value → xG → Prop := fun v σ' => r.1 = 0 ∧ PoI r.2.1 r.2.2 L v σ' ∧ True ∧ InvK INVC r.2.2
abbrev R_X10_get : Room := { frames := 6, cells := 1, slots := 6, locals := 81 }
abbrev C_X10_get (l : Launch) (r : Int32 × Int32 × St) (L : Nat → Nat → Int64) (V : XJ) : Prop := XC l yX10_get.cls yX10_get.name cX10_get 2 R_X10_get 1 6 fl_X10 kc_X10 LAY.length (xfin (some .int) LAY (P_X10_get r L)) V
def f_X10_get (a1 : Int32) (M : St) : Int32 × Int32 × St := (if a1 < 0 then (1, 0, M) else (if a1 < 19 then (0, (M 2 a1.toNatClampNeg), M) else (1, 0, M)))
set_option maxRecDepth 20000 in
set_option maxHeartbeats 4000000 in
theorem k_X10_get (l : Launch) (hst : l.stackTraces = false) (a1 : Int32) (M : St) (L : Nat → Nat → Int64) (hI : InvK INVC M) : XMX l yX10_get cX10_get 2 (some .int) R_X10_get LAY [.ref 0, .int a1] (M, L) (P_X10_get (f_X10_get a1 M) L) (T_X10_get (f_X10_get a1 M)) := by
  refine XMX.of hst (by decide) (Nat.le_of_ble_eq_true rfl) LAY_in cl_ok fl_X10_ok kc_X10_ok (by decide) (by decide) (by decide) (by decide) (fun V C hth => ?_)
  obtain ⟨r, h⟩ : ∃ r, f_X10_get a1 M = r := ⟨_, rfl⟩
  rw [h] at C hth
  change C_X10_get l r L V at C
  unfold f_X10_get at h
  show V 0 0 0 [(0, .ref 0), (1, .int a1)] [] LAY (M, L)
  refine x_run C e_X10_get_1 e_X10_get_1_k (pc' := 1) (lv' := [(0, .ref 0), (1, .int a1)]) (st' := [.int a1]) (σ' := (M, L)) rfl ⟨trivial, trivial⟩ ?_
  refine x_if_lt C (show decode cX10_get 1 = .ok (.ifCond .lt 9, 3) from by decide +kernel) (tgt := 10) (by decide) (fun c1 => ?_) (fun c1 => ?_)
  · rw [if_pos c1] at h
    have g2 : xrg (-2147483648) (-1) a1 := (x_c_lt (x_rgt a1) (x_rgc (x := 0) (k := 0) (by decide)) c1).1
    subst h
    exact hth 10 38 40 "java/lang/IndexOutOfBoundsException" _ th_X10_get_10 ⟨rfl, rfl⟩
  · rw [if_neg c1] at h
    have g3 : xrg 0 2147483647 a1 := (x_c_nlt (x_rgt a1) (x_rgc (x := 0) (k := 0) (by decide)) c1).1
    refine x_run C e_X10_get_2 e_X10_get_2_k (pc' := 7) (lv' := [(0, .ref 0), (1, .int a1)]) (st' := [.int 19, .int a1]) (σ' := (M, L)) rfl ⟨trivial, trivial, trivial⟩ ?_
    refine x_icmp_lt C (show decode cX10_get 7 = .ok (.if_icmp .lt 11, 3) from by decide +kernel) (tgt := 18) (by decide) (fun c4 => ?_) (fun c4 => ?_)
    · rw [if_pos c4] at h
      have g5 : xrg 0 18 a1 := (x_c_lt g3 (x_rgc (x := 19) (k := 19) (by decide)) c4).1
      refine x_run C e_X10_get_3 e_X10_get_3_k (pc' := 27) (lv' := [(0, .ref 0), (1, .int a1)]) (st' := [.int (M 2 a1.toNatClampNeg)]) (σ' := (M, L)) rfl ⟨trivial, trivial, trivial, trivial, (x_rgv g5 (by decide) (by decide)), trivial⟩ ?_
      subst h
      exact x_iret C (show decode cX10_get 27 = .ok (.ireturn, 1) from by decide +kernel) (x_finI rfl ⟨rfl, ⟨rfl, rfl⟩, trivial, hI⟩) (by decide) (by decide)
    · rw [if_neg c4] at h
      have g6 : xrg 19 2147483647 a1 := (x_c_nlt g3 (x_rgc (x := 19) (k := 19) (by decide)) c4).1
      subst h
      exact hth 10 38 40 "java/lang/IndexOutOfBoundsException" _ th_X10_get_10 ⟨rfl, rfl⟩
-- X10_put
abbrev T_X10_put (r : Int32 × St) : String → Prop := fun E => (E = "java/lang/IndexOutOfBoundsException" ∧ r.1 = 1)
theorem th_X10_put_8 : xthr cX10_put yX10_put.cls "java/lang/IndexOutOfBoundsException" 38 40 8 := ⟨by decide +kernel, by decide +kernel, by decide +kernel, by decide +kernel, vf0.1, vt0, vn0, by decide +kernel, by decide +kernel⟩
def e_X10_put_1 : List xI := [(0, .iload_n 1, 1, .null), (1, .iconst 1, 1, .int 1)]
theorem e_X10_put_1_k : e_X10_put_1.all (fun q => xokB cX10_put q && xokL q) = true := by decide +kernel
def e_X10_put_2 : List xI := [(16, .aload_n 0, 1, .null), (17, .getfield 21, 3, .null), (20, .iload_n 1, 1, .null), (21, .iload_n 2, 1, .null)]
theorem e_X10_put_2_k : e_X10_put_2.all (fun q => xokB cX10_put q && xokL q) = true := by decide +kernel
abbrev P_X10_put (r : Int32 × St) (L : Nat → Nat → Int64) : Option Value → xG → Prop := fun v σ' => r.1 = 0 ∧ PoV r.2 L v σ' ∧ InvK INVC r.2
abbrev R_X10_put : Room := { frames := 6, cells := 1, slots := 6, locals := 81 }
abbrev C_X10_put (l : Launch) (r : Int32 × St) (L : Nat → Nat → Int64) (V : XJ) : Prop := XC l yX10_put.cls yX10_put.name cX10_put 3 R_X10_put 1 6 fl_X10 kc_X10 LAY.length (xfin none LAY (P_X10_put r L)) V
def f_X10_put (a1 : Int32) (a2 : Int32) (M : St) : Int32 × St := (if (f_X10_isPlaceOfWords a1 1) = 0 then (1, M) else (xb (f_X2_store a1 a2 M) fun q6 => (0, q6)))
set_option maxRecDepth 20000 in
set_option maxHeartbeats 4000000 in
theorem k_X10_put (l : Launch) (hst : l.stackTraces = false) (a1 : Int32) (a2 : Int32) (M : St) (L : Nat → Nat → Int64) (hI : InvK INVC M) : XMX l yX10_put cX10_put 3 none R_X10_put LAY [.ref 0, .int a1, .int a2] (M, L) (P_X10_put (f_X10_put a1 a2 M) L) (T_X10_put (f_X10_put a1 a2 M)) := by
  refine XMX.of hst (by decide) (Nat.le_of_ble_eq_true rfl) LAY_in cl_ok fl_X10_ok kc_X10_ok (by decide) (by decide) (by decide) (by decide) (fun V C hth => ?_)
  obtain ⟨r, h⟩ : ∃ r, f_X10_put a1 a2 M = r := ⟨_, rfl⟩
  rw [h] at C hth
  change C_X10_put l r L V at C
  unfold f_X10_put at h
  show V 0 0 0 [(0, .ref 0), (1, .int a1), (2, .int a2)] [] LAY (M, L)
  refine x_run C e_X10_put_1 e_X10_put_1_k (pc' := 2) (lv' := [(0, .ref 0), (1, .int a1), (2, .int a2)]) (st' := [.int 1, .int a1]) (σ' := (M, L)) rfl ⟨trivial, trivial, trivial⟩ ?_
  refine x_callS C (rest := []) (avs := [.int a1, .int 1]) (k_X10_isPlaceOfWords l a1 1 M L) yoX10_isPlaceOfWords ml_X10_34 rfl ⟨Nat.zero_le _, Nat.zero_le _⟩ (show decode cX10_put 2 = .ok (.invokestatic 34, 3) from by decide +kernel) rfl (fun v σ' hPo => ?_)
  obtain ⟨⟨rfl, rfl⟩, g2, -⟩ := hPo
  show V 0 0 5 [(0, .ref 0), (1, .int a1), (2, .int a2)] [.int (f_X10_isPlaceOfWords a1 1)] LAY (M, L)
  refine x_if_ne C (show decode cX10_put 5 = .ok (.ifCond .ne 11, 3) from by decide +kernel) (tgt := 16) (by decide) (fun c4 => ?_) (fun c4 => ?_)
  · rw [if_neg c4] at h
    have g5 : xrg 1 1 (f_X10_isPlaceOfWords a1 1) := (x_c_ne g2 (by decide) c4)
    refine x_run C e_X10_put_2 e_X10_put_2_k (pc' := 22) (lv' := [(0, .ref 0), (1, .int a1), (2, .int a2)]) (st' := [.int a2, .int a1, .ref 4]) (σ' := (M, L)) rfl ⟨trivial, trivial, trivial, trivial, trivial⟩ ?_
    refine x_callV C (k := 4) (ci := 1) (rest := []) (avs := [.int a1, .int a2]) (k_X2_store l a1 a2 M L (pw_rng c4) hI) yoX2_store ml_X10_41 rfl rfl rfl rfl ⟨Nat.zero_le _, Nat.zero_le _⟩ (show decode cX10_put 22 = .ok (.invokevirtual 41, 3) from by decide +kernel) rfl (fun v σ' hPo => ?_)
    obtain ⟨⟨rfl, rfl⟩, hI8⟩ := hPo
    generalize hq6 : f_X2_store a1 a2 M = q6 at h hI8 ⊢
    have h := xb_eq h
    show V 0 0 25 [(0, .ref 0), (1, .int a1), (2, .int a2)] [] LAY (q6, L)
    subst h
    exact x_vret C (show decode cX10_put 25 = .ok (.return_, 1) from by decide +kernel) (x_finV ⟨rfl, ⟨rfl, rfl⟩, hI8⟩) (by decide) (by decide)
  · rw [if_pos c4] at h
    have g9 : xrg 0 0 (f_X10_isPlaceOfWords a1 1) := (x_c_eq g2 (x_rgc (x := 0) (k := 0) (by decide)) c4).1
    subst h
    exact hth 8 38 40 "java/lang/IndexOutOfBoundsException" _ th_X10_put_8 ⟨rfl, rfl⟩
-- X10_set
abbrev T_X10_set (r : Int32 × St) : String → Prop := fun E => (E = "java/lang/IndexOutOfBoundsException" ∧ r.1 = 1)
theorem th_X10_set_10 : xthr cX10_set yX10_set.cls "java/lang/IndexOutOfBoundsException" 38 40 10 := ⟨by decide +kernel, by decide +kernel, by decide +kernel, by decide +kernel, vf0.1, vt0, vn0, by decide +kernel, by decide +kernel⟩
def e_X10_set_1 : List xI := [(0, .iload_n 1, 1, .null)]
theorem e_X10_set_1_k : e_X10_set_1.all (fun q => xokB cX10_set q && xokL q) = true := by decide +kernel
def e_X10_set_2 : List xI := [(4, .iload_n 1, 1, .null), (5, .bipush 19, 2, .int 19)]
theorem e_X10_set_2_k : e_X10_set_2.all (fun q => xokB cX10_set q && xokL q) = true := by decide +kernel
def e_X10_set_3 : List xI := [(18, .iload_n 1, 1, .null), (19, .bipush 18, 2, .int 18)]
theorem e_X10_set_3_k : e_X10_set_3.all (fun q => xokB cX10_set q && xokL q) = true := by decide +kernel
def e_X10_set_4 : List xI := [(35, .aload_n 0, 1, .null), (36, .getfield 12, 3, .null), (39, .getfield 80, 3, .null), (42, .iload_n 1, 1, .null), (43, .iload_n 2, 1, .null), (44, .iastore, 1, .null)]
theorem e_X10_set_4_k : e_X10_set_4.all (fun q => xokB cX10_set q && xokL q) = true := by decide +kernel
def e_X10_set_5 : List xI := [(24, .aload_n 0, 1, .null), (25, .getfield 12, 3, .null), (28, .iload_n 2, 1, .null)]
theorem e_X10_set_5_k : e_X10_set_5.all (fun q => xokB cX10_set q && xokL q) = true := by decide +kernel
abbrev P_X10_set (r : Int32 × St) (L : Nat → Nat → Int64) : Option Value → xG → Prop := fun v σ' => r.1 = 0 ∧ PoV r.2 L v σ' ∧ InvK INVC r.2
abbrev R_X10_set : Room := { frames := 6, cells := 1, slots := 6, locals := 81 }
abbrev C_X10_set (l : Launch) (r : Int32 × St) (L : Nat → Nat → Int64) (V : XJ) : Prop := XC l yX10_set.cls yX10_set.name cX10_set 3 R_X10_set 1 6 fl_X10 kc_X10 LAY.length (xfin none LAY (P_X10_set r L)) V
def f_X10_set (a1 : Int32) (a2 : Int32) (M : St) : Int32 × St := (if a1 < 0 then (1, M) else (if a1 < 19 then (if a1 = 18 then (xb (f_X8_changeStatus a2 M) fun q10 => (0, q10)) else (0, (xup M 2 a1.toNatClampNeg a2))) else (1, M)))
set_option maxRecDepth 20000 in
set_option maxHeartbeats 4000000 in
theorem k_X10_set (l : Launch) (hst : l.stackTraces = false) (a1 : Int32) (a2 : Int32) (M : St) (L : Nat → Nat → Int64) (hI : InvK INVC M) : XMX l yX10_set cX10_set 3 none R_X10_set LAY [.ref 0, .int a1, .int a2] (M, L) (P_X10_set (f_X10_set a1 a2 M) L) (T_X10_set (f_X10_set a1 a2 M)) := by
  refine XMX.of hst (by decide) (Nat.le_of_ble_eq_true rfl) LAY_in cl_ok fl_X10_ok kc_X10_ok (by decide) (by decide) (by decide) (by decide) (fun V C hth => ?_)
  obtain ⟨r, h⟩ : ∃ r, f_X10_set a1 a2 M = r := ⟨_, rfl⟩
  rw [h] at C hth
  change C_X10_set l r L V at C
  unfold f_X10_set at h
  show V 0 0 0 [(0, .ref 0), (1, .int a1), (2, .int a2)] [] LAY (M, L)
  refine x_run C e_X10_set_1 e_X10_set_1_k (pc' := 1) (lv' := [(0, .ref 0), (1, .int a1), (2, .int a2)]) (st' := [.int a1]) (σ' := (M, L)) rfl ⟨trivial, trivial⟩ ?_
  refine x_if_lt C (show decode cX10_set 1 = .ok (.ifCond .lt 9, 3) from by decide +kernel) (tgt := 10) (by decide) (fun c1 => ?_) (fun c1 => ?_)
  · rw [if_pos c1] at h
    have g2 : xrg (-2147483648) (-1) a1 := (x_c_lt (x_rgt a1) (x_rgc (x := 0) (k := 0) (by decide)) c1).1
    subst h
    exact hth 10 38 40 "java/lang/IndexOutOfBoundsException" _ th_X10_set_10 ⟨rfl, rfl⟩
  · rw [if_neg c1] at h
    have g3 : xrg 0 2147483647 a1 := (x_c_nlt (x_rgt a1) (x_rgc (x := 0) (k := 0) (by decide)) c1).1
    refine x_run C e_X10_set_2 e_X10_set_2_k (pc' := 7) (lv' := [(0, .ref 0), (1, .int a1), (2, .int a2)]) (st' := [.int 19, .int a1]) (σ' := (M, L)) rfl ⟨trivial, trivial, trivial⟩ ?_
    refine x_icmp_lt C (show decode cX10_set 7 = .ok (.if_icmp .lt 11, 3) from by decide +kernel) (tgt := 18) (by decide) (fun c4 => ?_) (fun c4 => ?_)
    · rw [if_pos c4] at h
      have g5 : xrg 0 18 a1 := (x_c_lt g3 (x_rgc (x := 19) (k := 19) (by decide)) c4).1
      refine x_run C e_X10_set_3 e_X10_set_3_k (pc' := 21) (lv' := [(0, .ref 0), (1, .int a1), (2, .int a2)]) (st' := [.int 18, .int a1]) (σ' := (M, L)) rfl ⟨trivial, trivial, trivial⟩ ?_
      refine x_icmp_ne C (show decode cX10_set 21 = .ok (.if_icmp .ne 14, 3) from by decide +kernel) (tgt := 35) (by decide) (fun c6 => ?_) (fun c6 => ?_)
      · rw [if_neg c6] at h
        have g7 : xrg 0 17 a1 := (x_c_neh g5 (by decide) c6)
        refine x_run C e_X10_set_4 e_X10_set_4_k (pc' := 45) (lv' := [(0, .ref 0), (1, .int a1), (2, .int a2)]) (st' := []) (σ' := ((xup M 2 a1.toNatClampNeg a2), L)) rfl ⟨trivial, trivial, trivial, trivial, trivial, (x_rgv g7 (by decide) (by decide)), trivial⟩ ?_
        have hI8 : InvK INVC (xup M 2 a1.toNatClampNeg a2) := (hI.arr 2 (a1.toNatClampNeg) a2 (by decide))
        subst h
        exact x_vret C (show decode cX10_set 45 = .ok (.return_, 1) from by decide +kernel) (x_finV ⟨rfl, ⟨rfl, rfl⟩, hI8⟩) (by decide) (by decide)
      · rw [if_pos c6] at h
        have g9 : xrg 18 18 a1 := (x_c_eq g5 (x_rgc (x := 18) (k := 18) (by decide)) c6).1
        refine x_run C e_X10_set_5 e_X10_set_5_k (pc' := 29) (lv' := [(0, .ref 0), (1, .int a1), (2, .int a2)]) (st' := [.int a2, .ref 1]) (σ' := (M, L)) rfl ⟨trivial, trivial, trivial, trivial⟩ ?_
        refine x_callV C (k := 1) (ci := 6) (rest := []) (avs := [.int a2]) (k_X8_changeStatus l a2 M L hI) yoX8_changeStatus ml_X10_83 rfl rfl rfl rfl ⟨Nat.zero_le _, Nat.zero_le _⟩ (show decode cX10_set 29 = .ok (.invokevirtual 83, 3) from by decide +kernel) rfl (fun v σ' hPo => ?_)
        obtain ⟨⟨rfl, rfl⟩, hI12⟩ := hPo
        generalize hq10 : f_X8_changeStatus a2 M = q10 at h hI12 ⊢
        have h := xb_eq h
        show V 0 0 32 [(0, .ref 0), (1, .int a1), (2, .int a2)] [] LAY (q10, L)
        refine x_goto C (show decode cX10_set 32 = .ok (.goto 13, 3) from by decide +kernel) (tgt := 45) (by decide) ?_
        subst h
        exact x_vret C (show decode cX10_set 45 = .ok (.return_, 1) from by decide +kernel) (x_finV ⟨rfl, ⟨rfl, rfl⟩, hI12⟩) (by decide) (by decide)
    · rw [if_neg c4] at h
      have g13 : xrg 19 2147483647 a1 := (x_c_nlt g3 (x_rgc (x := 19) (k := 19) (by decide)) c4).1
      subst h
      exact hth 10 38 40 "java/lang/IndexOutOfBoundsException" _ th_X10_set_10 ⟨rfl, rfl⟩
-- X10_device
abbrev T_X10_device (r : Int32 × Int32 × St) : String → Prop := fun E => (E = "java/lang/IndexOutOfBoundsException" ∧ r.1 = 1)
theorem th_X10_device_84 : xthr cX10_device yX10_device.cls "java/lang/IndexOutOfBoundsException" 38 40 84 := ⟨by decide +kernel, by decide +kernel, by decide +kernel, by decide +kernel, vf0.1, vt0, vn0, by decide +kernel, by decide +kernel⟩
def e_X10_device_1 : List xI := [(0, .iload_n 1, 1, .null)]
theorem e_X10_device_1_k : e_X10_device_1.all (fun q => xokB cX10_device q && xokL q) = true := by decide +kernel
def e_X10_device_2 : List xI := [(36, .aload_n 0, 1, .null), (37, .getfield 21, 3, .null), (40, .getfield 90, 3, .null)]
theorem e_X10_device_2_k : e_X10_device_2.all (fun q => xokB cX10_device q && xokL q) = true := by decide +kernel
def e_X10_device_3 : List xI := [(44, .aload_n 0, 1, .null), (45, .getfield 21, 3, .null), (48, .getfield 93, 3, .null)]
theorem e_X10_device_3_k : e_X10_device_3.all (fun q => xokB cX10_device q && xokL q) = true := by decide +kernel
def e_X10_device_4 : List xI := [(52, .aload_n 0, 1, .null), (53, .getfield 21, 3, .null), (56, .getfield 96, 3, .null)]
theorem e_X10_device_4_k : e_X10_device_4.all (fun q => xokB cX10_device q && xokL q) = true := by decide +kernel
def e_X10_device_5 : List xI := [(66, .iconst 0, 1, .int 0)]
theorem e_X10_device_5_k : e_X10_device_5.all (fun q => xokB cX10_device q && xokL q) = true := by decide +kernel
def e_X10_device_6 : List xI := [(62, .iconst 1, 1, .int 1)]
theorem e_X10_device_6_k : e_X10_device_6.all (fun q => xokB cX10_device q && xokL q) = true := by decide +kernel
def e_X10_device_7 : List xI := [(68, .aload_n 0, 1, .null), (69, .getfield 21, 3, .null), (72, .getfield 99, 3, .null)]
theorem e_X10_device_7_k : e_X10_device_7.all (fun q => xokB cX10_device q && xokL q) = true := by decide +kernel
def e_X10_device_8 : List xI := [(76, .aload_n 0, 1, .null), (77, .getfield 21, 3, .null), (80, .getfield 73, 3, .null)]
theorem e_X10_device_8_k : e_X10_device_8.all (fun q => xokB cX10_device q && xokL q) = true := by decide +kernel
abbrev P_X10_device (r : Int32 × Int32 × St) (L : Nat → Nat → Int64) : Option Value → xG → Prop := fun v σ' => r.1 = 0 ∧ PoI r.2.1 r.2.2 L v σ' ∧ xrg 0 65535 r.2.1 ∧ InvK INVC r.2.2
abbrev R_X10_device : Room := { frames := 6, cells := 1, slots := 6, locals := 81 }
abbrev C_X10_device (l : Launch) (r : Int32 × Int32 × St) (L : Nat → Nat → Int64) (V : XJ) : Prop := XC l yX10_device.cls yX10_device.name cX10_device 2 R_X10_device 1 6 fl_X10 kc_X10 LAY.length (xfin (some .int) LAY (P_X10_device r L)) V
def f_X10_device (a1 : Int32) (M : St) : Int32 × Int32 × St := (if a1 = 0 then (0, (M 4 7), M) else (if a1 = 1 then (0, (M 4 8), M) else (if a1 = 2 then (if (M 4 9) = 0 then (0, 0, M) else (0, 1, M)) else (if a1 = 3 then (0, (M 4 4), M) else (if a1 = 4 then (0, (M 4 5), M) else (1, 0, M))))))
set_option maxRecDepth 20000 in
set_option maxHeartbeats 4000000 in
theorem k_X10_device (l : Launch) (hst : l.stackTraces = false) (a1 : Int32) (M : St) (L : Nat → Nat → Int64) (hI : InvK INVC M) : XMX l yX10_device cX10_device 2 (some .int) R_X10_device LAY [.ref 0, .int a1] (M, L) (P_X10_device (f_X10_device a1 M) L) (T_X10_device (f_X10_device a1 M)) := by
  refine XMX.of hst (by decide) (Nat.le_of_ble_eq_true rfl) LAY_in cl_ok fl_X10_ok kc_X10_ok (by decide) (by decide) (by decide) (by decide) (fun V C hth => ?_)
  obtain ⟨r, h⟩ : ∃ r, f_X10_device a1 M = r := ⟨_, rfl⟩
  rw [h] at C hth
  change C_X10_device l r L V at C
  unfold f_X10_device at h
  show V 0 0 0 [(0, .ref 0), (1, .int a1)] [] LAY (M, L)
  refine x_run C e_X10_device_1 e_X10_device_1_k (pc' := 1) (lv' := [(0, .ref 0), (1, .int a1)]) (st' := [.int a1]) (σ' := (M, L)) rfl ⟨trivial, trivial⟩ ?_
  by_cases c1 : a1 = 0
  · rw [if_pos c1] at h
    refine x_tin C (show decode cX10_device 1 = .ok (.tableswitch 83 0 4 #[35, 43, 51, 67, 75], 35) from by decide +kernel) 0 c1 (off := 35) (tgt := 36) (by decide) ?_
    refine x_run C e_X10_device_2 e_X10_device_2_k (pc' := 43) (lv' := [(0, .ref 0), (1, .int a1)]) (st' := [.int (M 4 7)]) (σ' := (M, L)) rfl ⟨trivial, trivial, trivial, trivial⟩ ?_
    subst h
    exact x_iret C (show decode cX10_device 43 = .ok (.ireturn, 1) from by decide +kernel) (x_finI rfl ⟨rfl, ⟨rfl, rfl⟩, (hI.at 3 rfl), hI⟩) (by decide) (by decide)
  rw [if_neg c1] at h
  by_cases c2 : a1 = 1
  · rw [if_pos c2] at h
    refine x_tin C (show decode cX10_device 1 = .ok (.tableswitch 83 0 4 #[35, 43, 51, 67, 75], 35) from by decide +kernel) 1 c2 (off := 43) (tgt := 44) (by decide) ?_
    refine x_run C e_X10_device_3 e_X10_device_3_k (pc' := 51) (lv' := [(0, .ref 0), (1, .int a1)]) (st' := [.int (M 4 8)]) (σ' := (M, L)) rfl ⟨trivial, trivial, trivial, trivial⟩ ?_
    subst h
    exact x_iret C (show decode cX10_device 51 = .ok (.ireturn, 1) from by decide +kernel) (x_finI rfl ⟨rfl, ⟨rfl, rfl⟩, (x_rgw (hI.at 4 rfl) (lo' := 0) (hi' := 65535) (by decide) (by decide)), hI⟩) (by decide) (by decide)
  rw [if_neg c2] at h
  by_cases c3 : a1 = 2
  · rw [if_pos c3] at h
    refine x_tin C (show decode cX10_device 1 = .ok (.tableswitch 83 0 4 #[35, 43, 51, 67, 75], 35) from by decide +kernel) 2 c3 (off := 51) (tgt := 52) (by decide) ?_
    refine x_run C e_X10_device_4 e_X10_device_4_k (pc' := 59) (lv' := [(0, .ref 0), (1, .int a1)]) (st' := [.int (M 4 9)]) (σ' := (M, L)) rfl ⟨trivial, trivial, trivial, trivial⟩ ?_
    refine x_if_eq C (show decode cX10_device 59 = .ok (.ifCond .eq 7, 3) from by decide +kernel) (tgt := 66) (by decide) (fun c4 => ?_) (fun c4 => ?_)
    · rw [if_pos c4] at h
      have g5 : xrg 0 0 (M 4 9) := (x_c_eq (x_rgt (M 4 9)) (x_rgc (x := 0) (k := 0) (by decide)) c4).1
      refine x_run C e_X10_device_5 e_X10_device_5_k (pc' := 67) (lv' := [(0, .ref 0), (1, .int a1)]) (st' := [.int 0]) (σ' := (M, L)) rfl ⟨trivial, trivial⟩ ?_
      subst h
      exact x_iret C (show decode cX10_device 67 = .ok (.ireturn, 1) from by decide +kernel) (x_finI rfl ⟨rfl, ⟨rfl, rfl⟩, (x_rgw (x_rgc (x := 0) (k := 0) (by decide)) (lo' := 0) (hi' := 65535) (by decide) (by decide)), hI⟩) (by decide) (by decide)
    · rw [if_neg c4] at h
      refine x_run C e_X10_device_6 e_X10_device_6_k (pc' := 63) (lv' := [(0, .ref 0), (1, .int a1)]) (st' := [.int 1]) (σ' := (M, L)) rfl ⟨trivial, trivial⟩ ?_
      refine x_goto C (show decode cX10_device 63 = .ok (.goto 4, 3) from by decide +kernel) (tgt := 67) (by decide) ?_
      subst h
      exact x_iret C (show decode cX10_device 67 = .ok (.ireturn, 1) from by decide +kernel) (x_finI rfl ⟨rfl, ⟨rfl, rfl⟩, (x_rgw (x_rgc (x := 1) (k := 1) (by decide)) (lo' := 0) (hi' := 65535) (by decide) (by decide)), hI⟩) (by decide) (by decide)
  rw [if_neg c3] at h
  by_cases c6 : a1 = 3
  · rw [if_pos c6] at h
    refine x_tin C (show decode cX10_device 1 = .ok (.tableswitch 83 0 4 #[35, 43, 51, 67, 75], 35) from by decide +kernel) 3 c6 (off := 67) (tgt := 68) (by decide) ?_
    refine x_run C e_X10_device_7 e_X10_device_7_k (pc' := 75) (lv' := [(0, .ref 0), (1, .int a1)]) (st' := [.int (M 4 4)]) (σ' := (M, L)) rfl ⟨trivial, trivial, trivial, trivial⟩ ?_
    subst h
    exact x_iret C (show decode cX10_device 75 = .ok (.ireturn, 1) from by decide +kernel) (x_finI rfl ⟨rfl, ⟨rfl, rfl⟩, (x_rgw (hI.at 1 rfl) (lo' := 0) (hi' := 65535) (by decide) (by decide)), hI⟩) (by decide) (by decide)
  rw [if_neg c6] at h
  by_cases c7 : a1 = 4
  · rw [if_pos c7] at h
    refine x_tin C (show decode cX10_device 1 = .ok (.tableswitch 83 0 4 #[35, 43, 51, 67, 75], 35) from by decide +kernel) 4 c7 (off := 75) (tgt := 76) (by decide) ?_
    refine x_run C e_X10_device_8 e_X10_device_8_k (pc' := 83) (lv' := [(0, .ref 0), (1, .int a1)]) (st' := [.int (M 4 5)]) (σ' := (M, L)) rfl ⟨trivial, trivial, trivial, trivial⟩ ?_
    subst h
    exact x_iret C (show decode cX10_device 83 = .ok (.ireturn, 1) from by decide +kernel) (x_finI rfl ⟨rfl, ⟨rfl, rfl⟩, (x_rgw (hI.at 2 rfl) (lo' := 0) (hi' := 65535) (by decide) (by decide)), hI⟩) (by decide) (by decide)
  rw [if_neg c7] at h
  have hz : a1.toInt < 0 ∨ 4 < a1.toInt := by
    have zc1 := lv_neT (a := 0) c1 (by decide)
    have zc2 := lv_neT (a := 1) c2 (by decide)
    have zc3 := lv_neT (a := 2) c3 (by decide)
    have zc6 := lv_neT (a := 3) c6 (by decide)
    have zc7 := lv_neT (a := 4) c7 (by decide)
    omega
  refine x_tout C (show decode cX10_device 1 = .ok (.tableswitch 83 0 4 #[35, 43, 51, 67, 75], 35) from by decide +kernel) hz (tgt := 84) (by decide) ?_
  subst h
  exact hth 84 38 40 "java/lang/IndexOutOfBoundsException" _ th_X10_device_84 ⟨rfl, rfl⟩
-- X10_step
abbrev T_X10_step (r : Int32 × Int32 × St) : String → Prop := fun E => (E = "java/lang/IllegalStateException" ∧ r.1 = 1)
theorem th_X10_step_10 : xthr cX10_step yX10_step.cls "java/lang/IllegalStateException" 59 61 10 := ⟨by decide +kernel, by decide +kernel, by decide +kernel, by decide +kernel, vf0.2.2.1, vt2, vn2, by decide +kernel, by decide +kernel⟩
def e_X10_step_1 : List xI := [(0, .aload_n 0, 1, .null), (1, .getfield 30, 3, .null), (4, .getfield 55, 3, .null)]
theorem e_X10_step_1_k : e_X10_step_1.all (fun q => xokB cX10_step q && xokL q) = true := by decide +kernel
def e_X10_step_2 : List xI := [(18, .aload_n 0, 1, .null), (19, .getfield 30, 3, .null)]
theorem e_X10_step_2_k : e_X10_step_2.all (fun q => xokB cX10_step q && xokL q) = true := by decide +kernel
abbrev P_X10_step (r : Int32 × Int32 × St) (L : Nat → Nat → Int64) : Option Value → xG → Prop := fun v σ' => r.1 = 0 ∧ PoI r.2.1 r.2.2 L v σ' ∧ xrg (-1) 47 r.2.1 ∧ InvK INVC r.2.2
abbrev R_X10_step : Room := { frames := 7, cells := 1, slots := 6, locals := 174 }
abbrev C_X10_step (l : Launch) (r : Int32 × Int32 × St) (L : Nat → Nat → Int64) (V : XJ) : Prop := XC l yX10_step.cls yX10_step.name cX10_step 1 R_X10_step 1 6 fl_X10 kc_X10 LAY.length (xfin (some .int) LAY (P_X10_step r L)) V
def f_X10_step (M : St) : Int32 × Int32 × St := (if (M 8 7) = 0 then (xb (f_X7_advance  M) fun q3 => (0, q3.1, q3.2)) else (1, 0, M))
set_option maxRecDepth 20000 in
set_option maxHeartbeats 4000000 in
theorem k_X10_step (l : Launch) (hst : l.stackTraces = false) (M : St) (L : Nat → Nat → Int64) (hI : InvK INVC M) : XMX l yX10_step cX10_step 1 (some .int) R_X10_step LAY [.ref 0] (M, L) (P_X10_step (f_X10_step M) L) (T_X10_step (f_X10_step M)) := by
  refine XMX.of hst (by decide) (Nat.le_of_ble_eq_true rfl) LAY_in cl_ok fl_X10_ok kc_X10_ok (by decide) (by decide) (by decide) (by decide) (fun V C hth => ?_)
  obtain ⟨r, h⟩ : ∃ r, f_X10_step M = r := ⟨_, rfl⟩
  rw [h] at C hth
  change C_X10_step l r L V at C
  unfold f_X10_step at h
  show V 0 0 0 [(0, .ref 0)] [] LAY (M, L)
  refine x_run C e_X10_step_1 e_X10_step_1_k (pc' := 7) (lv' := [(0, .ref 0)]) (st' := [.int (M 8 7)]) (σ' := (M, L)) rfl ⟨trivial, trivial, trivial, trivial⟩ ?_
  refine x_if_eq C (show decode cX10_step 7 = .ok (.ifCond .eq 11, 3) from by decide +kernel) (tgt := 18) (by decide) (fun c1 => ?_) (fun c1 => ?_)
  · rw [if_pos c1] at h
    have g2 : xrg 0 0 (M 8 7) := (x_c_eq (x_rgt (M 8 7)) (x_rgc (x := 0) (k := 0) (by decide)) c1).1
    refine x_run C e_X10_step_2 e_X10_step_2_k (pc' := 22) (lv' := [(0, .ref 0)]) (st' := [.ref 8]) (σ' := (M, L)) rfl ⟨trivial, trivial, trivial⟩ ?_
    refine x_callV C (k := 8) (ci := 5) (rest := []) (avs := []) (k_X7_advance l  M L hI) yoX7_advance ml_X10_62 rfl rfl rfl rfl ⟨Nat.zero_le _, Nat.zero_le _⟩ (show decode cX10_step 22 = .ok (.invokevirtual 62, 3) from by decide +kernel) rfl (fun v σ' hPo => ?_)
    obtain ⟨⟨rfl, rfl⟩, g4, hI5⟩ := hPo
    generalize hq3 : f_X7_advance  M = q3 at h g4 hI5 ⊢
    obtain ⟨r3, M3⟩ := q3
    have h := xb_eq h
    try dsimp only at h g4 hI5
    show V 0 0 25 [(0, .ref 0)] [.int r3] LAY (M3, L)
    subst h
    exact x_iret C (show decode cX10_step 25 = .ok (.ireturn, 1) from by decide +kernel) (x_finI rfl ⟨rfl, ⟨rfl, rfl⟩, g4, hI5⟩) (by decide) (by decide)
  · rw [if_neg c1] at h
    subst h
    exact hth 10 59 61 "java/lang/IllegalStateException" _ th_X10_step_10 ⟨rfl, rfl⟩
-- X10_run
abbrev T_X10_run (r : Int32 × Int32 × St) : String → Prop := fun E => (E = "java/lang/IllegalArgumentException" ∧ r.1 = 1)
theorem th_X10_run_10 : xthr cX10_run yX10_run.cls "java/lang/IllegalArgumentException" 45 47 10 := ⟨by decide +kernel, by decide +kernel, by decide +kernel, by decide +kernel, vf0.2.1, vt1, vn1, by decide +kernel, by decide +kernel⟩
def e_X10_run_1 : List xI := [(0, .iload_n 1, 1, .null)]
theorem e_X10_run_1_k : e_X10_run_1.all (fun q => xokB cX10_run q && xokL q) = true := by decide +kernel
def e_X10_run_2 : List xI := [(4, .iload_n 1, 1, .null), (5, .bipush 50, 2, .int 50)]
theorem e_X10_run_2_k : e_X10_run_2.all (fun q => xokB cX10_run q && xokL q) = true := by decide +kernel
def e_X10_run_3 : List xI := [(18, .iconst 0, 1, .int 0), (19, .istore_n 2, 1, .null)]
theorem e_X10_run_3_k : e_X10_run_3.all (fun q => xokB cX10_run q && xokL q) = true := by decide +kernel
def e_X10_run_4 : List xI := [(20, .iload_n 2, 1, .null), (21, .iload_n 1, 1, .null)]
theorem e_X10_run_4_k : e_X10_run_4.all (fun q => xokB cX10_run q && xokL q) = true := by decide +kernel
def e_X10_run_5 : List xI := [(49, .iload_n 2, 1, .null)]
theorem e_X10_run_5_k : e_X10_run_5.all (fun q => xokB cX10_run q && xokL q) = true := by decide +kernel
def e_X10_run_6 : List xI := [(25, .aload_n 0, 1, .null), (26, .getfield 30, 3, .null), (29, .getfield 55, 3, .null)]
theorem e_X10_run_6_k : e_X10_run_6.all (fun q => xokB cX10_run q && xokL q) = true := by decide +kernel
def e_X10_run_7 : List xI := [(35, .aload_n 0, 1, .null), (36, .getfield 30, 3, .null)]
theorem e_X10_run_7_k : e_X10_run_7.all (fun q => xokB cX10_run q && xokL q) = true := by decide +kernel
def e_X10_run_8 : List xI := [(42, .pop, 1, .null), (43, .iinc 2 1, 3, .null)]
theorem e_X10_run_8_k : e_X10_run_8.all (fun q => xokB cX10_run q && xokL q) = true := by decide +kernel
abbrev P_X10_run (r : Int32 × Int32 × St) (L : Nat → Nat → Int64) : Option Value → xG → Prop := fun v σ' => r.1 = 0 ∧ PoI r.2.1 r.2.2 L v σ' ∧ xrg 0 63 r.2.1 ∧ InvK INVC r.2.2
abbrev R_X10_run : Room := { frames := 7, cells := 1, slots := 6, locals := 174 }
abbrev C_X10_run (l : Launch) (r : Int32 × Int32 × St) (L : Nat → Nat → Int64) (V : XJ) : Prop := XC l yX10_run.cls yX10_run.name cX10_run 3 R_X10_run 1 6 fl_X10 kc_X10 LAY.length (xfin (some .int) LAY (P_X10_run r L)) V
def f_X10_run_20 : Nat → Int32 → Int32 → St → Int32 × Int32 × St
  | 0, x1, x2, M => (0, 0, M)
  | n + 1, x1, x2, M => (if x1 ≤ x2 then (0, x2, M) else (if (M 8 7) = 0 then (xb (f_X7_advance  M) fun q13 => f_X10_run_20 n x1 (x2 + 1) q13.2) else (0, x2, M)))
def f_X10_run (a1 : Int32) (M : St) : Int32 × Int32 × St := (if a1 < 0 then (1, 0, M) else (if a1 ≤ 50 then f_X10_run_20 (((a1).toInt - (0 : Int32).toInt).toNat + 1) a1 0 M else (1, 0, M)))
set_option maxRecDepth 20000 in
set_option maxHeartbeats 4000000 in
theorem b_X10_run_20 {l : Launch} {L : Nat → Nat → Int64} {V : XJ} (r : Int32 × Int32 × St) (C : C_X10_run l r L V) : ∀ (n : Nat) (x1 : Int32) (x2 : Int32) (M : St), xrg 0 50 x1 → xrg 0 63 x2 → InvK INVC M → ((x1).toInt - x2.toInt).toNat < n → f_X10_run_20 n x1 x2 M = r → V 0 0 20 [(0, .ref 0), (1, .int x1), (2, .int x2)] [] LAY (M, L) := by
  intro n
  induction n with
  | zero => intro x1 x2 M  wx1 wx2 hI hm; exact absurd hm (Nat.not_lt_zero _)
  | succ n ih =>
    intro x1 x2 M  wx1 wx2 hI hm h
    unfold f_X10_run_20 at h
    refine x_run C e_X10_run_4 e_X10_run_4_k (pc' := 22) (lv' := [(0, .ref 0), (1, .int x1), (2, .int x2)]) (st' := [.int x1, .int x2]) (σ' := (M, L)) rfl ⟨trivial, trivial, trivial⟩ ?_
    refine x_icmp_ge C (show decode cX10_run 22 = .ok (.if_icmp .ge 27, 3) from by decide +kernel) (tgt := 49) (by decide) (fun c7 => ?_) (fun c7 => ?_)
    · rw [if_pos c7] at h
      refine x_run C e_X10_run_5 e_X10_run_5_k (pc' := 50) (lv' := [(0, .ref 0), (1, .int x1), (2, .int x2)]) (st' := [.int x2]) (σ' := (M, L)) rfl ⟨trivial, trivial⟩ ?_
      subst h
      exact x_iret C (show decode cX10_run 50 = .ok (.ireturn, 1) from by decide +kernel) (x_finI rfl ⟨rfl, ⟨rfl, rfl⟩, wx2, hI⟩) (by decide) (by decide)
    · rw [if_neg c7] at h
      have g8 : xrg 1 50 x1 := (x_c_nle wx1 wx2 c7).1
      have g9 : xrg 0 49 x2 := (x_c_nle wx1 wx2 c7).2
      have hk10 := x_meas (x_nle c7) hm
      refine x_run C e_X10_run_6 e_X10_run_6_k (pc' := 32) (lv' := [(0, .ref 0), (1, .int x1), (2, .int x2)]) (st' := [.int (M 8 7)]) (σ' := (M, L)) rfl ⟨trivial, trivial, trivial, trivial⟩ ?_
      refine x_if_ne C (show decode cX10_run 32 = .ok (.ifCond .ne 17, 3) from by decide +kernel) (tgt := 49) (by decide) (fun c11 => ?_) (fun c11 => ?_)
      · rw [if_neg c11] at h
        refine x_run C e_X10_run_5 e_X10_run_5_k (pc' := 50) (lv' := [(0, .ref 0), (1, .int x1), (2, .int x2)]) (st' := [.int x2]) (σ' := (M, L)) rfl ⟨trivial, trivial⟩ ?_
        subst h
        exact x_iret C (show decode cX10_run 50 = .ok (.ireturn, 1) from by decide +kernel) (x_finI rfl ⟨rfl, ⟨rfl, rfl⟩, (x_rgw g9 (lo' := 0) (hi' := 63) (by decide) (by decide)), hI⟩) (by decide) (by decide)
      · rw [if_pos c11] at h
        have g12 : xrg 0 0 (M 8 7) := (x_c_eq (x_rgt (M 8 7)) (x_rgc (x := 0) (k := 0) (by decide)) c11).1
        refine x_run C e_X10_run_7 e_X10_run_7_k (pc' := 39) (lv' := [(0, .ref 0), (1, .int x1), (2, .int x2)]) (st' := [.ref 8]) (σ' := (M, L)) rfl ⟨trivial, trivial, trivial⟩ ?_
        refine x_callV C (k := 8) (ci := 5) (rest := []) (avs := []) (k_X7_advance l  M L hI) yoX7_advance ml_X10_62 rfl rfl rfl rfl ⟨Nat.zero_le _, Nat.zero_le _⟩ (show decode cX10_run 39 = .ok (.invokevirtual 62, 3) from by decide +kernel) rfl (fun v σ' hPo => ?_)
        obtain ⟨⟨rfl, rfl⟩, g14, hI15⟩ := hPo
        generalize hq13 : f_X7_advance  M = q13 at h g14 hI15 ⊢
        obtain ⟨r13, M13⟩ := q13
        have h := xb_eq h
        try dsimp only at h g14 hI15
        show V 0 0 42 [(0, .ref 0), (1, .int x1), (2, .int x2)] [.int r13] LAY (M13, L)
        refine x_run C e_X10_run_8 e_X10_run_8_k (pc' := 46) (lv' := [(2, .int (x2 + 1)), (0, .ref 0), (1, .int x1)]) (st' := []) (σ' := (M13, L)) rfl ⟨trivial, trivial, trivial⟩ ?_
        refine x_goto C (show decode cX10_run 46 = .ok (.goto (-26), 3) from by decide +kernel) (tgt := 20) (by decide) ?_
        refine x_lv C [1, 2, 0] rfl ?_
        exact ih x1 (x2 + 1) M13 (x_rgw g8 (lo' := 0) (hi' := 50) (by decide) (by decide)) (x_rgw (x_rg_add g9 (x_rgc (x := 1) (k := 1) (by decide)) (by decide) (by decide)) (lo' := 0) (hi' := 63) (by decide) (by decide)) hI15 (hk10) h
set_option maxRecDepth 20000 in
set_option maxHeartbeats 4000000 in
theorem k_X10_run (l : Launch) (hst : l.stackTraces = false) (a1 : Int32) (M : St) (L : Nat → Nat → Int64) (hI : InvK INVC M) : XMX l yX10_run cX10_run 3 (some .int) R_X10_run LAY [.ref 0, .int a1] (M, L) (P_X10_run (f_X10_run a1 M) L) (T_X10_run (f_X10_run a1 M)) := by
  refine XMX.of hst (by decide) (Nat.le_of_ble_eq_true rfl) LAY_in cl_ok fl_X10_ok kc_X10_ok (by decide) (by decide) (by decide) (by decide) (fun V C hth => ?_)
  obtain ⟨r, h⟩ : ∃ r, f_X10_run a1 M = r := ⟨_, rfl⟩
  rw [h] at C hth
  change C_X10_run l r L V at C
  unfold f_X10_run at h
  show V 0 0 0 [(0, .ref 0), (1, .int a1)] [] LAY (M, L)
  refine x_run C e_X10_run_1 e_X10_run_1_k (pc' := 1) (lv' := [(0, .ref 0), (1, .int a1)]) (st' := [.int a1]) (σ' := (M, L)) rfl ⟨trivial, trivial⟩ ?_
  refine x_if_lt C (show decode cX10_run 1 = .ok (.ifCond .lt 9, 3) from by decide +kernel) (tgt := 10) (by decide) (fun c1 => ?_) (fun c1 => ?_)
  · rw [if_pos c1] at h
    have g2 : xrg (-2147483648) (-1) a1 := (x_c_lt (x_rgt a1) (x_rgc (x := 0) (k := 0) (by decide)) c1).1
    subst h
    exact hth 10 45 47 "java/lang/IllegalArgumentException" _ th_X10_run_10 ⟨rfl, rfl⟩
  · rw [if_neg c1] at h
    have g3 : xrg 0 2147483647 a1 := (x_c_nlt (x_rgt a1) (x_rgc (x := 0) (k := 0) (by decide)) c1).1
    refine x_run C e_X10_run_2 e_X10_run_2_k (pc' := 7) (lv' := [(0, .ref 0), (1, .int a1)]) (st' := [.int 50, .int a1]) (σ' := (M, L)) rfl ⟨trivial, trivial, trivial⟩ ?_
    refine x_icmp_le C (show decode cX10_run 7 = .ok (.if_icmp .le 11, 3) from by decide +kernel) (tgt := 18) (by decide) (fun c4 => ?_) (fun c4 => ?_)
    · rw [if_pos c4] at h
      have g5 : xrg 0 50 a1 := (x_c_le g3 (x_rgc (x := 50) (k := 50) (by decide)) c4).1
      refine x_run C e_X10_run_3 e_X10_run_3_k (pc' := 20) (lv' := [(2, .int 0), (0, .ref 0), (1, .int a1)]) (st' := []) (σ' := (M, L)) rfl ⟨trivial, trivial, trivial⟩ ?_
      refine x_lv C [1, 2, 0] rfl ?_
      exact b_X10_run_20 r C (((a1).toInt - (0 : Int32).toInt).toNat + 1) a1 0 M g5 (x_rgw (x_rgc (x := 0) (k := 0) (by decide)) (lo' := 0) (hi' := 63) (by decide) (by decide)) hI (Nat.lt_succ_self _) h
    · rw [if_neg c4] at h
      have g6 : xrg 51 2147483647 a1 := (x_c_nle g3 (x_rgc (x := 50) (k := 50) (by decide)) c4).1
      subst h
      exact hth 10 45 47 "java/lang/IllegalArgumentException" _ th_X10_run_10 ⟨rfl, rfl⟩
-- X10_fill
abbrev T_X10_fill (r : Int32 × St) : String → Prop := fun E => (E = "java/lang/IllegalArgumentException" ∧ r.1 = 1) ∨ (E = "java/lang/IndexOutOfBoundsException" ∧ r.1 = 2)
theorem th_X10_fill_26 : xthr cX10_fill yX10_fill.cls "java/lang/IndexOutOfBoundsException" 38 40 26 := ⟨by decide +kernel, by decide +kernel, by decide +kernel, by decide +kernel, vf0.1, vt0, vn0, by decide +kernel, by decide +kernel⟩
theorem th_X10_fill_10 : xthr cX10_fill yX10_fill.cls "java/lang/IllegalArgumentException" 45 47 10 := ⟨by decide +kernel, by decide +kernel, by decide +kernel, by decide +kernel, vf0.2.1, vt1, vn1, by decide +kernel, by decide +kernel⟩
def e_X10_fill_1 : List xI := [(0, .iload_n 2, 1, .null), (1, .iconst 1, 1, .int 1)]
theorem e_X10_fill_1_k : e_X10_fill_1.all (fun q => xokB cX10_fill q && xokL q) = true := by decide +kernel
def e_X10_fill_2 : List xI := [(5, .iload_n 2, 1, .null), (6, .iconst 4, 1, .int 4)]
theorem e_X10_fill_2_k : e_X10_fill_2.all (fun q => xokB cX10_fill q && xokL q) = true := by decide +kernel
def e_X10_fill_3 : List xI := [(18, .iload_n 1, 1, .null), (19, .iload_n 2, 1, .null)]
theorem e_X10_fill_3_k : e_X10_fill_3.all (fun q => xokB cX10_fill q && xokL q) = true := by decide +kernel
def e_X10_fill_4 : List xI := [(34, .iconst 0, 1, .int 0), (35, .istore 5, 2, .null)]
theorem e_X10_fill_4_k : e_X10_fill_4.all (fun q => xokB cX10_fill q && xokL q) = true := by decide +kernel
def e_X10_fill_5 : List xI := [(37, .iload 5, 2, .null), (39, .iload_n 2, 1, .null)]
theorem e_X10_fill_5_k : e_X10_fill_5.all (fun q => xokB cX10_fill q && xokL q) = true := by decide +kernel
def e_X10_fill_6 : List xI := [(43, .aload_n 0, 1, .null), (44, .getfield 21, 3, .null), (47, .iload_n 1, 1, .null), (48, .iconst 2, 1, .int 2), (49, .iload 5, 2, .null), (51, .imul, 1, .null), (52, .iadd, 1, .null), (53, .lload_n 3, 1, .null), (54, .bipush 16, 2, .int 16), (56, .iload_n 2, 1, .null), (57, .iconst 1, 1, .int 1), (58, .isub, 1, .null), (59, .iload 5, 2, .null), (61, .isub, 1, .null), (62, .imul, 1, .null), (63, .lushr, 1, .null), (64, .l2i, 1, .null)]
theorem e_X10_fill_6_k : e_X10_fill_6.all (fun q => xokB cX10_fill q && xokL q) = true := by decide +kernel
def e_X10_fill_7 : List xI := [(68, .iinc 5 1, 3, .null)]
theorem e_X10_fill_7_k : e_X10_fill_7.all (fun q => xokB cX10_fill q && xokL q) = true := by decide +kernel
abbrev P_X10_fill (r : Int32 × St) (L : Nat → Nat → Int64) : Option Value → xG → Prop := fun v σ' => r.1 = 0 ∧ PoV r.2 L v σ' ∧ InvK INVC r.2
abbrev R_X10_fill : Room := { frames := 6, cells := 1, slots := 6, locals := 81 }
abbrev C_X10_fill (l : Launch) (r : Int32 × St) (L : Nat → Nat → Int64) (V : XJ) : Prop := XC l yX10_fill.cls yX10_fill.name cX10_fill 6 R_X10_fill 1 6 fl_X10 kc_X10 LAY.length (xfin none LAY (P_X10_fill r L)) V
def f_X10_fill_37 : Nat → Int32 → Int32 → Int64 → Int32 → St → Int32 × St
  | 0, x1, x2, x3, x5, M => (0, M)
  | n + 1, x1, x2, x3, x5, M => (if x2 ≤ x5 then (0, M) else (xb (f_X2_store (x1 + (2 * x5)) (lus x3 (16 * ((x2 - 1) - x5))).toInt32 M) fun q17 => f_X10_fill_37 n x1 x2 x3 (x5 + 1) q17))
def f_X10_fill (a1 : Int32) (a2 : Int32) (a3 : Int64) (M : St) : Int32 × St := (if a2 < 1 then (1, M) else (if a2 ≤ 4 then (if (f_X10_isPlaceOfWords a1 a2) = 0 then (2, M) else f_X10_fill_37 (((a2).toInt - (0 : Int32).toInt).toNat + 1) a1 a2 a3 0 M) else (1, M)))
set_option maxRecDepth 20000 in
set_option maxHeartbeats 4000000 in
theorem b_X10_fill_37 {l : Launch} {L : Nat → Nat → Int64} {V : XJ} (r : Int32 × St) (C : C_X10_fill l r L V) : ∀ (n : Nat) (x1 : Int32) (x2 : Int32) (x3 : Int64) (x5 : Int32) (M : St), xrg 1 4 x2 → xrg 0 4 x5 → xrg 0 2147483647 x1 ∧ x1.toInt + 2 * x2.toInt ≤ 2048 → InvK INVC M → ((x2).toInt - x5.toInt).toNat < n → f_X10_fill_37 n x1 x2 x3 x5 M = r → V 0 0 37 [(0, .ref 0), (1, .int x1), (2, .int x2), (3, .long x3), (5, .int x5)] [] LAY (M, L) := by
  intro n
  induction n with
  | zero => intro x1 x2 x3 x5 M  wx2 wx5 wrel hI hm; exact absurd hm (Nat.not_lt_zero _)
  | succ n ih =>
    intro x1 x2 x3 x5 M  wx2 wx5 wrel hI hm h
    unfold f_X10_fill_37 at h
    refine x_run C e_X10_fill_5 e_X10_fill_5_k (pc' := 40) (lv' := [(0, .ref 0), (1, .int x1), (2, .int x2), (3, .long x3), (5, .int x5)]) (st' := [.int x2, .int x5]) (σ' := (M, L)) rfl ⟨trivial, trivial, trivial⟩ ?_
    refine x_icmp_ge C (show decode cX10_fill 40 = .ok (.if_icmp .ge 34, 3) from by decide +kernel) (tgt := 74) (by decide) (fun c13 => ?_) (fun c13 => ?_)
    · rw [if_pos c13] at h
      have g14 : xrg 1 4 x5 := (x_c_le wx2 wx5 c13).2
      subst h
      exact x_vret C (show decode cX10_fill 74 = .ok (.return_, 1) from by decide +kernel) (x_finV ⟨rfl, ⟨rfl, rfl⟩, hI⟩) (by decide) (by decide)
    · rw [if_neg c13] at h
      have g15 : xrg 0 3 x5 := (x_c_nle wx2 wx5 c13).2
      have hk16 := x_meas (x_nle c13) hm
      refine x_run C e_X10_fill_6 e_X10_fill_6_k (pc' := 65) (lv' := [(0, .ref 0), (1, .int x1), (2, .int x2), (3, .long x3), (5, .int x5)]) (st' := [.int (lus x3 (16 * ((x2 - 1) - x5))).toInt32, .int (x1 + (2 * x5)), .ref 4]) (σ' := (M, L)) rfl ⟨trivial, trivial, trivial, trivial, trivial, trivial, trivial, trivial, trivial, trivial, trivial, trivial, trivial, trivial, trivial, trivial, trivial, trivial⟩ ?_
      refine x_callV C (k := 4) (ci := 1) (rest := []) (avs := [.int (x1 + (2 * x5)), .int (lus x3 (16 * ((x2 - 1) - x5))).toInt32]) (k_X2_store l (x1 + (2 * x5)) (lus x3 (16 * ((x2 - 1) - x5))).toInt32 M L (fill_i2 wrel.1 wx2 wx5 wrel.2 c13) hI) yoX2_store ml_X10_41 rfl rfl rfl rfl ⟨Nat.zero_le _, Nat.zero_le _⟩ (show decode cX10_fill 65 = .ok (.invokevirtual 41, 3) from by decide +kernel) rfl (fun v σ' hPo => ?_)
      obtain ⟨⟨rfl, rfl⟩, hI19⟩ := hPo
      generalize hq17 : f_X2_store (x1 + (2 * x5)) (lus x3 (16 * ((x2 - 1) - x5))).toInt32 M = q17 at h hI19 ⊢
      have h := xb_eq h
      show V 0 0 68 [(0, .ref 0), (1, .int x1), (2, .int x2), (3, .long x3), (5, .int x5)] [] LAY (q17, L)
      refine x_run C e_X10_fill_7 e_X10_fill_7_k (pc' := 71) (lv' := [(5, .int (x5 + 1)), (0, .ref 0), (1, .int x1), (2, .int x2), (3, .long x3)]) (st' := []) (σ' := (q17, L)) rfl ⟨trivial, trivial⟩ ?_
      refine x_goto C (show decode cX10_fill 71 = .ok (.goto (-34), 3) from by decide +kernel) (tgt := 37) (by decide) ?_
      refine x_lv C [1, 2, 3, 4, 0] rfl ?_
      exact ih x1 x2 x3 (x5 + 1) q17 wx2 (x_rgw (x_rg_add g15 (x_rgc (x := 1) (k := 1) (by decide)) (by decide) (by decide)) (lo' := 0) (hi' := 4) (by decide) (by decide)) wrel hI19 (hk16) h
set_option maxRecDepth 20000 in
set_option maxHeartbeats 4000000 in
theorem k_X10_fill (l : Launch) (hst : l.stackTraces = false) (a1 : Int32) (a2 : Int32) (a3 : Int64) (M : St) (L : Nat → Nat → Int64) (hI : InvK INVC M) : XMX l yX10_fill cX10_fill 6 none R_X10_fill LAY [.ref 0, .int a1, .int a2, .long a3] (M, L) (P_X10_fill (f_X10_fill a1 a2 a3 M) L) (T_X10_fill (f_X10_fill a1 a2 a3 M)) := by
  refine XMX.of hst (by decide) (Nat.le_of_ble_eq_true rfl) LAY_in cl_ok fl_X10_ok kc_X10_ok (by decide) (by decide) (by decide) (by decide) (fun V C hth => ?_)
  obtain ⟨r, h⟩ : ∃ r, f_X10_fill a1 a2 a3 M = r := ⟨_, rfl⟩
  rw [h] at C hth
  change C_X10_fill l r L V at C
  unfold f_X10_fill at h
  show V 0 0 0 [(0, .ref 0), (1, .int a1), (2, .int a2), (3, .long a3)] [] LAY (M, L)
  refine x_run C e_X10_fill_1 e_X10_fill_1_k (pc' := 2) (lv' := [(0, .ref 0), (1, .int a1), (2, .int a2), (3, .long a3)]) (st' := [.int 1, .int a2]) (σ' := (M, L)) rfl ⟨trivial, trivial, trivial⟩ ?_
  refine x_icmp_lt C (show decode cX10_fill 2 = .ok (.if_icmp .lt 8, 3) from by decide +kernel) (tgt := 10) (by decide) (fun c1 => ?_) (fun c1 => ?_)
  · rw [if_pos c1] at h
    have g2 : xrg (-2147483648) 0 a2 := (x_c_lt (x_rgt a2) (x_rgc (x := 1) (k := 1) (by decide)) c1).1
    subst h
    exact hth 10 45 47 "java/lang/IllegalArgumentException" _ th_X10_fill_10 (Or.inl ⟨rfl, rfl⟩)
  · rw [if_neg c1] at h
    have g3 : xrg 1 2147483647 a2 := (x_c_nlt (x_rgt a2) (x_rgc (x := 1) (k := 1) (by decide)) c1).1
    refine x_run C e_X10_fill_2 e_X10_fill_2_k (pc' := 7) (lv' := [(0, .ref 0), (1, .int a1), (2, .int a2), (3, .long a3)]) (st' := [.int 4, .int a2]) (σ' := (M, L)) rfl ⟨trivial, trivial, trivial⟩ ?_
    refine x_icmp_le C (show decode cX10_fill 7 = .ok (.if_icmp .le 11, 3) from by decide +kernel) (tgt := 18) (by decide) (fun c4 => ?_) (fun c4 => ?_)
    · rw [if_pos c4] at h
      have g5 : xrg 1 4 a2 := (x_c_le g3 (x_rgc (x := 4) (k := 4) (by decide)) c4).1
      refine x_run C e_X10_fill_3 e_X10_fill_3_k (pc' := 20) (lv' := [(0, .ref 0), (1, .int a1), (2, .int a2), (3, .long a3)]) (st' := [.int a2, .int a1]) (σ' := (M, L)) rfl ⟨trivial, trivial, trivial⟩ ?_
      refine x_callS C (rest := []) (avs := [.int a1, .int a2]) (k_X10_isPlaceOfWords l a1 a2 M L) yoX10_isPlaceOfWords ml_X10_34 rfl ⟨Nat.zero_le _, Nat.zero_le _⟩ (show decode cX10_fill 20 = .ok (.invokestatic 34, 3) from by decide +kernel) rfl (fun v σ' hPo => ?_)
      obtain ⟨⟨rfl, rfl⟩, g7, -⟩ := hPo
      show V 0 0 23 [(0, .ref 0), (1, .int a1), (2, .int a2), (3, .long a3)] [.int (f_X10_isPlaceOfWords a1 a2)] LAY (M, L)
      refine x_if_ne C (show decode cX10_fill 23 = .ok (.ifCond .ne 11, 3) from by decide +kernel) (tgt := 34) (by decide) (fun c9 => ?_) (fun c9 => ?_)
      · rw [if_neg c9] at h
        have g10 : xrg 1 1 (f_X10_isPlaceOfWords a1 a2) := (x_c_ne g7 (by decide) c9)
        refine x_run C e_X10_fill_4 e_X10_fill_4_k (pc' := 37) (lv' := [(5, .int 0), (0, .ref 0), (1, .int a1), (2, .int a2), (3, .long a3)]) (st' := []) (σ' := (M, L)) rfl ⟨trivial, trivial, trivial⟩ ?_
        refine x_lv C [1, 2, 3, 4, 0] rfl ?_
        exact b_X10_fill_37 r C (((a2).toInt - (0 : Int32).toInt).toNat + 1) a1 a2 a3 0 M g5 (x_rgw (x_rgc (x := 0) (k := 0) (by decide)) (lo' := 0) (hi' := 4) (by decide) (by decide)) (pw_in g5 c9) hI (Nat.lt_succ_self _) h
      · rw [if_pos c9] at h
        have g11 : xrg 0 0 (f_X10_isPlaceOfWords a1 a2) := (x_c_eq g7 (x_rgc (x := 0) (k := 0) (by decide)) c9).1
        subst h
        exact hth 26 38 40 "java/lang/IndexOutOfBoundsException" _ th_X10_fill_26 (Or.inr ⟨rfl, rfl⟩)
    · rw [if_neg c4] at h
      have g12 : xrg 5 2147483647 a2 := (x_c_nle g3 (x_rgc (x := 4) (k := 4) (by decide)) c4).1
      subst h
      exact hth 10 45 47 "java/lang/IllegalArgumentException" _ th_X10_fill_10 (Or.inl ⟨rfl, rfl⟩)
