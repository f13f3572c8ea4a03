def INVC : List (Nat × Nat × Int × Int) := [(4, 3, 0, 15), (4, 4, 0, 16), (4, 5, 0, 64), (4, 7, 0, 65535), (4, 8, 0, 7), (4, 10, 0, 3), (8, 9, 0, 7), (12, 6, 0, 47)]
/-- the class's invariant: ranges of fields, and bytes in memory and in what is typed -/
def InvK (I : List (Nat × Nat × Int × Int)) (M : St) : Prop := Inv I M ∧ (∀ j, xrg 0 255 (M 5 j)) ∧ ∀ j, xrg 0 255 (M 6 j)
theorem InvK.at {I : List (Nat × Nat × Int × Int)} {M : St} (h : InvK I M) (k : Nat) {p j : Nat} {lo hi : Int} (hk : I[k]? = some (p, j, lo, hi)) : xrg lo hi (M p j) := h.1.at k hk
theorem InvK.a5 {I : List (Nat × Nat × Int × Int)} {M : St} (h : InvK I M) (j : Nat) : xrg 0 255 (M 5 j) := h.2.1 j
theorem InvK.a6 {I : List (Nat × Nat × Int × Int)} {M : St} (h : InvK I M) (j : Nat) : xrg 0 255 (M 6 j) := h.2.2 j
theorem x_bup {M : St} {p q j k : Nat} {v : Int32} {lo hi : Int} (h : ∀ j, xrg lo hi (M q j)) (hp : q ≠ p) : xrg lo hi (xup M p j v q k) := by rw [xup_other hp]; exact h k
theorem InvK.arr {I : List (Nat × Nat × Int × Int)} {M : St} (h : InvK I M) (p j : Nat) (v : Int32) (hn : (I.all (fun q => decide (q.1 ≠ p)) && decide (5 ≠ p ∧ 6 ≠ p)) = true) : InvK I (xup M p j v) := by
  simp only [Bool.and_eq_true, decide_eq_true_eq] at hn
  exact ⟨h.1.arr p j v hn.1, fun k => x_bup h.2.1 hn.2.1, fun k => x_bup h.2.2 hn.2.2⟩
theorem InvK.fld {I : List (Nat × Nat × Int × Int)} {M : St} (h : InvK I M) (p j : Nat) (v : Int32) (hn : (I.all (fun q => decide (q.1 ≠ p ∨ q.2.1 ≠ j)) && decide (5 ≠ p ∧ 6 ≠ p)) = true) : InvK I (xup M p j v) := by
  simp only [Bool.and_eq_true, decide_eq_true_eq] at hn
  exact ⟨h.1.fld p j v hn.1, fun k => x_bup h.2.1 hn.2.1, fun k => x_bup h.2.2 hn.2.2⟩
theorem InvK.set {I : List (Nat × Nat × Int × Int)} {M : St} (h : InvK I M) (p j : Nat) {v : Int32} {lo hi : Int} (hv : xrg lo hi v) (hn : (I.all (fun q => decide (q.1 = p ∧ q.2.1 = j → q.2.2.1 ≤ lo ∧ hi ≤ q.2.2.2)) && decide (5 ≠ p ∧ 6 ≠ p)) = true) : InvK I (xup M p j v) := by
  simp only [Bool.and_eq_true, decide_eq_true_eq] at hn
  exact ⟨h.1.set p j hv hn.1, fun k => x_bup h.2.1 hn.2.1, fun k => x_bup h.2.2 hn.2.2⟩
theorem InvK.arrv {I : List (Nat × Nat × Int × Int)} {M : St} (h : InvK I M) (p j : Nat) {v : Int32} (hv : xrg 0 255 v) (hn : I.all (fun q => decide (q.1 ≠ p)) = true) : InvK I (xup M p j v) := by
  have key : ∀ q, (∀ k, xrg 0 255 (M q k)) → ∀ k, xrg 0 255 (xup M p j v q k) := by
    intro q hq k
    by_cases hp : q = p
    · subst hp
      rw [xup_self]
      by_cases hj : k = j
      · subst hj; rw [pk_us]; exact hv
      · rw [pk_un hj]; exact hq k
    · exact x_bup hq hp
  exact ⟨h.1.arr p j v hn, key 5 h.2.1, key 6 h.2.2⟩
theorem InvK.cp {I : List (Nat × Nat × Int × Int)} {M : St} (h : InvK I M) (a b : Nat) (hn : (I.all (fun q => decide (q.1 ≠ b)) && decide (5 ≠ b ∧ 6 ≠ b)) = true) : InvK I (xcp M a b) := by
  simp only [Bool.and_eq_true, decide_eq_true_eq] at hn
  refine ⟨h.1.cp a b hn.1, fun k => ?_, fun k => ?_⟩
  · show xrg _ _ (va_up M b _ 5 k); rw [va_up_ne _ _ hn.2.1]; exact h.2.1 k
  · show xrg _ _ (va_up M b _ 6 k); rw [va_up_ne _ _ hn.2.2]; exact h.2.2 k
-- X8_changeStatus
def e_X8_changeStatus_1 : List xI := [(0, .iload_n 1, 1, .null), (1, .ldc 18, 2, .null), (3, .iand, 1, .null), (4, .istore_n 2, 1, .null), (5, .aload_n 0, 1, .null), (6, .getfield 9, 3, .null), (9, .bipush 18, 2, .int 18), (11, .iaload, 1, .null), (12, .iload_n 2, 1, .null), (13, .ixor, 1, .null), (14, .sipush 8192, 3, .int 8192), (17, .iand, 1, .null)]
theorem e_X8_changeStatus_1_k : e_X8_changeStatus_1.all (fun q => xokB cX8_changeStatus q && xokL q) = true := by decide +kernel
def e_X8_changeStatus_2 : List xI := [(21, .aload_n 0, 1, .null), (22, .getfield 9, 3, .null), (25, .bipush 15, 2, .int 15), (27, .iaload, 1, .null), (28, .istore_n 3, 1, .null), (29, .aload_n 0, 1, .null), (30, .getfield 9, 3, .null), (33, .bipush 15, 2, .int 15), (35, .aload_n 0, 1, .null), (36, .getfield 9, 3, .null), (39, .bipush 16, 2, .int 16), (41, .iaload, 1, .null), (42, .iastore, 1, .null), (43, .aload_n 0, 1, .null), (44, .getfield 9, 3, .null), (47, .bipush 16, 2, .int 16), (49, .iload_n 3, 1, .null), (50, .iastore, 1, .null)]
theorem e_X8_changeStatus_2_k : e_X8_changeStatus_2.all (fun q => xokB cX8_changeStatus q && xokL q) = true := by decide +kernel
def e_X8_changeStatus_3 : List xI := [(51, .aload_n 0, 1, .null), (52, .getfield 9, 3, .null), (55, .bipush 18, 2, .int 18), (57, .iload_n 2, 1, .null), (58, .iastore, 1, .null)]
theorem e_X8_changeStatus_3_k : e_X8_changeStatus_3.all (fun q => xokB cX8_changeStatus q && xokL q) = true := by decide +kernel
abbrev P_X8_changeStatus (r : St) (L : Nat → Nat → Int64) : Option Value → xG → Prop := fun v σ' => PoV r L v σ' ∧ InvK INVC r
abbrev R_X8_changeStatus : Room := { frames := 0, cells := 0, slots := 0, locals := 0 }
abbrev C_X8_changeStatus (l : Launch) (r : St) (L : Nat → Nat → Int64) (V : XJ) : Prop := XC l yX8_changeStatus.cls yX8_changeStatus.name cX8_changeStatus 4 R_X8_changeStatus 0 0 fl_X8 kc_X8 LAY.length (xfin none LAY (P_X8_changeStatus r L)) V
def f_X8_changeStatus_51 (x2 : Int32) (M : St) : St := (xup M 2 18 x2)
def f_X8_changeStatus (a1 : Int32) (M : St) : St := (if (((M 2 18) ^^^ (a1 &&& 42783)) &&& 8192) = 0 then f_X8_changeStatus_51 (a1 &&& 42783) M else f_X8_changeStatus_51 (a1 &&& 42783) (xup (xup M 2 15 (M 2 16)) 2 16 (M 2 15)))
set_option maxRecDepth 20000 in
set_option maxHeartbeats 4000000 in
theorem b_X8_changeStatus_51 {l : Launch} {L : Nat → Nat → Int64} {V : XJ} (r : St) (C : C_X8_changeStatus l r L V) (x2 : Int32) (M : St) (wx2 : xrg 0 42783 x2) (hI : InvK INVC M) (h : f_X8_changeStatus_51 x2 M = r) : V 0 0 51 [(0, .ref 1), (2, .int x2)] [] LAY (M, L) := by
  unfold f_X8_changeStatus_51 at h
  refine x_run C e_X8_changeStatus_3 e_X8_changeStatus_3_k (pc' := 59) (lv' := [(0, .ref 1), (2, .int x2)]) (st' := []) (σ' := ((xup M 2 18 x2), L)) rfl ⟨trivial, trivial, trivial, trivial, (x_rgv (x_rgc (x := 18) (k := 18) (by decide)) (by decide) (by decide)), trivial⟩ ?_
  have hI5 : InvK INVC (xup M 2 18 x2) := (hI.arr 2 18 x2 (by decide))
  subst h
  exact x_vret C (show decode cX8_changeStatus 59 = .ok (.return_, 1) from by decide +kernel) (x_finV ⟨⟨rfl, rfl⟩, hI5⟩) (Nat.le_refl 0) (Nat.le_refl 0)
set_option maxRecDepth 20000 in
set_option maxHeartbeats 4000000 in
theorem k_X8_changeStatus (l : Launch) (a1 : Int32) (M : St) (L : Nat → Nat → Int64) (hI : InvK INVC M) : XM l yX8_changeStatus cX8_changeStatus 4 none R_X8_changeStatus LAY [.ref 1, .int a1] (M, L) (P_X8_changeStatus (f_X8_changeStatus a1 M) L) := by
  refine XM.of (by decide) (Nat.le_of_ble_eq_true rfl) LAY_in cl_ok fl_X8_ok kc_X8_ok (fun V C => ?_)
  obtain ⟨r, h⟩ : ∃ r, f_X8_changeStatus a1 M = r := ⟨_, rfl⟩
  rw [h] at C
  change C_X8_changeStatus l r L V at C
  unfold f_X8_changeStatus at h
  show V 0 0 0 [(0, .ref 1), (1, .int a1)] [] LAY (M, L)
  refine x_run C e_X8_changeStatus_1 e_X8_changeStatus_1_k (pc' := 18) (lv' := [(2, .int (a1 &&& 42783)), (0, .ref 1), (1, .int a1)]) (st' := [.int (((M 2 18) ^^^ (a1 &&& 42783)) &&& 8192)]) (σ' := (M, L)) rfl ⟨trivial, trivial, trivial, trivial, trivial, trivial, trivial, (x_rgv (x_rgc (x := 18) (k := 18) (by decide)) (by decide) (by decide)), trivial, trivial, trivial, trivial, trivial⟩ ?_
  refine x_if_eq C (show decode cX8_changeStatus 18 = .ok (.ifCond .eq 33, 3) from by decide +kernel) (tgt := 51) (by decide) (fun c1 => ?_) (fun c1 => ?_)
  · rw [if_pos c1] at h
    have g2 : xrg 0 0 (((M 2 18) ^^^ (a1 &&& 42783)) &&& 8192) := (x_c_eq (x_rg_and (x := ((M 2 18) ^^^ (a1 &&& 42783))) (m := 8192) (k := 8192) (by decide) (by decide)) (x_rgc (x := 0) (k := 0) (by decide)) c1).1
    refine x_lv C [1, 0] rfl ?_
    exact b_X8_changeStatus_51 r C (a1 &&& 42783) M (x_rg_and (x := a1) (m := 42783) (k := 42783) (by decide) (by decide)) hI h
  · rw [if_neg c1] at h
    have g3 : xrg 1 8192 (((M 2 18) ^^^ (a1 &&& 42783)) &&& 8192) := (x_c_ne (x_rg_and (x := ((M 2 18) ^^^ (a1 &&& 42783))) (m := 8192) (k := 8192) (by decide) (by decide)) (by decide) c1)
    refine x_run C e_X8_changeStatus_2 e_X8_changeStatus_2_k (pc' := 51) (lv' := [(3, .int (M 2 15)), (2, .int (a1 &&& 42783)), (0, .ref 1), (1, .int a1)]) (st' := []) (σ' := ((xup (xup M 2 15 (M 2 16)) 2 16 (M 2 15)), L)) rfl ⟨trivial, trivial, trivial, (x_rgv (x_rgc (x := 15) (k := 15) (by decide)) (by decide) (by decide)), trivial, trivial, trivial, trivial, trivial, trivial, trivial, (x_rgv (x_rgc (x := 16) (k := 16) (by decide)) (by decide) (by decide)), (x_rgv (x_rgc (x := 15) (k := 15) (by decide)) (by decide) (by decide)), trivial, trivial, trivial, trivial, (x_rgv (x_rgc (x := 16) (k := 16) (by decide)) (by decide) (by decide)), trivial⟩ ?_
    have hI4 : InvK INVC (xup (xup M 2 15 (M 2 16)) 2 16 (M 2 15)) := ((hI.arr 2 15 (M 2 16) (by decide)).arr 2 16 (M 2 15) (by decide))
    refine x_lv C [2, 1] rfl ?_
    exact b_X8_changeStatus_51 r C (a1 &&& 42783) (xup (xup M 2 15 (M 2 16)) 2 16 (M 2 15)) (x_rg_and (x := a1) (m := 42783) (k := 42783) (by decide) (by decide)) hI4 h
-- X2_clearError
def e_X2_clearError_1 : List xI := [(0, .aload_n 0, 1, .null), (1, .iconst 0, 1, .int 0), (2, .putfield 48, 3, .null)]
theorem e_X2_clearError_1_k : e_X2_clearError_1.all (fun q => xokB cX2_clearError q && xokL q) = true := by decide +kernel
abbrev P_X2_clearError (r : St) (L : Nat → Nat → Int64) : Option Value → xG → Prop := fun v σ' => PoV r L v σ' ∧ InvK INVC r
abbrev R_X2_clearError : Room := { frames := 0, cells := 0, slots := 0, locals := 0 }
abbrev C_X2_clearError (l : Launch) (r : St) (L : Nat → Nat → Int64) (V : XJ) : Prop := XC l yX2_clearError.cls yX2_clearError.name cX2_clearError 1 R_X2_clearError 0 0 fl_X2 kc_X2 LAY.length (xfin none LAY (P_X2_clearError r L)) V
def f_X2_clearError (M : St) : St := (xup M 4 10 0)
set_option maxRecDepth 20000 in
set_option maxHeartbeats 4000000 in
theorem k_X2_clearError (l : Launch) (M : St) (L : Nat → Nat → Int64) (hI : InvK INVC M) : XM l yX2_clearError cX2_clearError 1 none R_X2_clearError LAY [.ref 4] (M, L) (P_X2_clearError (f_X2_clearError M) L) := by
  refine XM.of (by decide) (Nat.le_of_ble_eq_true rfl) LAY_in cl_ok fl_X2_ok kc_X2_ok (fun V C => ?_)
  obtain ⟨r, h⟩ : ∃ r, f_X2_clearError M = r := ⟨_, rfl⟩
  rw [h] at C
  change C_X2_clearError l r L V at C
  unfold f_X2_clearError at h
  show V 0 0 0 [(0, .ref 4)] [] LAY (M, L)
  refine x_run C e_X2_clearError_1 e_X2_clearError_1_k (pc' := 5) (lv' := [(0, .ref 4)]) (st' := []) (σ' := ((xup M 4 10 0), L)) rfl ⟨trivial, trivial, trivial, trivial⟩ ?_
  have hI1 : InvK INVC (xup M 4 10 0) := (hI.set 4 10 (x_rgc (x := 0) (k := 0) (by decide)) (by decide))
  subst h
  exact x_vret C (show decode cX2_clearError 5 = .ok (.return_, 1) from by decide +kernel) (x_finV ⟨⟨rfl, rfl⟩, hI1⟩) (Nat.le_refl 0) (Nat.le_refl 0)
-- X10_bytesOf
def e_X10_bytesOf_1 : List xI := [(0, .iconst 1, 1, .int 1), (1, .iload_n 0, 1, .null), (2, .ishl, 1, .null)]
theorem e_X10_bytesOf_1_k : e_X10_bytesOf_1.all (fun q => xokB cX10_bytesOf q && xokL q) = true := by decide +kernel
abbrev P_X10_bytesOf (r : Int32) (M0 : St) (L : Nat → Nat → Int64) : Option Value → xG → Prop := fun v σ' => PoI r M0 L v σ' ∧ xrg (-2147483648) 1073741824 r ∧ True
abbrev R_X10_bytesOf : Room := { frames := 0, cells := 0, slots := 0, locals := 0 }
abbrev C_X10_bytesOf (l : Launch) (r : Int32) (M0 : St) (L : Nat → Nat → Int64) (V : XJ) : Prop := XC l yX10_bytesOf.cls yX10_bytesOf.name cX10_bytesOf 1 R_X10_bytesOf 0 0 fl_X10 kc_X10 LAY.length (xfin (some .int) LAY (P_X10_bytesOf r M0 L)) V
def f_X10_bytesOf (a1 : Int32) : Int32 := ((1 : Int32) <<< (a1 &&& 31))
set_option maxRecDepth 20000 in
set_option maxHeartbeats 4000000 in
theorem k_X10_bytesOf (l : Launch) (a1 : Int32) (M : St) (L : Nat → Nat → Int64) : XM l yX10_bytesOf cX10_bytesOf 1 (some .int) R_X10_bytesOf LAY [.int a1] (M, L) (P_X10_bytesOf (f_X10_bytesOf a1) M L) := by
  refine XM.of (by decide) (Nat.le_of_ble_eq_true rfl) LAY_in cl_ok fl_X10_ok kc_X10_ok (fun V C => ?_)
  obtain ⟨r, h⟩ : ∃ r, f_X10_bytesOf a1 = r := ⟨_, rfl⟩
  rw [h] at C
  change C_X10_bytesOf l r M L V at C
  unfold f_X10_bytesOf at h
  show V 0 0 0 [(0, .int a1)] [] LAY (M, L)
  refine x_run C e_X10_bytesOf_1 e_X10_bytesOf_1_k (pc' := 3) (lv' := [(0, .int a1)]) (st' := [.int ((1 : Int32) <<< (a1 &&& 31))]) (σ' := (M, L)) rfl ⟨trivial, trivial, trivial, trivial⟩ ?_
  subst h
  exact x_iret C (show decode cX10_bytesOf 3 = .ok (.ireturn, 1) from by decide +kernel) (x_finI rfl ⟨⟨rfl, rfl⟩, (x_rg_1shl a1), trivial⟩) (Nat.le_refl 0) (Nat.le_refl 0)
theorem x_bytes {x : Int32} (h : xrg 0 2 x) : xrg 1 4 (f_X10_bytesOf x) := x_rg_1shl2 h
-- X2_allows
def e_X2_allows_1 : List xI := [(0, .aload_n 0, 1, .null), (1, .getfield 48, 3, .null)]
theorem e_X2_allows_1_k : e_X2_allows_1.all (fun q => xokB cX2_allows q && xokL q) = true := by decide +kernel
def e_X2_allows_2 : List xI := [(9, .iload_n 1, 1, .null), (10, .iload_n 2, 1, .null), (11, .iadd, 1, .null), (12, .iconst 1, 1, .int 1), (13, .isub, 1, .null), (14, .istore 4, 2, .null), (16, .aload_n 0, 1, .null), (17, .getfield 21, 3, .null), (20, .getfield 61, 3, .null), (23, .bipush 18, 2, .int 18), (25, .iaload, 1, .null), (26, .istore 5, 2, .null), (28, .iload 4, 2, .null), (30, .sipush 2048, 3, .int 2048)]
theorem e_X2_allows_2_k : e_X2_allows_2.all (fun q => xokB cX2_allows q && xokL q) = true := by decide +kernel
def e_X2_allows_3 : List xI := [(36, .iload_n 3, 1, .null)]
theorem e_X2_allows_3_k : e_X2_allows_3.all (fun q => xokB cX2_allows q && xokL q) = true := by decide +kernel
def e_X2_allows_4 : List xI := [(40, .iload_n 1, 1, .null), (41, .aload_n 0, 1, .null), (42, .getfield 66, 3, .null)]
theorem e_X2_allows_4_k : e_X2_allows_4.all (fun q => xokB cX2_allows q && xokL q) = true := by decide +kernel
def e_X2_allows_5 : List xI := [(7, .iconst 0, 1, .int 0)]
theorem e_X2_allows_5_k : e_X2_allows_5.all (fun q => xokB cX2_allows q && xokL q) = true := by decide +kernel
def e_X2_allows_6 : List xI := [(52, .iconst 0, 1, .int 0)]
theorem e_X2_allows_6_k : e_X2_allows_6.all (fun q => xokB cX2_allows q && xokL q) = true := by decide +kernel
def e_X2_allows_7 : List xI := [(48, .iconst 1, 1, .int 1)]
theorem e_X2_allows_7_k : e_X2_allows_7.all (fun q => xokB cX2_allows q && xokL q) = true := by decide +kernel
def e_X2_allows_8 : List xI := [(53, .istore 6, 2, .null), (55, .iload_n 1, 1, .null), (56, .sipush 4096, 3, .int 4096)]
theorem e_X2_allows_8_k : e_X2_allows_8.all (fun q => xokB cX2_allows q && xokL q) = true := by decide +kernel
def e_X2_allows_9 : List xI := [(62, .iload 4, 2, .null), (64, .sipush 4104, 3, .int 4104)]
theorem e_X2_allows_9_k : e_X2_allows_9.all (fun q => xokB cX2_allows q && xokL q) = true := by decide +kernel
def e_X2_allows_10 : List xI := [(70, .iload 5, 2, .null), (72, .sipush 8192, 3, .int 8192), (75, .iand, 1, .null)]
theorem e_X2_allows_10_k : e_X2_allows_10.all (fun q => xokB cX2_allows q && xokL q) = true := by decide +kernel
def e_X2_allows_11 : List xI := [(79, .iconst 1, 1, .int 1)]
theorem e_X2_allows_11_k : e_X2_allows_11.all (fun q => xokB cX2_allows q && xokL q) = true := by decide +kernel
def e_X2_allows_12 : List xI := [(83, .iconst 0, 1, .int 0)]
theorem e_X2_allows_12_k : e_X2_allows_12.all (fun q => xokB cX2_allows q && xokL q) = true := by decide +kernel
def e_X2_allows_13 : List xI := [(84, .istore 7, 2, .null), (86, .iload_n 2, 1, .null), (87, .iconst 1, 1, .int 1)]
theorem e_X2_allows_13_k : e_X2_allows_13.all (fun q => xokB cX2_allows q && xokL q) = true := by decide +kernel
def e_X2_allows_14 : List xI := [(91, .iload_n 1, 1, .null), (92, .iconst 1, 1, .int 1), (93, .iand, 1, .null)]
theorem e_X2_allows_14_k : e_X2_allows_14.all (fun q => xokB cX2_allows q && xokL q) = true := by decide +kernel
def e_X2_allows_15 : List xI := [(97, .aload_n 0, 1, .null), (98, .iconst 3, 1, .int 3), (99, .putfield 48, 3, .null)]
theorem e_X2_allows_15_k : e_X2_allows_15.all (fun q => xokB cX2_allows q && xokL q) = true := by decide +kernel
def e_X2_allows_16 : List xI := [(105, .iload 6, 2, .null)]
theorem e_X2_allows_16_k : e_X2_allows_16.all (fun q => xokB cX2_allows q && xokL q) = true := by decide +kernel
def e_X2_allows_17 : List xI := [(123, .iconst 1, 1, .int 1)]
theorem e_X2_allows_17_k : e_X2_allows_17.all (fun q => xokB cX2_allows q && xokL q) = true := by decide +kernel
def e_X2_allows_18 : List xI := [(110, .iload 7, 2, .null)]
theorem e_X2_allows_18_k : e_X2_allows_18.all (fun q => xokB cX2_allows q && xokL q) = true := by decide +kernel
def e_X2_allows_19 : List xI := [(115, .aload_n 0, 1, .null), (116, .iconst 2, 1, .int 2), (117, .putfield 48, 3, .null)]
theorem e_X2_allows_19_k : e_X2_allows_19.all (fun q => xokB cX2_allows q && xokL q) = true := by decide +kernel
def e_X2_allows_20 : List xI := [(125, .aload_n 0, 1, .null), (126, .iload_n 1, 1, .null), (127, .putfield 69, 3, .null), (130, .aload_n 0, 1, .null), (131, .iload_n 3, 1, .null), (132, .putfield 72, 3, .null), (135, .iconst 0, 1, .int 0)]
theorem e_X2_allows_20_k : e_X2_allows_20.all (fun q => xokB cX2_allows q && xokL q) = true := by decide +kernel
abbrev P_X2_allows (r : Int32 × St) (L : Nat → Nat → Int64) : Option Value → xG → Prop := fun v σ' => PoI r.1 r.2 L v σ' ∧ xrg 0 1 r.1 ∧ InvK INVC r.2
abbrev R_X2_allows : Room := { frames := 0, cells := 0, slots := 0, locals := 0 }
abbrev C_X2_allows (l : Launch) (r : Int32 × St) (L : Nat → Nat → Int64) (V : XJ) : Prop := XC l yX2_allows.cls yX2_allows.name cX2_allows 8 R_X2_allows 0 0 fl_X2 kc_X2 LAY.length (xfin (some .boolean) LAY (P_X2_allows r L)) V
def f_X2_allows_125 (x1 : Int32) (x3 : Int32) (M : St) : Int32 × St := (0, (xup (xup M 4 11 x1) 4 12 x3))
def f_X2_allows_105 (x1 : Int32) (x3 : Int32) (x6 : Int32) (x7 : Int32) (M : St) : Int32 × St := (if x6 = 0 then (if x7 = 0 then f_X2_allows_125 x1 x3 (xup M 4 10 2) else (1, M)) else (1, M))
def f_X2_allows_84 (x1 : Int32) (x2 : Int32) (x3 : Int32) (x6 : Int32) (s0 : Int32) (M : St) : Int32 × St := (if x2 ≤ 1 then f_X2_allows_105 x1 x3 x6 s0 M else (if (x1 &&& 1) = 0 then f_X2_allows_105 x1 x3 x6 s0 M else f_X2_allows_125 x1 x3 (xup M 4 10 3)))
def f_X2_allows_83 (x1 : Int32) (x2 : Int32) (x3 : Int32) (x6 : Int32) (M : St) : Int32 × St := f_X2_allows_84 x1 x2 x3 x6 0 M
def f_X2_allows_53 (x1 : Int32) (x2 : Int32) (x3 : Int32) (x4 : Int32) (x5 : Int32) (s0 : Int32) (M : St) : Int32 × St := (if x1 < 4096 then f_X2_allows_83 x1 x2 x3 s0 M else (if 4104 ≤ x4 then f_X2_allows_83 x1 x2 x3 s0 M else (if (x5 &&& 8192) = 0 then f_X2_allows_83 x1 x2 x3 s0 M else f_X2_allows_84 x1 x2 x3 s0 1 M)))
def f_X2_allows_52 (x1 : Int32) (x2 : Int32) (x3 : Int32) (x4 : Int32) (x5 : Int32) (M : St) : Int32 × St := f_X2_allows_53 x1 x2 x3 x4 x5 0 M
def f_X2_allows_48 (x1 : Int32) (x2 : Int32) (x3 : Int32) (x4 : Int32) (x5 : Int32) (M : St) : Int32 × St := f_X2_allows_53 x1 x2 x3 x4 x5 1 M
def f_X2_allows (a1 : Int32) (a2 : Int32) (a3 : Int32) (M : St) : Int32 × St := (if (M 4 10) = 0 then (if 2048 ≤ ((a1 + a2) - 1) then f_X2_allows_52 a1 a2 a3 ((a1 + a2) - 1) (M 2 18) M else (if a3 = 0 then (if a1 < (M 4 6) then f_X2_allows_52 a1 a2 a3 ((a1 + a2) - 1) (M 2 18) M else f_X2_allows_48 a1 a2 a3 ((a1 + a2) - 1) (M 2 18) M) else f_X2_allows_48 a1 a2 a3 ((a1 + a2) - 1) (M 2 18) M)) else (0, M))
set_option maxRecDepth 20000 in
set_option maxHeartbeats 4000000 in
theorem b_X2_allows_125 {l : Launch} {L : Nat → Nat → Int64} {V : XJ} (r : Int32 × St) (C : C_X2_allows l r L V) (x1 : Int32) (x3 : Int32) (M : St) (hI : InvK INVC M) (h : f_X2_allows_125 x1 x3 M = r) : V 0 0 125 [(0, .ref 4), (1, .int x1), (3, .int x3)] [] LAY (M, L) := by
  unfold f_X2_allows_125 at h
  refine x_run C e_X2_allows_20 e_X2_allows_20_k (pc' := 136) (lv' := [(0, .ref 4), (1, .int x1), (3, .int x3)]) (st' := [.int 0]) (σ' := ((xup (xup M 4 11 x1) 4 12 x3), L)) rfl ⟨trivial, trivial, trivial, trivial, trivial, trivial, trivial, trivial⟩ ?_
  have hI37 : InvK INVC (xup (xup M 4 11 x1) 4 12 x3) := ((hI.fld 4 11 x1 (by decide)).fld 4 12 x3 (by decide))
  subst h
  exact x_iret C (show decode cX2_allows 136 = .ok (.ireturn, 1) from by decide +kernel) (x_finI (x_nb (x_rgw (x_rgc (x := 0) (k := 0) (by decide)) (lo' := 0) (hi' := 1) (by decide) (by decide))) ⟨⟨rfl, rfl⟩, (x_rgw (x_rgc (x := 0) (k := 0) (by decide)) (lo' := 0) (hi' := 1) (by decide) (by decide)), hI37⟩) (Nat.le_refl 0) (Nat.le_refl 0)
set_option maxRecDepth 20000 in
set_option maxHeartbeats 4000000 in
theorem b_X2_allows_105 {l : Launch} {L : Nat → Nat → Int64} {V : XJ} (r : Int32 × St) (C : C_X2_allows l r L V) (x1 : Int32) (x3 : Int32) (x6 : Int32) (x7 : Int32) (M : St) (wx6 : xrg 0 1 x6) (wx7 : xrg 0 1 x7) (hI : InvK INVC M) (h : f_X2_allows_105 x1 x3 x6 x7 M = r) : V 0 0 105 [(0, .ref 4), (1, .int x1), (3, .int x3), (6, .int x6), (7, .int x7)] [] LAY (M, L) := by
  unfold f_X2_allows_105 at h
  refine x_run C e_X2_allows_16 e_X2_allows_16_k (pc' := 107) (lv' := [(0, .ref 4), (1, .int x1), (3, .int x3), (6, .int x6), (7, .int x7)]) (st' := [.int x6]) (σ' := (M, L)) rfl ⟨trivial, trivial⟩ ?_
  refine x_if_ne C (show decode cX2_allows 107 = .ok (.ifCond .ne 16, 3) from by decide +kernel) (tgt := 123) (by decide) (fun c30 => ?_) (fun c30 => ?_)
  · rw [if_neg c30] at h
    have g31 : xrg 1 1 x6 := (x_c_ne wx6 (by decide) c30)
    refine x_run C e_X2_allows_17 e_X2_allows_17_k (pc' := 124) (lv' := [(0, .ref 4), (1, .int x1), (3, .int x3), (6, .int x6), (7, .int x7)]) (st' := [.int 1]) (σ' := (M, L)) rfl ⟨trivial, trivial⟩ ?_
    subst h
    exact x_iret C (show decode cX2_allows 124 = .ok (.ireturn, 1) from by decide +kernel) (x_finI (x_nb (x_rgw (x_rgc (x := 1) (k := 1) (by decide)) (lo' := 0) (hi' := 1) (by decide) (by decide))) ⟨⟨rfl, rfl⟩, (x_rgw (x_rgc (x := 1) (k := 1) (by decide)) (lo' := 0) (hi' := 1) (by decide) (by decide)), hI⟩) (Nat.le_refl 0) (Nat.le_refl 0)
  · rw [if_pos c30] at h
    have g32 : xrg 0 0 x6 := (x_c_eq wx6 (x_rgc (x := 0) (k := 0) (by decide)) c30).1
    refine x_run C e_X2_allows_18 e_X2_allows_18_k (pc' := 112) (lv' := [(0, .ref 4), (1, .int x1), (3, .int x3), (6, .int x6), (7, .int x7)]) (st' := [.int x7]) (σ' := (M, L)) rfl ⟨trivial, trivial⟩ ?_
    refine x_if_ne C (show decode cX2_allows 112 = .ok (.ifCond .ne 11, 3) from by decide +kernel) (tgt := 123) (by decide) (fun c33 => ?_) (fun c33 => ?_)
    · rw [if_neg c33] at h
      have g34 : xrg 1 1 x7 := (x_c_ne wx7 (by decide) c33)
      refine x_run C e_X2_allows_17 e_X2_allows_17_k (pc' := 124) (lv' := [(0, .ref 4), (1, .int x1), (3, .int x3), (6, .int x6), (7, .int x7)]) (st' := [.int 1]) (σ' := (M, L)) rfl ⟨trivial, trivial⟩ ?_
      subst h
      exact x_iret C (show decode cX2_allows 124 = .ok (.ireturn, 1) from by decide +kernel) (x_finI (x_nb (x_rgw (x_rgc (x := 1) (k := 1) (by decide)) (lo' := 0) (hi' := 1) (by decide) (by decide))) ⟨⟨rfl, rfl⟩, (x_rgw (x_rgc (x := 1) (k := 1) (by decide)) (lo' := 0) (hi' := 1) (by decide) (by decide)), hI⟩) (Nat.le_refl 0) (Nat.le_refl 0)
    · rw [if_pos c33] at h
      have g35 : xrg 0 0 x7 := (x_c_eq wx7 (x_rgc (x := 0) (k := 0) (by decide)) c33).1
      refine x_run C e_X2_allows_19 e_X2_allows_19_k (pc' := 120) (lv' := [(0, .ref 4), (1, .int x1), (3, .int x3), (6, .int x6), (7, .int x7)]) (st' := []) (σ' := ((xup M 4 10 2), L)) rfl ⟨trivial, trivial, trivial, trivial⟩ ?_
      have hI36 : InvK INVC (xup M 4 10 2) := (hI.set 4 10 (x_rgc (x := 2) (k := 2) (by decide)) (by decide))
      refine x_goto C (show decode cX2_allows 120 = .ok (.goto 5, 3) from by decide +kernel) (tgt := 125) (by decide) ?_
      refine x_lv C [0, 1, 2] rfl ?_
      exact b_X2_allows_125 r C x1 x3 (xup M 4 10 2) hI36 h
set_option maxRecDepth 20000 in
set_option maxHeartbeats 4000000 in
theorem b_X2_allows_84 {l : Launch} {L : Nat → Nat → Int64} {V : XJ} (r : Int32 × St) (C : C_X2_allows l r L V) (x1 : Int32) (x2 : Int32) (x3 : Int32) (x6 : Int32) (s0 : Int32) (M : St) (wx6 : xrg 0 1 x6) (ws0 : xrg 0 1 s0) (hI : InvK INVC M) (h : f_X2_allows_84 x1 x2 x3 x6 s0 M = r) : V 0 0 84 [(0, .ref 4), (1, .int x1), (2, .int x2), (3, .int x3), (6, .int x6)] [.int s0] LAY (M, L) := by
  unfold f_X2_allows_84 at h
  refine x_run C e_X2_allows_13 e_X2_allows_13_k (pc' := 88) (lv' := [(7, .int s0), (0, .ref 4), (1, .int x1), (2, .int x2), (3, .int x3), (6, .int x6)]) (st' := [.int 1, .int x2]) (σ' := (M, L)) rfl ⟨trivial, trivial, trivial, trivial⟩ ?_
  refine x_icmp_le C (show decode cX2_allows 88 = .ok (.if_icmp .le 17, 3) from by decide +kernel) (tgt := 105) (by decide) (fun c23 => ?_) (fun c23 => ?_)
  · rw [if_pos c23] at h
    have g24 : xrg (-2147483648) 1 x2 := (x_c_le (x_rgt x2) (x_rgc (x := 1) (k := 1) (by decide)) c23).1
    refine x_lv C [1, 2, 4, 5, 0] rfl ?_
    exact b_X2_allows_105 r C x1 x3 x6 s0 M wx6 ws0 hI h
  · rw [if_neg c23] at h
    have g25 : xrg 2 2147483647 x2 := (x_c_nle (x_rgt x2) (x_rgc (x := 1) (k := 1) (by decide)) c23).1
    refine x_run C e_X2_allows_14 e_X2_allows_14_k (pc' := 94) (lv' := [(7, .int s0), (0, .ref 4), (1, .int x1), (2, .int x2), (3, .int x3), (6, .int x6)]) (st' := [.int (x1 &&& 1)]) (σ' := (M, L)) rfl ⟨trivial, trivial, trivial, trivial⟩ ?_
    refine x_if_eq C (show decode cX2_allows 94 = .ok (.ifCond .eq 11, 3) from by decide +kernel) (tgt := 105) (by decide) (fun c26 => ?_) (fun c26 => ?_)
    · rw [if_pos c26] at h
      have g27 : xrg 0 0 (x1 &&& 1) := (x_c_eq (x_rg_and (x := x1) (m := 1) (k := 1) (by decide) (by decide)) (x_rgc (x := 0) (k := 0) (by decide)) c26).1
      refine x_lv C [1, 2, 4, 5, 0] rfl ?_
      exact b_X2_allows_105 r C x1 x3 x6 s0 M wx6 ws0 hI h
    · rw [if_neg c26] at h
      have g28 : xrg 1 1 (x1 &&& 1) := (x_c_ne (x_rg_and (x := x1) (m := 1) (k := 1) (by decide) (by decide)) (by decide) c26)
      refine x_run C e_X2_allows_15 e_X2_allows_15_k (pc' := 102) (lv' := [(7, .int s0), (0, .ref 4), (1, .int x1), (2, .int x2), (3, .int x3), (6, .int x6)]) (st' := []) (σ' := ((xup M 4 10 3), L)) rfl ⟨trivial, trivial, trivial, trivial⟩ ?_
      have hI29 : InvK INVC (xup M 4 10 3) := (hI.set 4 10 (x_rgc (x := 3) (k := 3) (by decide)) (by decide))
      refine x_goto C (show decode cX2_allows 102 = .ok (.goto 23, 3) from by decide +kernel) (tgt := 125) (by decide) ?_
      refine x_lv C [1, 2, 4] rfl ?_
      exact b_X2_allows_125 r C x1 x3 (xup M 4 10 3) hI29 h
set_option maxRecDepth 20000 in
set_option maxHeartbeats 4000000 in
theorem b_X2_allows_83 {l : Launch} {L : Nat → Nat → Int64} {V : XJ} (r : Int32 × St) (C : C_X2_allows l r L V) (x1 : Int32) (x2 : Int32) (x3 : Int32) (x6 : Int32) (M : St) (wx6 : xrg 0 1 x6) (hI : InvK INVC M) (h : f_X2_allows_83 x1 x2 x3 x6 M = r) : V 0 0 83 [(0, .ref 4), (1, .int x1), (2, .int x2), (3, .int x3), (6, .int x6)] [] LAY (M, L) := by
  unfold f_X2_allows_83 at h
  refine x_run C e_X2_allows_12 e_X2_allows_12_k (pc' := 84) (lv' := [(0, .ref 4), (1, .int x1), (2, .int x2), (3, .int x3), (6, .int x6)]) (st' := [.int 0]) (σ' := (M, L)) rfl ⟨trivial, trivial⟩ ?_
  exact b_X2_allows_84 r C x1 x2 x3 x6 0 M wx6 (x_rgw (x_rgc (x := 0) (k := 0) (by decide)) (lo' := 0) (hi' := 1) (by decide) (by decide)) hI h
set_option maxRecDepth 20000 in
set_option maxHeartbeats 4000000 in
theorem b_X2_allows_53 {l : Launch} {L : Nat → Nat → Int64} {V : XJ} (r : Int32 × St) (C : C_X2_allows l r L V) (x1 : Int32) (x2 : Int32) (x3 : Int32) (x4 : Int32) (x5 : Int32) (s0 : Int32) (M : St) (ws0 : xrg 0 1 s0) (hI : InvK INVC M) (h : f_X2_allows_53 x1 x2 x3 x4 x5 s0 M = r) : V 0 0 53 [(0, .ref 4), (1, .int x1), (2, .int x2), (3, .int x3), (4, .int x4), (5, .int x5)] [.int s0] LAY (M, L) := by
  unfold f_X2_allows_53 at h
  refine x_run C e_X2_allows_8 e_X2_allows_8_k (pc' := 59) (lv' := [(6, .int s0), (0, .ref 4), (1, .int x1), (2, .int x2), (3, .int x3), (4, .int x4), (5, .int x5)]) (st' := [.int 4096, .int x1]) (σ' := (M, L)) rfl ⟨trivial, trivial, trivial, trivial⟩ ?_
  refine x_icmp_lt C (show decode cX2_allows 59 = .ok (.if_icmp .lt 24, 3) from by decide +kernel) (tgt := 83) (by decide) (fun c14 => ?_) (fun c14 => ?_)
  · rw [if_pos c14] at h
    have g15 : xrg (-2147483648) 4095 x1 := (x_c_lt (x_rgt x1) (x_rgc (x := 4096) (k := 4096) (by decide)) c14).1
    refine x_lv C [1, 2, 3, 4, 0] rfl ?_
    exact b_X2_allows_83 r C x1 x2 x3 s0 M ws0 hI h
  · rw [if_neg c14] at h
    have g16 : xrg 4096 2147483647 x1 := (x_c_nlt (x_rgt x1) (x_rgc (x := 4096) (k := 4096) (by decide)) c14).1
    refine x_run C e_X2_allows_9 e_X2_allows_9_k (pc' := 67) (lv' := [(6, .int s0), (0, .ref 4), (1, .int x1), (2, .int x2), (3, .int x3), (4, .int x4), (5, .int x5)]) (st' := [.int 4104, .int x4]) (σ' := (M, L)) rfl ⟨trivial, trivial, trivial⟩ ?_
    refine x_icmp_ge C (show decode cX2_allows 67 = .ok (.if_icmp .ge 16, 3) from by decide +kernel) (tgt := 83) (by decide) (fun c17 => ?_) (fun c17 => ?_)
    · rw [if_pos c17] at h
      have g18 : xrg 4104 2147483647 x4 := (x_c_le (x_rgc (x := 4104) (k := 4104) (by decide)) (x_rgt x4) c17).2
      refine x_lv C [1, 2, 3, 4, 0] rfl ?_
      exact b_X2_allows_83 r C x1 x2 x3 s0 M ws0 hI h
    · rw [if_neg c17] at h
      have g19 : xrg (-2147483648) 4103 x4 := (x_c_nle (x_rgc (x := 4104) (k := 4104) (by decide)) (x_rgt x4) c17).2
      refine x_run C e_X2_allows_10 e_X2_allows_10_k (pc' := 76) (lv' := [(6, .int s0), (0, .ref 4), (1, .int x1), (2, .int x2), (3, .int x3), (4, .int x4), (5, .int x5)]) (st' := [.int (x5 &&& 8192)]) (σ' := (M, L)) rfl ⟨trivial, trivial, trivial, trivial⟩ ?_
      refine x_if_eq C (show decode cX2_allows 76 = .ok (.ifCond .eq 7, 3) from by decide +kernel) (tgt := 83) (by decide) (fun c20 => ?_) (fun c20 => ?_)
      · rw [if_pos c20] at h
        have g21 : xrg 0 0 (x5 &&& 8192) := (x_c_eq (x_rg_and (x := x5) (m := 8192) (k := 8192) (by decide) (by decide)) (x_rgc (x := 0) (k := 0) (by decide)) c20).1
        refine x_lv C [1, 2, 3, 4, 0] rfl ?_
        exact b_X2_allows_83 r C x1 x2 x3 s0 M ws0 hI h
      · rw [if_neg c20] at h
        have g22 : xrg 1 8192 (x5 &&& 8192) := (x_c_ne (x_rg_and (x := x5) (m := 8192) (k := 8192) (by decide) (by decide)) (by decide) c20)
        refine x_run C e_X2_allows_11 e_X2_allows_11_k (pc' := 80) (lv' := [(6, .int s0), (0, .ref 4), (1, .int x1), (2, .int x2), (3, .int x3), (4, .int x4), (5, .int x5)]) (st' := [.int 1]) (σ' := (M, L)) rfl ⟨trivial, trivial⟩ ?_
        refine x_goto C (show decode cX2_allows 80 = .ok (.goto 4, 3) from by decide +kernel) (tgt := 84) (by decide) ?_
        refine x_lv C [1, 2, 3, 4, 0] rfl ?_
        exact b_X2_allows_84 r C x1 x2 x3 s0 1 M ws0 (x_rgw (x_rgc (x := 1) (k := 1) (by decide)) (lo' := 0) (hi' := 1) (by decide) (by decide)) hI h
set_option maxRecDepth 20000 in
set_option maxHeartbeats 4000000 in
theorem b_X2_allows_52 {l : Launch} {L : Nat → Nat → Int64} {V : XJ} (r : Int32 × St) (C : C_X2_allows l r L V) (x1 : Int32) (x2 : Int32) (x3 : Int32) (x4 : Int32) (x5 : Int32) (M : St) (hI : InvK INVC M) (h : f_X2_allows_52 x1 x2 x3 x4 x5 M = r) : V 0 0 52 [(0, .ref 4), (1, .int x1), (2, .int x2), (3, .int x3), (4, .int x4), (5, .int x5)] [] LAY (M, L) := by
  unfold f_X2_allows_52 at h
  refine x_run C e_X2_allows_6 e_X2_allows_6_k (pc' := 53) (lv' := [(0, .ref 4), (1, .int x1), (2, .int x2), (3, .int x3), (4, .int x4), (5, .int x5)]) (st' := [.int 0]) (σ' := (M, L)) rfl ⟨trivial, trivial⟩ ?_
  exact b_X2_allows_53 r C x1 x2 x3 x4 x5 0 M (x_rgw (x_rgc (x := 0) (k := 0) (by decide)) (lo' := 0) (hi' := 1) (by decide) (by decide)) hI h
set_option maxRecDepth 20000 in
set_option maxHeartbeats 4000000 in
theorem b_X2_allows_48 {l : Launch} {L : Nat → Nat → Int64} {V : XJ} (r : Int32 × St) (C : C_X2_allows l r L V) (x1 : Int32) (x2 : Int32) (x3 : Int32) (x4 : Int32) (x5 : Int32) (M : St) (wx4 : xrg (-2147483648) 2047 x4) (hI : InvK INVC M) (h : f_X2_allows_48 x1 x2 x3 x4 x5 M = r) : V 0 0 48 [(0, .ref 4), (1, .int x1), (2, .int x2), (3, .int x3), (4, .int x4), (5, .int x5)] [] LAY (M, L) := by
  unfold f_X2_allows_48 at h
  refine x_run C e_X2_allows_7 e_X2_allows_7_k (pc' := 49) (lv' := [(0, .ref 4), (1, .int x1), (2, .int x2), (3, .int x3), (4, .int x4), (5, .int x5)]) (st' := [.int 1]) (σ' := (M, L)) rfl ⟨trivial, trivial⟩ ?_
  refine x_goto C (show decode cX2_allows 49 = .ok (.goto 4, 3) from by decide +kernel) (tgt := 53) (by decide) ?_
  exact b_X2_allows_53 r C x1 x2 x3 x4 x5 1 M (x_rgw (x_rgc (x := 1) (k := 1) (by decide)) (lo' := 0) (hi' := 1) (by decide) (by decide)) hI h
set_option maxRecDepth 20000 in
set_option maxHeartbeats 4000000 in
theorem k_X2_allows (l : Launch) (a1 : Int32) (a2 : Int32) (a3 : Int32) (M : St) (L : Nat → Nat → Int64) (hI : InvK INVC M) : XM l yX2_allows cX2_allows 8 (some .boolean) R_X2_allows LAY [.ref 4, .int a1, .int a2, .int a3] (M, L) (P_X2_allows (f_X2_allows a1 a2 a3 M) L) := by
  refine XM.of (by decide) (Nat.le_of_ble_eq_true rfl) LAY_in cl_ok fl_X2_ok kc_X2_ok (fun V C => ?_)
  obtain ⟨r, h⟩ : ∃ r, f_X2_allows a1 a2 a3 M = r := ⟨_, rfl⟩
  rw [h] at C
  change C_X2_allows l r L V at C
  unfold f_X2_allows at h
  show V 0 0 0 [(0, .ref 4), (1, .int a1), (2, .int a2), (3, .int a3)] [] LAY (M, L)
  refine x_run C e_X2_allows_1 e_X2_allows_1_k (pc' := 4) (lv' := [(0, .ref 4), (1, .int a1), (2, .int a2), (3, .int a3)]) (st' := [.int (M 4 10)]) (σ' := (M, L)) rfl ⟨trivial, trivial, trivial⟩ ?_
  refine x_if_eq C (show decode cX2_allows 4 = .ok (.ifCond .eq 5, 3) from by decide +kernel) (tgt := 9) (by decide) (fun c1 => ?_) (fun c1 => ?_)
  · rw [if_pos c1] at h
    have g2 : xrg 0 0 (M 4 10) := (x_c_eq (hI.at 5 rfl) (x_rgc (x := 0) (k := 0) (by decide)) c1).1
    refine x_run C e_X2_allows_2 e_X2_allows_2_k (pc' := 33) (lv' := [(5, .int (M 2 18)), (4, .int ((a1 + a2) - 1)), (0, .ref 4), (1, .int a1), (2, .int a2), (3, .int a3)]) (st' := [.int 2048, .int ((a1 + a2) - 1)]) (σ' := (M, L)) rfl ⟨trivial, trivial, trivial, trivial, trivial, trivial, trivial, trivial, trivial, trivial, (x_rgv (x_rgc (x := 18) (k := 18) (by decide)) (by decide) (by decide)), trivial, trivial, trivial, trivial⟩ ?_
    refine x_icmp_ge C (show decode cX2_allows 33 = .ok (.if_icmp .ge 19, 3) from by decide +kernel) (tgt := 52) (by decide) (fun c3 => ?_) (fun c3 => ?_)
    · rw [if_pos c3] at h
      have g4 : xrg 2048 2147483647 ((a1 + a2) - 1) := (x_c_le (x_rgc (x := 2048) (k := 2048) (by decide)) (x_rgt ((a1 + a2) - 1)) c3).2
      refine x_lv C [2, 3, 4, 5, 1, 0] rfl ?_
      exact b_X2_allows_52 r C a1 a2 a3 ((a1 + a2) - 1) (M 2 18) M hI h
    · rw [if_neg c3] at h
      have g5 : xrg (-2147483648) 2047 ((a1 + a2) - 1) := (x_c_nle (x_rgc (x := 2048) (k := 2048) (by decide)) (x_rgt ((a1 + a2) - 1)) c3).2
      refine x_run C e_X2_allows_3 e_X2_allows_3_k (pc' := 37) (lv' := [(5, .int (M 2 18)), (4, .int ((a1 + a2) - 1)), (0, .ref 4), (1, .int a1), (2, .int a2), (3, .int a3)]) (st' := [.int a3]) (σ' := (M, L)) rfl ⟨trivial, trivial⟩ ?_
      refine x_if_ne C (show decode cX2_allows 37 = .ok (.ifCond .ne 11, 3) from by decide +kernel) (tgt := 48) (by decide) (fun c6 => ?_) (fun c6 => ?_)
      · rw [if_neg c6] at h
        refine x_lv C [2, 3, 4, 5, 1, 0] rfl ?_
        exact b_X2_allows_48 r C a1 a2 a3 ((a1 + a2) - 1) (M 2 18) M g5 hI h
      · rw [if_pos c6] at h
        have g7 : xrg 0 0 a3 := (x_c_eq (x_rgt a3) (x_rgc (x := 0) (k := 0) (by decide)) c6).1
        refine x_run C e_X2_allows_4 e_X2_allows_4_k (pc' := 45) (lv' := [(5, .int (M 2 18)), (4, .int ((a1 + a2) - 1)), (0, .ref 4), (1, .int a1), (2, .int a2), (3, .int a3)]) (st' := [.int (M 4 6), .int a1]) (σ' := (M, L)) rfl ⟨trivial, trivial, trivial, trivial⟩ ?_
        refine x_icmp_lt C (show decode cX2_allows 45 = .ok (.if_icmp .lt 7, 3) from by decide +kernel) (tgt := 52) (by decide) (fun c8 => ?_) (fun c8 => ?_)
        · rw [if_pos c8] at h
          have g9 : xrg (-2147483648) 2147483646 a1 := (x_c_lt (x_rgt a1) (x_rgt (M 4 6)) c8).1
          have g10 : xrg (-2147483647) 2147483647 (M 4 6) := (x_c_lt (x_rgt a1) (x_rgt (M 4 6)) c8).2
          refine x_lv C [2, 3, 4, 5, 1, 0] rfl ?_
          exact b_X2_allows_52 r C a1 a2 a3 ((a1 + a2) - 1) (M 2 18) M hI h
        · rw [if_neg c8] at h
          have g11 : xrg (-2147483648) 2147483647 a1 := (x_c_nlt (x_rgt a1) (x_rgt (M 4 6)) c8).1
          have g12 : xrg (-2147483648) 2147483647 (M 4 6) := (x_c_nlt (x_rgt a1) (x_rgt (M 4 6)) c8).2
          refine x_lv C [2, 3, 4, 5, 1, 0] rfl ?_
          exact b_X2_allows_48 r C a1 a2 a3 ((a1 + a2) - 1) (M 2 18) M g5 hI h
  · rw [if_neg c1] at h
    have g13 : xrg 1 3 (M 4 10) := (x_c_ne (hI.at 5 rfl) (by decide) c1)
    refine x_run C e_X2_allows_5 e_X2_allows_5_k (pc' := 8) (lv' := [(0, .ref 4), (1, .int a1), (2, .int a2), (3, .int a3)]) (st' := [.int 0]) (σ' := (M, L)) rfl ⟨trivial, trivial⟩ ?_
    subst h
    exact x_iret C (show decode cX2_allows 8 = .ok (.ireturn, 1) from by decide +kernel) (x_finI (x_nb (x_rgw (x_rgc (x := 0) (k := 0) (by decide)) (lo' := 0) (hi' := 1) (by decide) (by decide))) ⟨⟨rfl, rfl⟩, (x_rgw (x_rgc (x := 0) (k := 0) (by decide)) (lo' := 0) (hi' := 1) (by decide) (by decide)), hI⟩) (Nat.le_refl 0) (Nat.le_refl 0)
-- X2_readByte
def e_X2_readByte_1 : List xI := [(0, .iload_n 1, 1, .null), (1, .sipush 2048, 3, .int 2048)]
theorem e_X2_readByte_1_k : e_X2_readByte_1.all (fun q => xokB cX2_readByte q && xokL q) = true := by decide +kernel
def e_X2_readByte_2 : List xI := [(14, .iload_n 1, 1, .null)]
theorem e_X2_readByte_2_k : e_X2_readByte_2.all (fun q => xokB cX2_readByte q && xokL q) = true := by decide +kernel
def e_X2_readByte_3 : List xI := [(52, .aload_n 0, 1, .null), (53, .getfield 41, 3, .null)]
theorem e_X2_readByte_3_k : e_X2_readByte_3.all (fun q => xokB cX2_readByte q && xokL q) = true := by decide +kernel
def e_X2_readByte_4 : List xI := [(61, .aload_n 0, 1, .null), (62, .getfield 45, 3, .null), (65, .istore_n 2, 1, .null), (66, .aload_n 0, 1, .null), (67, .iload_n 2, 1, .null), (68, .iconst 1, 1, .int 1), (69, .iadd, 1, .null), (70, .bipush 16, 2, .int 16), (72, .irem, 1, .null), (73, .putfield 45, 3, .null), (76, .aload_n 0, 1, .null), (77, .dup, 1, .null), (78, .getfield 41, 3, .null), (81, .iconst 1, 1, .int 1), (82, .isub, 1, .null), (83, .putfield 41, 3, .null), (86, .aload_n 0, 1, .null), (87, .getfield 15, 3, .null), (90, .iload_n 2, 1, .null), (91, .iaload, 1, .null)]
theorem e_X2_readByte_4_k : e_X2_readByte_4.all (fun q => xokB cX2_readByte q && xokL q) = true := by decide +kernel
def e_X2_readByte_5 : List xI := [(59, .iconst 0, 1, .int 0)]
theorem e_X2_readByte_5_k : e_X2_readByte_5.all (fun q => xokB cX2_readByte q && xokL q) = true := by decide +kernel
def e_X2_readByte_6 : List xI := [(93, .aload_n 0, 1, .null), (94, .getfield 41, 3, .null)]
theorem e_X2_readByte_6_k : e_X2_readByte_6.all (fun q => xokB cX2_readByte q && xokL q) = true := by decide +kernel
def e_X2_readByte_7 : List xI := [(98, .aload_n 0, 1, .null), (99, .getfield 51, 3, .null), (102, .bipush 8, 2, .int 8), (104, .iushr, 1, .null)]
theorem e_X2_readByte_7_k : e_X2_readByte_7.all (fun q => xokB cX2_readByte q && xokL q) = true := by decide +kernel
def e_X2_readByte_8 : List xI := [(106, .aload_n 0, 1, .null), (107, .getfield 51, 3, .null), (110, .sipush 255, 3, .int 255), (113, .iand, 1, .null)]
theorem e_X2_readByte_8_k : e_X2_readByte_8.all (fun q => xokB cX2_readByte q && xokL q) = true := by decide +kernel
def e_X2_readByte_9 : List xI := [(115, .aload_n 0, 1, .null), (116, .getfield 54, 3, .null)]
theorem e_X2_readByte_9_k : e_X2_readByte_9.all (fun q => xokB cX2_readByte q && xokL q) = true := by decide +kernel
def e_X2_readByte_10 : List xI := [(120, .aload_n 0, 1, .null), (121, .getfield 57, 3, .null)]
theorem e_X2_readByte_10_k : e_X2_readByte_10.all (fun q => xokB cX2_readByte q && xokL q) = true := by decide +kernel
def e_X2_readByte_11 : List xI := [(131, .iconst 0, 1, .int 0)]
theorem e_X2_readByte_11_k : e_X2_readByte_11.all (fun q => xokB cX2_readByte q && xokL q) = true := by decide +kernel
def e_X2_readByte_12 : List xI := [(127, .iconst 1, 1, .int 1)]
theorem e_X2_readByte_12_k : e_X2_readByte_12.all (fun q => xokB cX2_readByte q && xokL q) = true := by decide +kernel
def e_X2_readByte_13 : List xI := [(133, .iconst 0, 1, .int 0)]
theorem e_X2_readByte_13_k : e_X2_readByte_13.all (fun q => xokB cX2_readByte q && xokL q) = true := by decide +kernel
def e_X2_readByte_14 : List xI := [(7, .aload_n 0, 1, .null), (8, .getfield 9, 3, .null), (11, .iload_n 1, 1, .null), (12, .iaload, 1, .null)]
theorem e_X2_readByte_14_k : e_X2_readByte_14.all (fun q => xokB cX2_readByte q && xokL q) = true := by decide +kernel
abbrev P_X2_readByte (r : Int32 × St) (L : Nat → Nat → Int64) : Option Value → xG → Prop := fun v σ' => PoI r.1 r.2 L v σ' ∧ True ∧ InvK INVC r.2
abbrev R_X2_readByte : Room := { frames := 0, cells := 0, slots := 0, locals := 0 }
abbrev C_X2_readByte (l : Launch) (r : Int32 × St) (L : Nat → Nat → Int64) (V : XJ) : Prop := XC l yX2_readByte.cls yX2_readByte.name cX2_readByte 3 R_X2_readByte 0 0 fl_X2 kc_X2 LAY.length (xfin (some .int) LAY (P_X2_readByte r L)) V
def f_X2_readByte (a1 : Int32) (M : St) : Int32 × St := (if 2048 ≤ a1 then (if a1 = 4096 then (if (M 4 4) = 0 then (0, M) else ((M 6 (M 4 3).toNatClampNeg), (xup (xup M 4 3 (((M 4 3) + 1) - ((M 4 3) + 1) / 16 * 16)) 4 4 ((M 4 4) - 1)))) else (if a1 = 4097 then ((M 4 4), M) else (if a1 = 4098 then ((ius (M 4 7) 8), M) else (if a1 = 4099 then (((M 4 7) &&& 255), M) else (if a1 = 4100 then ((M 4 8), M) else (if a1 = 4101 then (if (M 4 9) = 0 then (0, M) else (1, M)) else (0, M))))))) else ((M 5 a1.toNatClampNeg), M))
set_option maxRecDepth 20000 in
set_option maxHeartbeats 4000000 in
theorem k_X2_readByte (l : Launch) (a1 : Int32) (M : St) (L : Nat → Nat → Int64) (hp1 : xrg 0 2147483647 a1) (hI : InvK INVC M) : XM l yX2_readByte cX2_readByte 3 (some .int) R_X2_readByte LAY [.ref 4, .int a1] (M, L) (P_X2_readByte (f_X2_readByte a1 M) L) := by
  refine XM.of (by decide) (Nat.le_of_ble_eq_true rfl) LAY_in cl_ok fl_X2_ok kc_X2_ok (fun V C => ?_)
  obtain ⟨r, h⟩ : ∃ r, f_X2_readByte a1 M = r := ⟨_, rfl⟩
  rw [h] at C
  change C_X2_readByte l r L V at C
  unfold f_X2_readByte at h
  show V 0 0 0 [(0, .ref 4), (1, .int a1)] [] LAY (M, L)
  refine x_run C e_X2_readByte_1 e_X2_readByte_1_k (pc' := 4) (lv' := [(0, .ref 4), (1, .int a1)]) (st' := [.int 2048, .int a1]) (σ' := (M, L)) rfl ⟨trivial, trivial, trivial⟩ ?_
  refine x_icmp_ge C (show decode cX2_readByte 4 = .ok (.if_icmp .ge 10, 3) from by decide +kernel) (tgt := 14) (by decide) (fun c1 => ?_) (fun c1 => ?_)
  · rw [if_pos c1] at h
    have g2 : xrg 2048 2147483647 a1 := (x_c_le (x_rgc (x := 2048) (k := 2048) (by decide)) hp1 c1).2
    refine x_run C e_X2_readByte_2 e_X2_readByte_2_k (pc' := 15) (lv' := [(0, .ref 4), (1, .int a1)]) (st' := [.int a1]) (σ' := (M, L)) rfl ⟨trivial, trivial⟩ ?_
    by_cases c3 : a1 = 4096
    · rw [if_pos c3] at h
      refine x_tin C (show decode cX2_readByte 15 = .ok (.tableswitch 118 4096 4101 #[37, 78, 83, 91, 100, 105], 37) from by decide +kernel) 4096 c3 (off := 37) (tgt := 52) (by decide) ?_
      refine x_run C e_X2_readByte_3 e_X2_readByte_3_k (pc' := 56) (lv' := [(0, .ref 4), (1, .int a1)]) (st' := [.int (M 4 4)]) (σ' := (M, L)) rfl ⟨trivial, trivial, trivial⟩ ?_
      refine x_if_ne C (show decode cX2_readByte 56 = .ok (.ifCond .ne 5, 3) from by decide +kernel) (tgt := 61) (by decide) (fun c4 => ?_) (fun c4 => ?_)
      · rw [if_neg c4] at h
        have g5 : xrg 1 16 (M 4 4) := (x_c_ne (hI.at 1 rfl) (by decide) c4)
        refine x_run C e_X2_readByte_4 e_X2_readByte_4_k (pc' := 92) (lv' := [(2, .int (M 4 3)), (0, .ref 4), (1, .int a1)]) (st' := [.int (M 6 (M 4 3).toNatClampNeg)]) (σ' := ((xup (xup M 4 3 (((M 4 3) + 1) - ((M 4 3) + 1) / 16 * 16)) 4 4 ((M 4 4) - 1)), L)) rfl ⟨trivial, trivial, trivial, trivial, trivial, trivial, trivial, trivial, (by decide), trivial, trivial, trivial, trivial, trivial, trivial, trivial, trivial, trivial, trivial, (x_rgv (hI.at 0 rfl) (by decide) (by decide)), trivial⟩ ?_
        have hI6 : InvK INVC (xup (xup M 4 3 (((M 4 3) + 1) - ((M 4 3) + 1) / 16 * 16)) 4 4 ((M 4 4) - 1)) := ((hI.set 4 3 (x_rg_rem (y := 16) (k := 16) (x_rg_add (hI.at 0 rfl) (x_rgc (x := 1) (k := 1) (by decide)) (by decide) (by decide)) (by decide) (by decide) (by decide)) (by decide)).set 4 4 (x_rg_sub g5 (x_rgc (x := 1) (k := 1) (by decide)) (by decide) (by decide)) (by decide))
        subst h
        exact x_iret C (show decode cX2_readByte 92 = .ok (.ireturn, 1) from by decide +kernel) (x_finI rfl ⟨⟨rfl, rfl⟩, trivial, hI6⟩) (Nat.le_refl 0) (Nat.le_refl 0)
      · rw [if_pos c4] at h
        have g7 : xrg 0 0 (M 4 4) := (x_c_eq (hI.at 1 rfl) (x_rgc (x := 0) (k := 0) (by decide)) c4).1
        refine x_run C e_X2_readByte_5 e_X2_readByte_5_k (pc' := 60) (lv' := [(0, .ref 4), (1, .int a1)]) (st' := [.int 0]) (σ' := (M, L)) rfl ⟨trivial, trivial⟩ ?_
        subst h
        exact x_iret C (show decode cX2_readByte 60 = .ok (.ireturn, 1) from by decide +kernel) (x_finI rfl ⟨⟨rfl, rfl⟩, trivial, hI⟩) (Nat.le_refl 0) (Nat.le_refl 0)
    rw [if_neg c3] at h
    by_cases c8 : a1 = 4097
    · rw [if_pos c8] at h
      refine x_tin C (show decode cX2_readByte 15 = .ok (.tableswitch 118 4096 4101 #[37, 78, 83, 91, 100, 105], 37) from by decide +kernel) 4097 c8 (off := 78) (tgt := 93) (by decide) ?_
      refine x_run C e_X2_readByte_6 e_X2_readByte_6_k (pc' := 97) (lv' := [(0, .ref 4), (1, .int a1)]) (st' := [.int (M 4 4)]) (σ' := (M, L)) rfl ⟨trivial, trivial, trivial⟩ ?_
      subst h
      exact x_iret C (show decode cX2_readByte 97 = .ok (.ireturn, 1) from by decide +kernel) (x_finI rfl ⟨⟨rfl, rfl⟩, trivial, hI⟩) (Nat.le_refl 0) (Nat.le_refl 0)
    rw [if_neg c8] at h
    by_cases c9 : a1 = 4098
    · rw [if_pos c9] at h
      refine x_tin C (show decode cX2_readByte 15 = .ok (.tableswitch 118 4096 4101 #[37, 78, 83, 91, 100, 105], 37) from by decide +kernel) 4098 c9 (off := 83) (tgt := 98) (by decide) ?_
      refine x_run C e_X2_readByte_7 e_X2_readByte_7_k (pc' := 105) (lv' := [(0, .ref 4), (1, .int a1)]) (st' := [.int (ius (M 4 7) 8)]) (σ' := (M, L)) rfl ⟨trivial, trivial, trivial, trivial, trivial⟩ ?_
      subst h
      exact x_iret C (show decode cX2_readByte 105 = .ok (.ireturn, 1) from by decide +kernel) (x_finI rfl ⟨⟨rfl, rfl⟩, trivial, hI⟩) (Nat.le_refl 0) (Nat.le_refl 0)
    rw [if_neg c9] at h
    by_cases c10 : a1 = 4099
    · rw [if_pos c10] at h
      refine x_tin C (show decode cX2_readByte 15 = .ok (.tableswitch 118 4096 4101 #[37, 78, 83, 91, 100, 105], 37) from by decide +kernel) 4099 c10 (off := 91) (tgt := 106) (by decide) ?_
      refine x_run C e_X2_readByte_8 e_X2_readByte_8_k (pc' := 114) (lv' := [(0, .ref 4), (1, .int a1)]) (st' := [.int ((M 4 7) &&& 255)]) (σ' := (M, L)) rfl ⟨trivial, trivial, trivial, trivial, trivial⟩ ?_
      subst h
      exact x_iret C (show decode cX2_readByte 114 = .ok (.ireturn, 1) from by decide +kernel) (x_finI rfl ⟨⟨rfl, rfl⟩, trivial, hI⟩) (Nat.le_refl 0) (Nat.le_refl 0)
    rw [if_neg c10] at h
    by_cases c11 : a1 = 4100
    · rw [if_pos c11] at h
      refine x_tin C (show decode cX2_readByte 15 = .ok (.tableswitch 118 4096 4101 #[37, 78, 83, 91, 100, 105], 37) from by decide +kernel) 4100 c11 (off := 100) (tgt := 115) (by decide) ?_
      refine x_run C e_X2_readByte_9 e_X2_readByte_9_k (pc' := 119) (lv' := [(0, .ref 4), (1, .int a1)]) (st' := [.int (M 4 8)]) (σ' := (M, L)) rfl ⟨trivial, trivial, trivial⟩ ?_
      subst h
      exact x_iret C (show decode cX2_readByte 119 = .ok (.ireturn, 1) from by decide +kernel) (x_finI rfl ⟨⟨rfl, rfl⟩, trivial, hI⟩) (Nat.le_refl 0) (Nat.le_refl 0)
    rw [if_neg c11] at h
    by_cases c12 : a1 = 4101
    · rw [if_pos c12] at h
      refine x_tin C (show decode cX2_readByte 15 = .ok (.tableswitch 118 4096 4101 #[37, 78, 83, 91, 100, 105], 37) from by decide +kernel) 4101 c12 (off := 105) (tgt := 120) (by decide) ?_
      refine x_run C e_X2_readByte_10 e_X2_readByte_10_k (pc' := 124) (lv' := [(0, .ref 4), (1, .int a1)]) (st' := [.int (M 4 9)]) (σ' := (M, L)) rfl ⟨trivial, trivial, trivial⟩ ?_
      refine x_if_eq C (show decode cX2_readByte 124 = .ok (.ifCond .eq 7, 3) from by decide +kernel) (tgt := 131) (by decide) (fun c13 => ?_) (fun c13 => ?_)
      · rw [if_pos c13] at h
        have g14 : xrg 0 0 (M 4 9) := (x_c_eq (x_rgt (M 4 9)) (x_rgc (x := 0) (k := 0) (by decide)) c13).1
        refine x_run C e_X2_readByte_11 e_X2_readByte_11_k (pc' := 132) (lv' := [(0, .ref 4), (1, .int a1)]) (st' := [.int 0]) (σ' := (M, L)) rfl ⟨trivial, trivial⟩ ?_
        subst h
        exact x_iret C (show decode cX2_readByte 132 = .ok (.ireturn, 1) from by decide +kernel) (x_finI rfl ⟨⟨rfl, rfl⟩, trivial, hI⟩) (Nat.le_refl 0) (Nat.le_refl 0)
      · rw [if_neg c13] at h
        refine x_run C e_X2_readByte_12 e_X2_readByte_12_k (pc' := 128) (lv' := [(0, .ref 4), (1, .int a1)]) (st' := [.int 1]) (σ' := (M, L)) rfl ⟨trivial, trivial⟩ ?_
        refine x_goto C (show decode cX2_readByte 128 = .ok (.goto 4, 3) from by decide +kernel) (tgt := 132) (by decide) ?_
        subst h
        exact x_iret C (show decode cX2_readByte 132 = .ok (.ireturn, 1) from by decide +kernel) (x_finI rfl ⟨⟨rfl, rfl⟩, trivial, hI⟩) (Nat.le_refl 0) (Nat.le_refl 0)
    rw [if_neg c12] at h
    have hz : a1.toInt < 4096 ∨ 4101 < a1.toInt := by
      have zc3 := lv_neT (a := 4096) c3 (by decide)
      have zc8 := lv_neT (a := 4097) c8 (by decide)
      have zc9 := lv_neT (a := 4098) c9 (by decide)
      have zc10 := lv_neT (a := 4099) c10 (by decide)
      have zc11 := lv_neT (a := 4100) c11 (by decide)
      have zc12 := lv_neT (a := 4101) c12 (by decide)
      omega
    refine x_tout C (show decode cX2_readByte 15 = .ok (.tableswitch 118 4096 4101 #[37, 78, 83, 91, 100, 105], 37) from by decide +kernel) hz (tgt := 133) (by decide) ?_
    refine x_run C e_X2_readByte_13 e_X2_readByte_13_k (pc' := 134) (lv' := [(0, .ref 4), (1, .int a1)]) (st' := [.int 0]) (σ' := (M, L)) rfl ⟨trivial, trivial⟩ ?_
    subst h
    exact x_iret C (show decode cX2_readByte 134 = .ok (.ireturn, 1) from by decide +kernel) (x_finI rfl ⟨⟨rfl, rfl⟩, trivial, hI⟩) (Nat.le_refl 0) (Nat.le_refl 0)
  · rw [if_neg c1] at h
    have g15 : xrg 0 2047 a1 := (x_c_nle (x_rgc (x := 2048) (k := 2048) (by decide)) hp1 c1).2
    refine x_run C e_X2_readByte_14 e_X2_readByte_14_k (pc' := 13) (lv' := [(0, .ref 4), (1, .int a1)]) (st' := [.int (M 5 a1.toNatClampNeg)]) (σ' := (M, L)) rfl ⟨trivial, trivial, trivial, (x_rgv g15 (by decide) (by decide)), trivial⟩ ?_
    subst h
    exact x_iret C (show decode cX2_readByte 13 = .ok (.ireturn, 1) from by decide +kernel) (x_finI rfl ⟨⟨rfl, rfl⟩, trivial, hI⟩) (Nat.le_refl 0) (Nat.le_refl 0)
-- X2_read
def e_X2_read_1 : List xI := [(0, .iload_n 1, 1, .null), (1, .ldc 25, 2, .null), (3, .iand, 1, .null), (4, .istore 4, 2, .null), (6, .iload_n 2, 1, .null)]
theorem e_X2_read_1_k : e_X2_read_1.all (fun q => xokB cX2_read q && xokL q) = true := by decide +kernel
def e_X2_read_2 : List xI := [(10, .istore 5, 2, .null), (12, .aload_n 0, 1, .null), (13, .iload 4, 2, .null), (15, .iload 5, 2, .null), (17, .iload_n 3, 1, .null)]
theorem e_X2_read_2_k : e_X2_read_2.all (fun q => xokB cX2_read q && xokL q) = true := by decide +kernel
def e_X2_read_3 : List xI := [(26, .iconst 0, 1, .int 0), (27, .istore 6, 2, .null), (29, .iconst 0, 1, .int 0), (30, .istore 7, 2, .null)]
theorem e_X2_read_3_k : e_X2_read_3.all (fun q => xokB cX2_read q && xokL q) = true := by decide +kernel
def e_X2_read_4 : List xI := [(24, .iconst 0, 1, .int 0)]
theorem e_X2_read_4_k : e_X2_read_4.all (fun q => xokB cX2_read q && xokL q) = true := by decide +kernel
def e_X2_read_5 : List xI := [(32, .iload 7, 2, .null), (34, .iload 5, 2, .null)]
theorem e_X2_read_5_k : e_X2_read_5.all (fun q => xokB cX2_read q && xokL q) = true := by decide +kernel
def e_X2_read_6 : List xI := [(62, .iload 6, 2, .null)]
theorem e_X2_read_6_k : e_X2_read_6.all (fun q => xokB cX2_read q && xokL q) = true := by decide +kernel
def e_X2_read_7 : List xI := [(39, .iload 6, 2, .null), (41, .bipush 8, 2, .int 8), (43, .ishl, 1, .null), (44, .aload_n 0, 1, .null), (45, .iload 4, 2, .null), (47, .iload 7, 2, .null), (49, .iadd, 1, .null)]
theorem e_X2_read_7_k : e_X2_read_7.all (fun q => xokB cX2_read q && xokL q) = true := by decide +kernel
def e_X2_read_8 : List xI := [(53, .ior, 1, .null), (54, .istore 6, 2, .null), (56, .iinc 7 1, 3, .null)]
theorem e_X2_read_8_k : e_X2_read_8.all (fun q => xokB cX2_read q && xokL q) = true := by decide +kernel
abbrev P_X2_read (r : Int32 × St) (L : Nat → Nat → Int64) : Option Value → xG → Prop := fun v σ' => PoI r.1 r.2 L v σ' ∧ True ∧ InvK INVC r.2
abbrev R_X2_read : Room := { frames := 1, cells := 0, slots := 0, locals := 27 }
abbrev C_X2_read (l : Launch) (r : Int32 × St) (L : Nat → Nat → Int64) (V : XJ) : Prop := XC l yX2_read.cls yX2_read.name cX2_read 8 R_X2_read 0 0 fl_X2 kc_X2 LAY.length (xfin (some .int) LAY (P_X2_read r L)) V
def f_X2_read_32 : Nat → Int32 → Int32 → Int32 → Int32 → St → Int32 × St
  | 0, x4, x5, x6, x7, M => (0, M)
  | n + 1, x4, x5, x6, x7, M => (if x5 ≤ x7 then (x6, M) else (xb (f_X2_readByte (x4 + x7) M) fun q14 => f_X2_read_32 n x4 x5 ((x6 <<< ((8 : Int32) &&& 31)) ||| q14.1) (x7 + 1) q14.2))
def f_X2_read (a1 : Int32) (a2 : Int32) (a3 : Int32) (M : St) : Int32 × St := (xb (f_X2_allows (a1 &&& 16777215) (f_X10_bytesOf a2) a3 M) fun q4 => (if q4.1 = 0 then (0, q4.2) else f_X2_read_32 ((((f_X10_bytesOf a2)).toInt - (0 : Int32).toInt).toNat + 1) (a1 &&& 16777215) (f_X10_bytesOf a2) 0 0 q4.2))
set_option maxRecDepth 20000 in
set_option maxHeartbeats 4000000 in
theorem b_X2_read_32 {l : Launch} {L : Nat → Nat → Int64} {V : XJ} (r : Int32 × St) (C : C_X2_read l r L V) : ∀ (n : Nat) (x4 : Int32) (x5 : Int32) (x6 : Int32) (x7 : Int32) (M : St), xrg 0 16777215 x4 → xrg (-2147483648) 1073741824 x5 → xrg 0 2147483647 x7 → InvK INVC M → ((x5).toInt - x7.toInt).toNat < n → f_X2_read_32 n x4 x5 x6 x7 M = r → V 0 0 32 [(0, .ref 4), (4, .int x4), (5, .int x5), (6, .int x6), (7, .int x7)] [] LAY (M, L) := by
  intro n
  induction n with
  | zero => intro x4 x5 x6 x7 M  wx4 wx5 wx7 hI hm; exact absurd hm (Nat.not_lt_zero _)
  | succ n ih =>
    intro x4 x5 x6 x7 M  wx4 wx5 wx7 hI hm h
    unfold f_X2_read_32 at h
    refine x_run C e_X2_read_5 e_X2_read_5_k (pc' := 36) (lv' := [(0, .ref 4), (4, .int x4), (5, .int x5), (6, .int x6), (7, .int x7)]) (st' := [.int x5, .int x7]) (σ' := (M, L)) rfl ⟨trivial, trivial, trivial⟩ ?_
    refine x_icmp_ge C (show decode cX2_read 36 = .ok (.if_icmp .ge 26, 3) from by decide +kernel) (tgt := 62) (by decide) (fun c10 => ?_) (fun c10 => ?_)
    · rw [if_pos c10] at h
      refine x_run C e_X2_read_6 e_X2_read_6_k (pc' := 64) (lv' := [(0, .ref 4), (4, .int x4), (5, .int x5), (6, .int x6), (7, .int x7)]) (st' := [.int x6]) (σ' := (M, L)) rfl ⟨trivial, trivial⟩ ?_
      subst h
      exact x_iret C (show decode cX2_read 64 = .ok (.ireturn, 1) from by decide +kernel) (x_finI rfl ⟨⟨rfl, rfl⟩, trivial, hI⟩) (Nat.le_refl 0) (Nat.le_refl 0)
    · rw [if_neg c10] at h
      have g11 : xrg 1 1073741824 x5 := (x_c_nle wx5 wx7 c10).1
      have g12 : xrg 0 1073741823 x7 := (x_c_nle wx5 wx7 c10).2
      have hk13 := x_meas (x_nle c10) hm
      refine x_run C e_X2_read_7 e_X2_read_7_k (pc' := 50) (lv' := [(0, .ref 4), (4, .int x4), (5, .int x5), (6, .int x6), (7, .int x7)]) (st' := [.int (x4 + x7), .ref 4, .int (x6 <<< ((8 : Int32) &&& 31))]) (σ' := (M, L)) rfl ⟨trivial, trivial, trivial, trivial, trivial, trivial, trivial, trivial⟩ ?_
      refine x_callV C (k := 4) (ci := 1) (rest := [.int (x6 <<< ((8 : Int32) &&& 31))]) (avs := [.int (x4 + x7)]) (k_X2_readByte l (x4 + x7) M L (x_rgw (x_rg_add wx4 g12 (by decide) (by decide)) (lo' := 0) (hi' := 2147483647) (by decide) (by decide)) hI) yoX2_readByte ml_X2_34 rfl rfl rfl rfl ⟨Nat.zero_le _, Nat.zero_le _⟩ (show decode cX2_read 50 = .ok (.invokevirtual 34, 3) from by decide +kernel) rfl (fun v σ' hPo => ?_)
      obtain ⟨⟨rfl, rfl⟩, g15, hI16⟩ := hPo
      generalize hq14 : f_X2_readByte (x4 + x7) M = q14 at h g15 hI16 ⊢
      obtain ⟨r14, M14⟩ := q14
      have h := xb_eq h
      try dsimp only at h g15 hI16
      show V 0 0 53 [(0, .ref 4), (4, .int x4), (5, .int x5), (6, .int x6), (7, .int x7)] [.int r14, .int (x6 <<< ((8 : Int32) &&& 31))] LAY (M14, L)
      refine x_run C e_X2_read_8 e_X2_read_8_k (pc' := 59) (lv' := [(7, .int (x7 + 1)), (6, .int ((x6 <<< ((8 : Int32) &&& 31)) ||| r14)), (0, .ref 4), (4, .int x4), (5, .int x5)]) (st' := []) (σ' := (M14, L)) rfl ⟨trivial, trivial, trivial, trivial⟩ ?_
      refine x_goto C (show decode cX2_read 59 = .ok (.goto (-27), 3) from by decide +kernel) (tgt := 32) (by decide) ?_
      refine x_lv C [2, 3, 4, 1, 0] rfl ?_
      exact ih x4 x5 ((x6 <<< ((8 : Int32) &&& 31)) ||| r14) (x7 + 1) M14 wx4 (x_rgw g11 (lo' := (-2147483648)) (hi' := 1073741824) (by decide) (by decide)) (x_rgw (x_rg_add g12 (x_rgc (x := 1) (k := 1) (by decide)) (by decide) (by decide)) (lo' := 0) (hi' := 2147483647) (by decide) (by decide)) hI16 (hk13) h
set_option maxRecDepth 20000 in
set_option maxHeartbeats 4000000 in
theorem k_X2_read (l : Launch) (a1 : Int32) (a2 : Int32) (a3 : Int32) (M : St) (L : Nat → Nat → Int64) (hI : InvK INVC M) : XM l yX2_read cX2_read 8 (some .int) R_X2_read LAY [.ref 4, .int a1, .int a2, .int a3] (M, L) (P_X2_read (f_X2_read a1 a2 a3 M) L) := by
  refine XM.of (by decide) (Nat.le_of_ble_eq_true rfl) LAY_in cl_ok fl_X2_ok kc_X2_ok (fun V C => ?_)
  obtain ⟨r, h⟩ : ∃ r, f_X2_read a1 a2 a3 M = r := ⟨_, rfl⟩
  rw [h] at C
  change C_X2_read l r L V at C
  unfold f_X2_read at h
  show V 0 0 0 [(0, .ref 4), (1, .int a1), (2, .int a2), (3, .int a3)] [] LAY (M, L)
  refine x_run C e_X2_read_1 e_X2_read_1_k (pc' := 7) (lv' := [(4, .int (a1 &&& 16777215)), (0, .ref 4), (1, .int a1), (2, .int a2), (3, .int a3)]) (st' := [.int a2]) (σ' := (M, L)) rfl ⟨trivial, trivial, trivial, trivial, trivial, trivial⟩ ?_
  refine x_callSN C (rest := []) (avs := [.int a2]) (k_X10_bytesOf l a2 M L) yoX10_bytesOf ml_X2_26 rfl ⟨Nat.zero_le _, Nat.zero_le _⟩ (show decode cX2_read 7 = .ok (.invokestatic 26, 3) from by decide +kernel) rfl (fun v σ' hPo => ?_)
  obtain ⟨⟨rfl, rfl⟩, g2, -⟩ := hPo
  show V 0 0 10 [(4, .int (a1 &&& 16777215)), (0, .ref 4), (1, .int a1), (2, .int a2), (3, .int a3)] [.int (f_X10_bytesOf a2)] LAY (M, L)
  refine x_run C e_X2_read_2 e_X2_read_2_k (pc' := 18) (lv' := [(5, .int (f_X10_bytesOf a2)), (4, .int (a1 &&& 16777215)), (0, .ref 4), (1, .int a1), (2, .int a2), (3, .int a3)]) (st' := [.int a3, .int (f_X10_bytesOf a2), .int (a1 &&& 16777215), .ref 4]) (σ' := (M, L)) rfl ⟨trivial, trivial, trivial, trivial, trivial, trivial⟩ ?_
  refine x_callV C (k := 4) (ci := 1) (rest := []) (avs := [.int (a1 &&& 16777215), .int (f_X10_bytesOf a2), .int a3]) (k_X2_allows l (a1 &&& 16777215) (f_X10_bytesOf a2) a3 M L hI) yoX2_allows ml_X2_30 rfl rfl rfl rfl ⟨Nat.zero_le _, Nat.zero_le _⟩ (show decode cX2_read 18 = .ok (.invokevirtual 30, 3) from by decide +kernel) rfl (fun v σ' hPo => ?_)
  obtain ⟨⟨rfl, rfl⟩, g5, hI6⟩ := hPo
  generalize hq4 : f_X2_allows (a1 &&& 16777215) (f_X10_bytesOf a2) a3 M = q4 at h g5 hI6 ⊢
  obtain ⟨r4, M4⟩ := q4
  have h := xb_eq h
  try dsimp only at h g5 hI6
  show V 0 0 21 [(5, .int (f_X10_bytesOf a2)), (4, .int (a1 &&& 16777215)), (0, .ref 4), (1, .int a1), (2, .int a2), (3, .int a3)] [.int r4] LAY (M4, L)
  refine x_if_ne C (show decode cX2_read 21 = .ok (.ifCond .ne 5, 3) from by decide +kernel) (tgt := 26) (by decide) (fun c7 => ?_) (fun c7 => ?_)
  · rw [if_neg c7] at h
    have g8 : xrg 1 1 r4 := (x_c_ne g5 (by decide) c7)
    refine x_run C e_X2_read_3 e_X2_read_3_k (pc' := 32) (lv' := [(7, .int 0), (6, .int 0), (5, .int (f_X10_bytesOf a2)), (4, .int (a1 &&& 16777215)), (0, .ref 4), (1, .int a1), (2, .int a2), (3, .int a3)]) (st' := []) (σ' := (M4, L)) rfl ⟨trivial, trivial, trivial, trivial, trivial⟩ ?_
    refine x_lv C [4, 3, 2, 1, 0] rfl ?_
    exact b_X2_read_32 r C ((((f_X10_bytesOf a2)).toInt - (0 : Int32).toInt).toNat + 1) (a1 &&& 16777215) (f_X10_bytesOf a2) 0 0 M4 (x_rg_and (x := a1) (m := 16777215) (k := 16777215) (by decide) (by decide)) g2 (x_rgw (x_rgc (x := 0) (k := 0) (by decide)) (lo' := 0) (hi' := 2147483647) (by decide) (by decide)) hI6 (Nat.lt_succ_self _) h
  · rw [if_pos c7] at h
    have g9 : xrg 0 0 r4 := (x_c_eq g5 (x_rgc (x := 0) (k := 0) (by decide)) c7).1
    refine x_run C e_X2_read_4 e_X2_read_4_k (pc' := 25) (lv' := [(5, .int (f_X10_bytesOf a2)), (4, .int (a1 &&& 16777215)), (0, .ref 4), (1, .int a1), (2, .int a2), (3, .int a3)]) (st' := [.int 0]) (σ' := (M4, L)) rfl ⟨trivial, trivial⟩ ?_
    subst h
    exact x_iret C (show decode cX2_read 25 = .ok (.ireturn, 1) from by decide +kernel) (x_finI rfl ⟨⟨rfl, rfl⟩, trivial, hI6⟩) (Nat.le_refl 0) (Nat.le_refl 0)
-- X2_quietTimer
def e_X2_quietTimer_1 : List xI := [(0, .aload_n 0, 1, .null), (1, .iconst 0, 1, .int 0), (2, .putfield 51, 3, .null), (5, .aload_n 0, 1, .null), (6, .iconst 0, 1, .int 0), (7, .putfield 54, 3, .null), (10, .aload_n 0, 1, .null), (11, .iconst 0, 1, .int 0), (12, .putfield 57, 3, .null)]
theorem e_X2_quietTimer_1_k : e_X2_quietTimer_1.all (fun q => xokB cX2_quietTimer q && xokL q) = true := by decide +kernel
abbrev P_X2_quietTimer (r : St) (L : Nat → Nat → Int64) : Option Value → xG → Prop := fun v σ' => PoV r L v σ' ∧ InvK INVC r
abbrev R_X2_quietTimer : Room := { frames := 0, cells := 0, slots := 0, locals := 0 }
abbrev C_X2_quietTimer (l : Launch) (r : St) (L : Nat → Nat → Int64) (V : XJ) : Prop := XC l yX2_quietTimer.cls yX2_quietTimer.name cX2_quietTimer 1 R_X2_quietTimer 0 0 fl_X2 kc_X2 LAY.length (xfin none LAY (P_X2_quietTimer r L)) V
def f_X2_quietTimer (M : St) : St := (xup (xup (xup M 4 7 0) 4 8 0) 4 9 0)
set_option maxRecDepth 20000 in
set_option maxHeartbeats 4000000 in
theorem k_X2_quietTimer (l : Launch) (M : St) (L : Nat → Nat → Int64) (hI : InvK INVC M) : XM l yX2_quietTimer cX2_quietTimer 1 none R_X2_quietTimer LAY [.ref 4] (M, L) (P_X2_quietTimer (f_X2_quietTimer M) L) := by
  refine XM.of (by decide) (Nat.le_of_ble_eq_true rfl) LAY_in cl_ok fl_X2_ok kc_X2_ok (fun V C => ?_)
  obtain ⟨r, h⟩ : ∃ r, f_X2_quietTimer M = r := ⟨_, rfl⟩
  rw [h] at C
  change C_X2_quietTimer l r L V at C
  unfold f_X2_quietTimer at h
  show V 0 0 0 [(0, .ref 4)] [] LAY (M, L)
  refine x_run C e_X2_quietTimer_1 e_X2_quietTimer_1_k (pc' := 15) (lv' := [(0, .ref 4)]) (st' := []) (σ' := ((xup (xup (xup M 4 7 0) 4 8 0) 4 9 0), L)) rfl ⟨trivial, trivial, trivial, trivial, trivial, trivial, trivial, trivial, (x_rgb (x_rgw (x_rgc (x := 0) (k := 0) (by decide)) (lo' := 0) (hi' := 1) (by decide) (by decide))), trivial⟩ ?_
  have hI1 : InvK INVC (xup (xup (xup M 4 7 0) 4 8 0) 4 9 0) := (((hI.set 4 7 (x_rgc (x := 0) (k := 0) (by decide)) (by decide)).set 4 8 (x_rgc (x := 0) (k := 0) (by decide)) (by decide)).fld 4 9 0 (by decide))
  subst h
  exact x_vret C (show decode cX2_quietTimer 15 = .ok (.return_, 1) from by decide +kernel) (x_finV ⟨⟨rfl, rfl⟩, hI1⟩) (Nat.le_refl 0) (Nat.le_refl 0)
-- X7_startAnew
def e_X7_startAnew_1 : List xI := [(0, .aload_n 0, 1, .null), (1, .getfield 19, 3, .null), (4, .sipush 9984, 3, .int 9984)]
theorem e_X7_startAnew_1_k : e_X7_startAnew_1.all (fun q => xokB cX7_startAnew q && xokL q) = true := by decide +kernel
def e_X7_startAnew_2 : List xI := [(10, .aload_n 0, 1, .null), (11, .getfield 29, 3, .null)]
theorem e_X7_startAnew_2_k : e_X7_startAnew_2.all (fun q => xokB cX7_startAnew q && xokL q) = true := by decide +kernel
def e_X7_startAnew_3 : List xI := [(17, .aload_n 0, 1, .null), (18, .getfield 28, 3, .null), (21, .bipush 15, 2, .int 15), (23, .aload_n 0, 1, .null), (24, .getfield 29, 3, .null), (27, .iconst 0, 1, .int 0), (28, .iconst 2, 1, .int 2), (29, .iconst 1, 1, .int 1)]
theorem e_X7_startAnew_3_k : e_X7_startAnew_3.all (fun q => xokB cX7_startAnew q && xokL q) = true := by decide +kernel
def e_X7_startAnew_4 : List xI := [(33, .iastore, 1, .null), (34, .aload_n 0, 1, .null), (35, .getfield 28, 3, .null), (38, .bipush 17, 2, .int 17), (40, .aload_n 0, 1, .null), (41, .getfield 29, 3, .null), (44, .iconst 4, 1, .int 4), (45, .iconst 2, 1, .int 2), (46, .iconst 1, 1, .int 1)]
theorem e_X7_startAnew_4_k : e_X7_startAnew_4.all (fun q => xokB cX7_startAnew q && xokL q) = true := by decide +kernel
def e_X7_startAnew_5 : List xI := [(50, .iastore, 1, .null), (51, .aload_n 0, 1, .null), (52, .getfield 29, 3, .null)]
theorem e_X7_startAnew_5_k : e_X7_startAnew_5.all (fun q => xokB cX7_startAnew q && xokL q) = true := by decide +kernel
def e_X7_startAnew_6 : List xI := [(58, .aload_n 0, 1, .null), (59, .iconst 0, 1, .int 0), (60, .putfield 15, 3, .null), (63, .aload_n 0, 1, .null), (64, .iconst 0, 1, .int 0), (65, .putfield 74, 3, .null), (68, .aload_n 0, 1, .null), (69, .iconst 0, 1, .int 0), (70, .putfield 77, 3, .null), (73, .aload_n 0, 1, .null), (74, .iconst 0, 1, .int 0), (75, .putfield 81, 3, .null)]
theorem e_X7_startAnew_6_k : e_X7_startAnew_6.all (fun q => xokB cX7_startAnew q && xokL q) = true := by decide +kernel
abbrev P_X7_startAnew (r : St) (L : Nat → Nat → Int64) : Option Value → xG → Prop := fun v σ' => PoV r L v σ' ∧ InvK INVC r
abbrev R_X7_startAnew : Room := { frames := 2, cells := 0, slots := 0, locals := 54 }
abbrev C_X7_startAnew (l : Launch) (r : St) (L : Nat → Nat → Int64) (V : XJ) : Prop := XC l yX7_startAnew.cls yX7_startAnew.name cX7_startAnew 1 R_X7_startAnew 0 0 fl_X7 kc_X7 LAY.length (xfin none LAY (P_X7_startAnew r L)) V
def f_X7_startAnew (M : St) : St := (xb (f_X8_changeStatus 9984 M) fun q1 => (xb (f_X2_clearError  q1) fun q4 => (xb (f_X2_read 0 2 1 q4) fun q7 => (xb (f_X2_read 4 2 1 (xup q7.2 2 15 q7.1)) fun q11 => (xb (f_X2_quietTimer  (xup q11.2 2 17 q11.1)) fun q15 => (xup (xup (xup (xup q15 8 7 0) 8 8 0) 8 10 0) 8 11 0))))))
set_option maxRecDepth 20000 in
set_option maxHeartbeats 4000000 in
theorem k_X7_startAnew (l : Launch) (M : St) (L : Nat → Nat → Int64) (hI : InvK INVC M) : XM l yX7_startAnew cX7_startAnew 1 none R_X7_startAnew LAY [.ref 8] (M, L) (P_X7_startAnew (f_X7_startAnew M) L) := by
  refine XM.of (by decide) (Nat.le_of_ble_eq_true rfl) LAY_in cl_ok fl_X7_ok kc_X7_ok (fun V C => ?_)
  obtain ⟨r, h⟩ : ∃ r, f_X7_startAnew M = r := ⟨_, rfl⟩
  rw [h] at C
  change C_X7_startAnew l r L V at C
  unfold f_X7_startAnew at h
  show V 0 0 0 [(0, .ref 8)] [] LAY (M, L)
  refine x_run C e_X7_startAnew_1 e_X7_startAnew_1_k (pc' := 7) (lv' := [(0, .ref 8)]) (st' := [.int 9984, .ref 1]) (σ' := (M, L)) rfl ⟨trivial, trivial, trivial, trivial⟩ ?_
  refine x_callV C (k := 1) (ci := 6) (rest := []) (avs := [.int 9984]) (k_X8_changeStatus l 9984 M L hI) yoX8_changeStatus ml_X7_58 rfl rfl rfl rfl ⟨Nat.zero_le _, Nat.zero_le _⟩ (show decode cX7_startAnew 7 = .ok (.invokevirtual 58, 3) from by decide +kernel) rfl (fun v σ' hPo => ?_)
  obtain ⟨⟨rfl, rfl⟩, hI3⟩ := hPo
  generalize hq1 : f_X8_changeStatus 9984 M = q1 at h hI3 ⊢
  have h := xb_eq h
  show V 0 0 10 [(0, .ref 8)] [] LAY (q1, L)
  refine x_run C e_X7_startAnew_2 e_X7_startAnew_2_k (pc' := 14) (lv' := [(0, .ref 8)]) (st' := [.ref 4]) (σ' := (q1, L)) rfl ⟨trivial, trivial, trivial⟩ ?_
  refine x_callV C (k := 4) (ci := 1) (rest := []) (avs := []) (k_X2_clearError l  q1 L hI3) yoX2_clearError ml_X7_62 rfl rfl rfl rfl ⟨Nat.zero_le _, Nat.zero_le _⟩ (show decode cX7_startAnew 14 = .ok (.invokevirtual 62, 3) from by decide +kernel) rfl (fun v σ' hPo => ?_)
  obtain ⟨⟨rfl, rfl⟩, hI6⟩ := hPo
  generalize hq4 : f_X2_clearError  q1 = q4 at h hI6 ⊢
  have h := xb_eq h
  show V 0 0 17 [(0, .ref 8)] [] LAY (q4, L)
  refine x_run C e_X7_startAnew_3 e_X7_startAnew_3_k (pc' := 30) (lv' := [(0, .ref 8)]) (st' := [.int 1, .int 2, .int 0, .ref 4, .int 15, .ref 2]) (σ' := (q4, L)) rfl ⟨trivial, trivial, trivial, trivial, trivial, trivial, trivial, trivial, trivial⟩ ?_
  refine x_callV C (k := 4) (ci := 1) (rest := [.int 15, .ref 2]) (avs := [.int 0, .int 2, .int 1]) (k_X2_read l 0 2 1 q4 L hI6) yoX2_read ml_X7_67 rfl rfl rfl rfl ⟨Nat.zero_le _, Nat.zero_le _⟩ (show decode cX7_startAnew 30 = .ok (.invokevirtual 67, 3) from by decide +kernel) rfl (fun v σ' hPo => ?_)
  obtain ⟨⟨rfl, rfl⟩, g8, hI9⟩ := hPo
  generalize hq7 : f_X2_read 0 2 1 q4 = q7 at h g8 hI9 ⊢
  obtain ⟨r7, M7⟩ := q7
  have h := xb_eq h
  try dsimp only at h g8 hI9
  show V 0 0 33 [(0, .ref 8)] [.int r7, .int 15, .ref 2] LAY (M7, L)
  refine x_run C e_X7_startAnew_4 e_X7_startAnew_4_k (pc' := 47) (lv' := [(0, .ref 8)]) (st' := [.int 1, .int 2, .int 4, .ref 4, .int 17, .ref 2]) (σ' := ((xup M7 2 15 r7), L)) rfl ⟨(x_rgv (x_rgc (x := 15) (k := 15) (by decide)) (by decide) (by decide)), trivial, trivial, trivial, trivial, trivial, trivial, trivial, trivial, trivial⟩ ?_
  have hI10 : InvK INVC (xup M7 2 15 r7) := (hI9.arr 2 15 r7 (by decide))
  refine x_callV C (k := 4) (ci := 1) (rest := [.int 17, .ref 2]) (avs := [.int 4, .int 2, .int 1]) (k_X2_read l 4 2 1 (xup M7 2 15 r7) L hI10) yoX2_read ml_X7_67 rfl rfl rfl rfl ⟨Nat.zero_le _, Nat.zero_le _⟩ (show decode cX7_startAnew 47 = .ok (.invokevirtual 67, 3) from by decide +kernel) rfl (fun v σ' hPo => ?_)
  obtain ⟨⟨rfl, rfl⟩, g12, hI13⟩ := hPo
  generalize hq11 : f_X2_read 4 2 1 (xup M7 2 15 r7) = q11 at h g12 hI13 ⊢
  obtain ⟨r11, M11⟩ := q11
  have h := xb_eq h
  try dsimp only at h g12 hI13
  show V 0 0 50 [(0, .ref 8)] [.int r11, .int 17, .ref 2] LAY (M11, L)
  refine x_run C e_X7_startAnew_5 e_X7_startAnew_5_k (pc' := 55) (lv' := [(0, .ref 8)]) (st' := [.ref 4]) (σ' := ((xup M11 2 17 r11), L)) rfl ⟨(x_rgv (x_rgc (x := 17) (k := 17) (by decide)) (by decide) (by decide)), trivial, trivial, trivial⟩ ?_
  have hI14 : InvK INVC (xup M11 2 17 r11) := (hI13.arr 2 17 r11 (by decide))
  refine x_callV C (k := 4) (ci := 1) (rest := []) (avs := []) (k_X2_quietTimer l  (xup M11 2 17 r11) L hI14) yoX2_quietTimer ml_X7_71 rfl rfl rfl rfl ⟨Nat.zero_le _, Nat.zero_le _⟩ (show decode cX7_startAnew 55 = .ok (.invokevirtual 71, 3) from by decide +kernel) rfl (fun v σ' hPo => ?_)
  obtain ⟨⟨rfl, rfl⟩, hI17⟩ := hPo
  generalize hq15 : f_X2_quietTimer  (xup M11 2 17 r11) = q15 at h hI17 ⊢
  have h := xb_eq h
  show V 0 0 58 [(0, .ref 8)] [] LAY (q15, L)
  refine x_run C e_X7_startAnew_6 e_X7_startAnew_6_k (pc' := 78) (lv' := [(0, .ref 8)]) (st' := []) (σ' := ((xup (xup (xup (xup q15 8 7 0) 8 8 0) 8 10 0) 8 11 0), L)) rfl ⟨trivial, trivial, (x_rgb (x_rgw (x_rgc (x := 0) (k := 0) (by decide)) (lo' := 0) (hi' := 1) (by decide) (by decide))), trivial, trivial, (x_rgb (x_rgw (x_rgc (x := 0) (k := 0) (by decide)) (lo' := 0) (hi' := 1) (by decide) (by decide))), trivial, trivial, trivial, trivial, trivial, trivial, trivial⟩ ?_
  have hI18 : InvK INVC (xup (xup (xup (xup q15 8 7 0) 8 8 0) 8 10 0) 8 11 0) := ((((hI17.fld 8 7 0 (by decide)).fld 8 8 0 (by decide)).fld 8 10 0 (by decide)).fld 8 11 0 (by decide))
  subst h
  exact x_vret C (show decode cX7_startAnew 78 = .ok (.return_, 1) from by decide +kernel) (x_finV ⟨⟨rfl, rfl⟩, hI18⟩) (Nat.le_refl 0) (Nat.le_refl 0)
-- X10_reset
def e_X10_reset_1 : List xI := [(0, .aload_n 0, 1, .null), (1, .getfield 30, 3, .null)]
theorem e_X10_reset_1_k : e_X10_reset_1.all (fun q => xokB cX10_reset q && xokL q) = true := by decide +kernel
abbrev P_X10_reset (r : St) (L : Nat → Nat → Int64) : Option Value → xG → Prop := fun v σ' => PoV r L v σ' ∧ InvK INVC r
abbrev R_X10_reset : Room := { frames := 3, cells := 0, slots := 0, locals := 74 }
abbrev C_X10_reset (l : Launch) (r : St) (L : Nat → Nat → Int64) (V : XJ) : Prop := XC l yX10_reset.cls yX10_reset.name cX10_reset 1 R_X10_reset 0 0 fl_X10 kc_X10 LAY.length (xfin none LAY (P_X10_reset r L)) V
def f_X10_reset (M : St) : St := (xb (f_X7_startAnew  M) fun q1 => q1)
set_option maxRecDepth 20000 in
set_option maxHeartbeats 4000000 in
theorem k_X10_reset (l : Launch) (M : St) (L : Nat → Nat → Int64) (hI : InvK INVC M) : XM l yX10_reset cX10_reset 1 none R_X10_reset LAY [.ref 0] (M, L) (P_X10_reset (f_X10_reset M) L) := by
  refine XM.of (by decide) (Nat.le_of_ble_eq_true rfl) LAY_in cl_ok fl_X10_ok kc_X10_ok (fun V C => ?_)
  obtain ⟨r, h⟩ : ∃ r, f_X10_reset M = r := ⟨_, rfl⟩
  rw [h] at C
  change C_X10_reset l r L V at C
  unfold f_X10_reset at h
  show V 0 0 0 [(0, .ref 0)] [] LAY (M, L)
  refine x_run C e_X10_reset_1 e_X10_reset_1_k (pc' := 4) (lv' := [(0, .ref 0)]) (st' := [.ref 8]) (σ' := (M, L)) rfl ⟨trivial, trivial, trivial⟩ ?_
  refine x_callV C (k := 8) (ci := 5) (rest := []) (avs := []) (k_X7_startAnew l  M L hI) yoX7_startAnew ml_X10_52 rfl rfl rfl rfl ⟨Nat.zero_le _, Nat.zero_le _⟩ (show decode cX10_reset 4 = .ok (.invokevirtual 52, 3) from by decide +kernel) rfl (fun v σ' hPo => ?_)
  obtain ⟨⟨rfl, rfl⟩, hI3⟩ := hPo
  generalize hq1 : f_X7_startAnew  M = q1 at h hI3 ⊢
  have h := xb_eq h
  show V 0 0 7 [(0, .ref 0)] [] LAY (q1, L)
  subst h
  exact x_vret C (show decode cX10_reset 7 = .ok (.return_, 1) from by decide +kernel) (x_finV ⟨⟨rfl, rfl⟩, hI3⟩) (Nat.le_refl 0) (Nat.le_refl 0)
-- X2_enqueue
def e_X2_enqueue_1 : List xI := [(0, .aload_n 0, 1, .null), (1, .getfield 41, 3, .null), (4, .bipush 16, 2, .int 16)]
theorem e_X2_enqueue_1_k : e_X2_enqueue_1.all (fun q => xokB cX2_enqueue q && xokL q) = true := by decide +kernel
def e_X2_enqueue_2 : List xI := [(11, .aload_n 0, 1, .null), (12, .getfield 15, 3, .null), (15, .aload_n 0, 1, .null), (16, .getfield 45, 3, .null), (19, .aload_n 0, 1, .null), (20, .getfield 41, 3, .null), (23, .iadd, 1, .null), (24, .bipush 16, 2, .int 16), (26, .irem, 1, .null), (27, .iload_n 1, 1, .null), (28, .iastore, 1, .null), (29, .aload_n 0, 1, .null), (30, .dup, 1, .null), (31, .getfield 41, 3, .null), (34, .iconst 1, 1, .int 1), (35, .iadd, 1, .null), (36, .putfield 41, 3, .null), (39, .iconst 1, 1, .int 1)]
theorem e_X2_enqueue_2_k : e_X2_enqueue_2.all (fun q => xokB cX2_enqueue q && xokL q) = true := by decide +kernel
def e_X2_enqueue_3 : List xI := [(9, .iconst 0, 1, .int 0)]
theorem e_X2_enqueue_3_k : e_X2_enqueue_3.all (fun q => xokB cX2_enqueue q && xokL q) = true := by decide +kernel
abbrev P_X2_enqueue (r : Int32 × St) (L : Nat → Nat → Int64) : Option Value → xG → Prop := fun v σ' => PoI r.1 r.2 L v σ' ∧ xrg 0 1 r.1 ∧ InvK INVC r.2
abbrev R_X2_enqueue : Room := { frames := 0, cells := 0, slots := 0, locals := 0 }
abbrev C_X2_enqueue (l : Launch) (r : Int32 × St) (L : Nat → Nat → Int64) (V : XJ) : Prop := XC l yX2_enqueue.cls yX2_enqueue.name cX2_enqueue 2 R_X2_enqueue 0 0 fl_X2 kc_X2 LAY.length (xfin (some .boolean) LAY (P_X2_enqueue r L)) V
def f_X2_enqueue (a1 : Int32) (M : St) : Int32 × St := (if (M 4 4) < 16 then (1, (xup (xup M 6 (((M 4 3) + (M 4 4)) - ((M 4 3) + (M 4 4)) / 16 * 16).toNatClampNeg a1) 4 4 ((M 4 4) + 1))) else (0, M))
set_option maxRecDepth 20000 in
set_option maxHeartbeats 4000000 in
theorem k_X2_enqueue (l : Launch) (a1 : Int32) (M : St) (L : Nat → Nat → Int64) (hp1 : xrg 0 255 a1) (hI : InvK INVC M) : XM l yX2_enqueue cX2_enqueue 2 (some .boolean) R_X2_enqueue LAY [.ref 4, .int a1] (M, L) (P_X2_enqueue (f_X2_enqueue a1 M) L) := by
  refine XM.of (by decide) (Nat.le_of_ble_eq_true rfl) LAY_in cl_ok fl_X2_ok kc_X2_ok (fun V C => ?_)
  obtain ⟨r, h⟩ : ∃ r, f_X2_enqueue a1 M = r := ⟨_, rfl⟩
  rw [h] at C
  change C_X2_enqueue l r L V at C
  unfold f_X2_enqueue at h
  show V 0 0 0 [(0, .ref 4), (1, .int a1)] [] LAY (M, L)
  refine x_run C e_X2_enqueue_1 e_X2_enqueue_1_k (pc' := 6) (lv' := [(0, .ref 4), (1, .int a1)]) (st' := [.int 16, .int (M 4 4)]) (σ' := (M, L)) rfl ⟨trivial, trivial, trivial, trivial⟩ ?_
  refine x_icmp_lt C (show decode cX2_enqueue 6 = .ok (.if_icmp .lt 5, 3) from by decide +kernel) (tgt := 11) (by decide) (fun c1 => ?_) (fun c1 => ?_)
  · rw [if_pos c1] at h
    have g2 : xrg 0 15 (M 4 4) := (x_c_lt (hI.at 1 rfl) (x_rgc (x := 16) (k := 16) (by decide)) c1).1
    refine x_run C e_X2_enqueue_2 e_X2_enqueue_2_k (pc' := 40) (lv' := [(0, .ref 4), (1, .int a1)]) (st' := [.int 1]) (σ' := ((xup (xup M 6 (((M 4 3) + (M 4 4)) - ((M 4 3) + (M 4 4)) / 16 * 16).toNatClampNeg a1) 4 4 ((M 4 4) + 1)), L)) rfl ⟨trivial, trivial, trivial, trivial, trivial, trivial, trivial, trivial, (by decide), trivial, (x_rgv (x_rg_rem (y := 16) (k := 16) (x_rg_add (hI.at 0 rfl) g2 (by decide) (by decide)) (by decide) (by decide) (by decide)) (by decide) (by decide)), trivial, trivial, trivial, trivial, trivial, trivial, trivial, trivial⟩ ?_
    have hI3 : InvK INVC (xup (xup M 6 (((M 4 3) + (M 4 4)) - ((M 4 3) + (M 4 4)) / 16 * 16).toNatClampNeg a1) 4 4 ((M 4 4) + 1)) := ((hI.arrv 6 ((((M 4 3) + (M 4 4)) - ((M 4 3) + (M 4 4)) / 16 * 16).toNatClampNeg) hp1 (by decide)).set 4 4 (x_rg_add g2 (x_rgc (x := 1) (k := 1) (by decide)) (by decide) (by decide)) (by decide))
    subst h
    exact x_iret C (show decode cX2_enqueue 40 = .ok (.ireturn, 1) from by decide +kernel) (x_finI (x_nb (x_rgw (x_rgc (x := 1) (k := 1) (by decide)) (lo' := 0) (hi' := 1) (by decide) (by decide))) ⟨⟨rfl, rfl⟩, (x_rgw (x_rgc (x := 1) (k := 1) (by decide)) (lo' := 0) (hi' := 1) (by decide) (by decide)), hI3⟩) (Nat.le_refl 0) (Nat.le_refl 0)
  · rw [if_neg c1] at h
    have g4 : xrg 16 16 (M 4 4) := (x_c_nlt (hI.at 1 rfl) (x_rgc (x := 16) (k := 16) (by decide)) c1).1
    refine x_run C e_X2_enqueue_3 e_X2_enqueue_3_k (pc' := 10) (lv' := [(0, .ref 4), (1, .int a1)]) (st' := [.int 0]) (σ' := (M, L)) rfl ⟨trivial, trivial⟩ ?_
    subst h
    exact x_iret C (show decode cX2_enqueue 10 = .ok (.ireturn, 1) from by decide +kernel) (x_finI (x_nb (x_rgw (x_rgc (x := 0) (k := 0) (by decide)) (lo' := 0) (hi' := 1) (by decide) (by decide))) ⟨⟨rfl, rfl⟩, (x_rgw (x_rgc (x := 0) (k := 0) (by decide)) (lo' := 0) (hi' := 1) (by decide) (by decide)), hI⟩) (Nat.le_refl 0) (Nat.le_refl 0)
-- X10_type
def e_X10_type_1 : List xI := [(0, .aload_n 0, 1, .null), (1, .getfield 21, 3, .null), (4, .iload_n 1, 1, .null), (5, .sipush 255, 3, .int 255), (8, .iand, 1, .null)]
theorem e_X10_type_1_k : e_X10_type_1.all (fun q => xokB cX10_type q && xokL q) = true := by decide +kernel
abbrev P_X10_type (r : Int32 × St) (L : Nat → Nat → Int64) : Option Value → xG → Prop := fun v σ' => PoI r.1 r.2 L v σ' ∧ xrg 0 1 r.1 ∧ InvK INVC r.2
abbrev R_X10_type : Room := { frames := 1, cells := 0, slots := 0, locals := 21 }
abbrev C_X10_type (l : Launch) (r : Int32 × St) (L : Nat → Nat → Int64) (V : XJ) : Prop := XC l yX10_type.cls yX10_type.name cX10_type 2 R_X10_type 0 0 fl_X10 kc_X10 LAY.length (xfin (some .boolean) LAY (P_X10_type r L)) V
def f_X10_type (a1 : Int32) (M : St) : Int32 × St := (xb (f_X2_enqueue (a1 &&& 255) M) fun q1 => (q1.1, q1.2))
set_option maxRecDepth 20000 in
set_option maxHeartbeats 4000000 in
theorem k_X10_type (l : Launch) (a1 : Int32) (M : St) (L : Nat → Nat → Int64) (hI : InvK INVC M) : XM l yX10_type cX10_type 2 (some .boolean) R_X10_type LAY [.ref 0, .int a1] (M, L) (P_X10_type (f_X10_type a1 M) L) := by
  refine XM.of (by decide) (Nat.le_of_ble_eq_true rfl) LAY_in cl_ok fl_X10_ok kc_X10_ok (fun V C => ?_)
  obtain ⟨r, h⟩ : ∃ r, f_X10_type a1 M = r := ⟨_, rfl⟩
  rw [h] at C
  change C_X10_type l r L V at C
  unfold f_X10_type at h
  show V 0 0 0 [(0, .ref 0), (1, .int a1)] [] LAY (M, L)
  refine x_run C e_X10_type_1 e_X10_type_1_k (pc' := 9) (lv' := [(0, .ref 0), (1, .int a1)]) (st' := [.int (a1 &&& 255), .ref 4]) (σ' := (M, L)) rfl ⟨trivial, trivial, trivial, trivial, trivial, trivial⟩ ?_
  refine x_callV C (k := 4) (ci := 1) (rest := []) (avs := [.int (a1 &&& 255)]) (k_X2_enqueue l (a1 &&& 255) M L (x_rg_and (x := a1) (m := 255) (k := 255) (by decide) (by decide)) hI) yoX2_enqueue ml_X10_69 rfl rfl rfl rfl ⟨Nat.zero_le _, Nat.zero_le _⟩ (show decode cX10_type 9 = .ok (.invokevirtual 69, 3) from by decide +kernel) rfl (fun v σ' hPo => ?_)
  obtain ⟨⟨rfl, rfl⟩, g2, hI3⟩ := hPo
  generalize hq1 : f_X2_enqueue (a1 &&& 255) M = q1 at h g2 hI3 ⊢
  obtain ⟨r1, M1⟩ := q1
  have h := xb_eq h
  try dsimp only at h g2 hI3
  show V 0 0 12 [(0, .ref 0), (1, .int a1)] [.int r1] LAY (M1, L)
  subst h
  exact x_iret C (show decode cX10_type 12 = .ok (.ireturn, 1) from by decide +kernel) (x_finI (x_nb g2) ⟨⟨rfl, rfl⟩, g2, hI3⟩) (Nat.le_refl 0) (Nat.le_refl 0)
-- X10_said
def e_X10_said_1 : List xI := [(0, .iload_n 1, 1, .null)]
theorem e_X10_said_1_k : e_X10_said_1.all (fun q => xokB cX10_said q && xokL q) = true := by decide +kernel
def e_X10_said_2 : List xI := [(27, .iconst (-1), 1, .int (-1))]
theorem e_X10_said_2_k : e_X10_said_2.all (fun q => xokB cX10_said q && xokL q) = true := by decide +kernel
def e_X10_said_3 : List xI := [(4, .iload_n 1, 1, .null), (5, .aload_n 0, 1, .null), (6, .getfield 21, 3, .null), (9, .getfield 73, 3, .null)]
theorem e_X10_said_3_k : e_X10_said_3.all (fun q => xokB cX10_said q && xokL q) = true := by decide +kernel
def e_X10_said_4 : List xI := [(15, .aload_n 0, 1, .null), (16, .getfield 21, 3, .null), (19, .getfield 76, 3, .null), (22, .iload_n 1, 1, .null), (23, .iaload, 1, .null)]
theorem e_X10_said_4_k : e_X10_said_4.all (fun q => xokB cX10_said q && xokL q) = true := by decide +kernel
abbrev P_X10_said (r : Int32) (M0 : St) (L : Nat → Nat → Int64) : Option Value → xG → Prop := fun v σ' => PoI r M0 L v σ' ∧ True ∧ InvK INVC M0
abbrev R_X10_said : Room := { frames := 0, cells := 0, slots := 0, locals := 0 }
abbrev C_X10_said (l : Launch) (r : Int32) (M0 : St) (L : Nat → Nat → Int64) (V : XJ) : Prop := XC l yX10_said.cls yX10_said.name cX10_said 2 R_X10_said 0 0 fl_X10 kc_X10 LAY.length (xfin (some .int) LAY (P_X10_said r M0 L)) V
def f_X10_said (a1 : Int32) (M : St) : Int32 := (if a1 < 0 then (-1) else (if (M 4 5) ≤ a1 then (-1) else (M 7 a1.toNatClampNeg)))
set_option maxRecDepth 20000 in
set_option maxHeartbeats 4000000 in
theorem k_X10_said (l : Launch) (a1 : Int32) (M : St) (L : Nat → Nat → Int64) (hI : InvK INVC M) : XM l yX10_said cX10_said 2 (some .int) R_X10_said LAY [.ref 0, .int a1] (M, L) (P_X10_said (f_X10_said a1 M) M L) := by
  refine XM.of (by decide) (Nat.le_of_ble_eq_true rfl) LAY_in cl_ok fl_X10_ok kc_X10_ok (fun V C => ?_)
  obtain ⟨r, h⟩ : ∃ r, f_X10_said a1 M = r := ⟨_, rfl⟩
  rw [h] at C
  change C_X10_said l r M L V at C
  unfold f_X10_said at h
  show V 0 0 0 [(0, .ref 0), (1, .int a1)] [] LAY (M, L)
  refine x_run C e_X10_said_1 e_X10_said_1_k (pc' := 1) (lv' := [(0, .ref 0), (1, .int a1)]) (st' := [.int a1]) (σ' := (M, L)) rfl ⟨trivial, trivial⟩ ?_
  refine x_if_lt C (show decode cX10_said 1 = .ok (.ifCond .lt 26, 3) from by decide +kernel) (tgt := 27) (by decide) (fun c1 => ?_) (fun c1 => ?_)
  · rw [if_pos c1] at h
    have g2 : xrg (-2147483648) (-1) a1 := (x_c_lt (x_rgt a1) (x_rgc (x := 0) (k := 0) (by decide)) c1).1
    refine x_run C e_X10_said_2 e_X10_said_2_k (pc' := 28) (lv' := [(0, .ref 0), (1, .int a1)]) (st' := [.int (-1)]) (σ' := (M, L)) rfl ⟨trivial, trivial⟩ ?_
    subst h
    exact x_iret C (show decode cX10_said 28 = .ok (.ireturn, 1) from by decide +kernel) (x_finI rfl ⟨⟨rfl, rfl⟩, trivial, hI⟩) (Nat.le_refl 0) (Nat.le_refl 0)
  · rw [if_neg c1] at h
    have g3 : xrg 0 2147483647 a1 := (x_c_nlt (x_rgt a1) (x_rgc (x := 0) (k := 0) (by decide)) c1).1
    refine x_run C e_X10_said_3 e_X10_said_3_k (pc' := 12) (lv' := [(0, .ref 0), (1, .int a1)]) (st' := [.int (M 4 5), .int a1]) (σ' := (M, L)) rfl ⟨trivial, trivial, trivial, trivial, trivial⟩ ?_
    refine x_icmp_ge C (show decode cX10_said 12 = .ok (.if_icmp .ge 15, 3) from by decide +kernel) (tgt := 27) (by decide) (fun c4 => ?_) (fun c4 => ?_)
    · rw [if_pos c4] at h
      refine x_run C e_X10_said_2 e_X10_said_2_k (pc' := 28) (lv' := [(0, .ref 0), (1, .int a1)]) (st' := [.int (-1)]) (σ' := (M, L)) rfl ⟨trivial, trivial⟩ ?_
      subst h
      exact x_iret C (show decode cX10_said 28 = .ok (.ireturn, 1) from by decide +kernel) (x_finI rfl ⟨⟨rfl, rfl⟩, trivial, hI⟩) (Nat.le_refl 0) (Nat.le_refl 0)
    · rw [if_neg c4] at h
      have g5 : xrg 1 64 (M 4 5) := (x_c_nle (hI.at 2 rfl) g3 c4).1
      have g6 : xrg 0 63 a1 := (x_c_nle (hI.at 2 rfl) g3 c4).2
      refine x_run C e_X10_said_4 e_X10_said_4_k (pc' := 24) (lv' := [(0, .ref 0), (1, .int a1)]) (st' := [.int (M 7 a1.toNatClampNeg)]) (σ' := (M, L)) rfl ⟨trivial, trivial, trivial, trivial, (x_rgv g6 (by decide) (by decide)), trivial⟩ ?_
      refine x_goto C (show decode cX10_said 24 = .ok (.goto 4, 3) from by decide +kernel) (tgt := 28) (by decide) ?_
      subst h
      exact x_iret C (show decode cX10_said 28 = .ok (.ireturn, 1) from by decide +kernel) (x_finI rfl ⟨⟨rfl, rfl⟩, trivial, hI⟩) (Nat.le_refl 0) (Nat.le_refl 0)
-- X10_memory
def e_X10_memory_1 : List xI := [(0, .iload_n 1, 1, .null)]
theorem e_X10_memory_1_k : e_X10_memory_1.all (fun q => xokB cX10_memory q && xokL q) = true := by decide +kernel
def e_X10_memory_2 : List xI := [(23, .iconst (-1), 1, .int (-1))]
theorem e_X10_memory_2_k : e_X10_memory_2.all (fun q => xokB cX10_memory q && xokL q) = true := by decide +kernel
def e_X10_memory_3 : List xI := [(4, .iload_n 1, 1, .null), (5, .sipush 2048, 3, .int 2048)]
theorem e_X10_memory_3_k : e_X10_memory_3.all (fun q => xokB cX10_memory q && xokL q) = true := by decide +kernel
def e_X10_memory_4 : List xI := [(11, .aload_n 0, 1, .null), (12, .getfield 21, 3, .null), (15, .getfield 87, 3, .null), (18, .iload_n 1, 1, .null), (19, .iaload, 1, .null)]
theorem e_X10_memory_4_k : e_X10_memory_4.all (fun q => xokB cX10_memory q && xokL q) = true := by decide +kernel
abbrev P_X10_memory (r : Int32) (M0 : St) (L : Nat → Nat → Int64) : Option Value → xG → Prop := fun v σ' => PoI r M0 L v σ' ∧ xrg (-1) 255 r ∧ InvK INVC M0
abbrev R_X10_memory : Room := { frames := 0, cells := 0, slots := 0, locals := 0 }
abbrev C_X10_memory (l : Launch) (r : Int32) (M0 : St) (L : Nat → Nat → Int64) (V : XJ) : Prop := XC l yX10_memory.cls yX10_memory.name cX10_memory 2 R_X10_memory 0 0 fl_X10 kc_X10 LAY.length (xfin (some .int) LAY (P_X10_memory r M0 L)) V
def f_X10_memory (a1 : Int32) (M : St) : Int32 := (if a1 < 0 then (-1) else (if 2048 ≤ a1 then (-1) else (M 5 a1.toNatClampNeg)))
set_option maxRecDepth 20000 in
set_option maxHeartbeats 4000000 in
theorem k_X10_memory (l : Launch) (a1 : Int32) (M : St) (L : Nat → Nat → Int64) (hI : InvK INVC M) : XM l yX10_memory cX10_memory 2 (some .int) R_X10_memory LAY [.ref 0, .int a1] (M, L) (P_X10_memory (f_X10_memory a1 M) M L) := by
  refine XM.of (by decide) (Nat.le_of_ble_eq_true rfl) LAY_in cl_ok fl_X10_ok kc_X10_ok (fun V C => ?_)
  obtain ⟨r, h⟩ : ∃ r, f_X10_memory a1 M = r := ⟨_, rfl⟩
  rw [h] at C
  change C_X10_memory l r M L V at C
  unfold f_X10_memory at h
  show V 0 0 0 [(0, .ref 0), (1, .int a1)] [] LAY (M, L)
  refine x_run C e_X10_memory_1 e_X10_memory_1_k (pc' := 1) (lv' := [(0, .ref 0), (1, .int a1)]) (st' := [.int a1]) (σ' := (M, L)) rfl ⟨trivial, trivial⟩ ?_
  refine x_if_lt C (show decode cX10_memory 1 = .ok (.ifCond .lt 22, 3) from by decide +kernel) (tgt := 23) (by decide) (fun c1 => ?_) (fun c1 => ?_)
  · rw [if_pos c1] at h
    have g2 : xrg (-2147483648) (-1) a1 := (x_c_lt (x_rgt a1) (x_rgc (x := 0) (k := 0) (by decide)) c1).1
    refine x_run C e_X10_memory_2 e_X10_memory_2_k (pc' := 24) (lv' := [(0, .ref 0), (1, .int a1)]) (st' := [.int (-1)]) (σ' := (M, L)) rfl ⟨trivial, trivial⟩ ?_
    subst h
    exact x_iret C (show decode cX10_memory 24 = .ok (.ireturn, 1) from by decide +kernel) (x_finI rfl ⟨⟨rfl, rfl⟩, (x_rgw (x_rgc (x := (-1)) (k := (-1)) (by decide)) (lo' := (-1)) (hi' := 255) (by decide) (by decide)), hI⟩) (Nat.le_refl 0) (Nat.le_refl 0)
  · rw [if_neg c1] at h
    have g3 : xrg 0 2147483647 a1 := (x_c_nlt (x_rgt a1) (x_rgc (x := 0) (k := 0) (by decide)) c1).1
    refine x_run C e_X10_memory_3 e_X10_memory_3_k (pc' := 8) (lv' := [(0, .ref 0), (1, .int a1)]) (st' := [.int 2048, .int a1]) (σ' := (M, L)) rfl ⟨trivial, trivial, trivial⟩ ?_
    refine x_icmp_ge C (show decode cX10_memory 8 = .ok (.if_icmp .ge 15, 3) from by decide +kernel) (tgt := 23) (by decide) (fun c4 => ?_) (fun c4 => ?_)
    · rw [if_pos c4] at h
      have g5 : xrg 2048 2147483647 a1 := (x_c_le (x_rgc (x := 2048) (k := 2048) (by decide)) g3 c4).2
      refine x_run C e_X10_memory_2 e_X10_memory_2_k (pc' := 24) (lv' := [(0, .ref 0), (1, .int a1)]) (st' := [.int (-1)]) (σ' := (M, L)) rfl ⟨trivial, trivial⟩ ?_
      subst h
      exact x_iret C (show decode cX10_memory 24 = .ok (.ireturn, 1) from by decide +kernel) (x_finI rfl ⟨⟨rfl, rfl⟩, (x_rgw (x_rgc (x := (-1)) (k := (-1)) (by decide)) (lo' := (-1)) (hi' := 255) (by decide) (by decide)), hI⟩) (Nat.le_refl 0) (Nat.le_refl 0)
    · rw [if_neg c4] at h
      have g6 : xrg 0 2047 a1 := (x_c_nle (x_rgc (x := 2048) (k := 2048) (by decide)) g3 c4).2
      refine x_run C e_X10_memory_4 e_X10_memory_4_k (pc' := 20) (lv' := [(0, .ref 0), (1, .int a1)]) (st' := [.int (M 5 a1.toNatClampNeg)]) (σ' := (M, L)) rfl ⟨trivial, trivial, trivial, trivial, (x_rgv g6 (by decide) (by decide)), trivial⟩ ?_
      refine x_goto C (show decode cX10_memory 20 = .ok (.goto 4, 3) from by decide +kernel) (tgt := 24) (by decide) ?_
      subst h
      exact x_iret C (show decode cX10_memory 24 = .ok (.ireturn, 1) from by decide +kernel) (x_finI rfl ⟨⟨rfl, rfl⟩, (x_rgw (hI.a5 (a1.toNatClampNeg)) (lo' := (-1)) (hi' := 255) (by decide) (by decide)), hI⟩) (Nat.le_refl 0) (Nat.le_refl 0)
-- X10_state
def e_X10_state_1 : List xI := [(0, .aload_n 0, 1, .null), (1, .getfield 30, 3, .null), (4, .getfield 55, 3, .null)]
theorem e_X10_state_1_k : e_X10_state_1.all (fun q => xokB cX10_state q && xokL q) = true := by decide +kernel
def e_X10_state_2 : List xI := [(12, .aload_n 0, 1, .null), (13, .getfield 30, 3, .null), (16, .getfield 102, 3, .null)]
theorem e_X10_state_2_k : e_X10_state_2.all (fun q => xokB cX10_state q && xokL q) = true := by decide +kernel
def e_X10_state_3 : List xI := [(26, .iconst 0, 1, .int 0)]
theorem e_X10_state_3_k : e_X10_state_3.all (fun q => xokB cX10_state q && xokL q) = true := by decide +kernel
def e_X10_state_4 : List xI := [(22, .iconst 1, 1, .int 1)]
theorem e_X10_state_4_k : e_X10_state_4.all (fun q => xokB cX10_state q && xokL q) = true := by decide +kernel
def e_X10_state_5 : List xI := [(10, .iconst 2, 1, .int 2)]
theorem e_X10_state_5_k : e_X10_state_5.all (fun q => xokB cX10_state q && xokL q) = true := by decide +kernel
abbrev P_X10_state (r : Int32) (M0 : St) (L : Nat → Nat → Int64) : Option Value → xG → Prop := fun v σ' => PoI r M0 L v σ' ∧ xrg 0 2 r ∧ InvK INVC M0
abbrev R_X10_state : Room := { frames := 0, cells := 0, slots := 0, locals := 0 }
abbrev C_X10_state (l : Launch) (r : Int32) (M0 : St) (L : Nat → Nat → Int64) (V : XJ) : Prop := XC l yX10_state.cls yX10_state.name cX10_state 1 R_X10_state 0 0 fl_X10 kc_X10 LAY.length (xfin (some .int) LAY (P_X10_state r M0 L)) V
def f_X10_state (M : St) : Int32 := (if (M 8 7) = 0 then (if (M 8 8) = 0 then 0 else 1) else 2)
set_option maxRecDepth 20000 in
set_option maxHeartbeats 4000000 in
theorem k_X10_state (l : Launch) (M : St) (L : Nat → Nat → Int64) (hI : InvK INVC M) : XM l yX10_state cX10_state 1 (some .int) R_X10_state LAY [.ref 0] (M, L) (P_X10_state (f_X10_state M) M L) := by
  refine XM.of (by decide) (Nat.le_of_ble_eq_true rfl) LAY_in cl_ok fl_X10_ok kc_X10_ok (fun V C => ?_)
  obtain ⟨r, h⟩ : ∃ r, f_X10_state M = r := ⟨_, rfl⟩
  rw [h] at C
  change C_X10_state l r M L V at C
  unfold f_X10_state at h
  show V 0 0 0 [(0, .ref 0)] [] LAY (M, L)
  refine x_run C e_X10_state_1 e_X10_state_1_k (pc' := 7) (lv' := [(0, .ref 0)]) (st' := [.int (M 8 7)]) (σ' := (M, L)) rfl ⟨trivial, trivial, trivial, trivial⟩ ?_
  refine x_if_eq C (show decode cX10_state 7 = .ok (.ifCond .eq 5, 3) from by decide +kernel) (tgt := 12) (by decide) (fun c1 => ?_) (fun c1 => ?_)
  · rw [if_pos c1] at h
    have g2 : xrg 0 0 (M 8 7) := (x_c_eq (x_rgt (M 8 7)) (x_rgc (x := 0) (k := 0) (by decide)) c1).1
    refine x_run C e_X10_state_2 e_X10_state_2_k (pc' := 19) (lv' := [(0, .ref 0)]) (st' := [.int (M 8 8)]) (σ' := (M, L)) rfl ⟨trivial, trivial, trivial, trivial⟩ ?_
    refine x_if_eq C (show decode cX10_state 19 = .ok (.ifCond .eq 7, 3) from by decide +kernel) (tgt := 26) (by decide) (fun c3 => ?_) (fun c3 => ?_)
    · rw [if_pos c3] at h
      have g4 : xrg 0 0 (M 8 8) := (x_c_eq (x_rgt (M 8 8)) (x_rgc (x := 0) (k := 0) (by decide)) c3).1
      refine x_run C e_X10_state_3 e_X10_state_3_k (pc' := 27) (lv' := [(0, .ref 0)]) (st' := [.int 0]) (σ' := (M, L)) rfl ⟨trivial, trivial⟩ ?_
      subst h
      exact x_iret C (show decode cX10_state 27 = .ok (.ireturn, 1) from by decide +kernel) (x_finI rfl ⟨⟨rfl, rfl⟩, (x_rgw (x_rgc (x := 0) (k := 0) (by decide)) (lo' := 0) (hi' := 2) (by decide) (by decide)), hI⟩) (Nat.le_refl 0) (Nat.le_refl 0)
    · rw [if_neg c3] at h
      refine x_run C e_X10_state_4 e_X10_state_4_k (pc' := 23) (lv' := [(0, .ref 0)]) (st' := [.int 1]) (σ' := (M, L)) rfl ⟨trivial, trivial⟩ ?_
      refine x_goto C (show decode cX10_state 23 = .ok (.goto 4, 3) from by decide +kernel) (tgt := 27) (by decide) ?_
      subst h
      exact x_iret C (show decode cX10_state 27 = .ok (.ireturn, 1) from by decide +kernel) (x_finI rfl ⟨⟨rfl, rfl⟩, (x_rgw (x_rgc (x := 1) (k := 1) (by decide)) (lo' := 0) (hi' := 2) (by decide) (by decide)), hI⟩) (Nat.le_refl 0) (Nat.le_refl 0)
  · rw [if_neg c1] at h
    refine x_run C e_X10_state_5 e_X10_state_5_k (pc' := 11) (lv' := [(0, .ref 0)]) (st' := [.int 2]) (σ' := (M, L)) rfl ⟨trivial, trivial⟩ ?_
    subst h
    exact x_iret C (show decode cX10_state 11 = .ok (.ireturn, 1) from by decide +kernel) (x_finI rfl ⟨⟨rfl, rfl⟩, (x_rgw (x_rgc (x := 2) (k := 2) (by decide)) (lo' := 0) (hi' := 2) (by decide) (by decide)), hI⟩) (Nat.le_refl 0) (Nat.le_refl 0)
-- X10_counted
def e_X10_counted_1 : List xI := [(0, .iload_n 1, 1, .null)]
theorem e_X10_counted_1_k : e_X10_counted_1.all (fun q => xokB cX10_counted q && xokL q) = true := by decide +kernel
def e_X10_counted_2 : List xI := [(22, .iconst 0, 1, .int 0)]
theorem e_X10_counted_2_k : e_X10_counted_2.all (fun q => xokB cX10_counted q && xokL q) = true := by decide +kernel
def e_X10_counted_3 : List xI := [(4, .iload_n 1, 1, .null), (5, .bipush 48, 2, .int 48)]
theorem e_X10_counted_3_k : e_X10_counted_3.all (fun q => xokB cX10_counted q && xokL q) = true := by decide +kernel
def e_X10_counted_4 : List xI := [(10, .aload_n 0, 1, .null), (11, .getfield 30, 3, .null), (14, .getfield 105, 3, .null), (17, .iload_n 1, 1, .null), (18, .iaload, 1, .null)]
theorem e_X10_counted_4_k : e_X10_counted_4.all (fun q => xokB cX10_counted q && xokL q) = true := by decide +kernel
abbrev P_X10_counted (r : Int32) (M0 : St) (L : Nat → Nat → Int64) : Option Value → xG → Prop := fun v σ' => PoI r M0 L v σ' ∧ True ∧ InvK INVC M0
abbrev R_X10_counted : Room := { frames := 0, cells := 0, slots := 0, locals := 0 }
abbrev C_X10_counted (l : Launch) (r : Int32) (M0 : St) (L : Nat → Nat → Int64) (V : XJ) : Prop := XC l yX10_counted.cls yX10_counted.name cX10_counted 2 R_X10_counted 0 0 fl_X10 kc_X10 LAY.length (xfin (some .int) LAY (P_X10_counted r M0 L)) V
def f_X10_counted (a1 : Int32) (M : St) : Int32 := (if a1 < 0 then 0 else (if 48 ≤ a1 then 0 else (M 9 a1.toNatClampNeg)))
set_option maxRecDepth 20000 in
set_option maxHeartbeats 4000000 in
theorem k_X10_counted (l : Launch) (a1 : Int32) (M : St) (L : Nat → Nat → Int64) (hI : InvK INVC M) : XM l yX10_counted cX10_counted 2 (some .int) R_X10_counted LAY [.ref 0, .int a1] (M, L) (P_X10_counted (f_X10_counted a1 M) M L) := by
  refine XM.of (by decide) (Nat.le_of_ble_eq_true rfl) LAY_in cl_ok fl_X10_ok kc_X10_ok (fun V C => ?_)
  obtain ⟨r, h⟩ : ∃ r, f_X10_counted a1 M = r := ⟨_, rfl⟩
  rw [h] at C
  change C_X10_counted l r M L V at C
  unfold f_X10_counted at h
  show V 0 0 0 [(0, .ref 0), (1, .int a1)] [] LAY (M, L)
  refine x_run C e_X10_counted_1 e_X10_counted_1_k (pc' := 1) (lv' := [(0, .ref 0), (1, .int a1)]) (st' := [.int a1]) (σ' := (M, L)) rfl ⟨trivial, trivial⟩ ?_
  refine x_if_lt C (show decode cX10_counted 1 = .ok (.ifCond .lt 21, 3) from by decide +kernel) (tgt := 22) (by decide) (fun c1 => ?_) (fun c1 => ?_)
  · rw [if_pos c1] at h
    have g2 : xrg (-2147483648) (-1) a1 := (x_c_lt (x_rgt a1) (x_rgc (x := 0) (k := 0) (by decide)) c1).1
    refine x_run C e_X10_counted_2 e_X10_counted_2_k (pc' := 23) (lv' := [(0, .ref 0), (1, .int a1)]) (st' := [.int 0]) (σ' := (M, L)) rfl ⟨trivial, trivial⟩ ?_
    subst h
    exact x_iret C (show decode cX10_counted 23 = .ok (.ireturn, 1) from by decide +kernel) (x_finI rfl ⟨⟨rfl, rfl⟩, trivial, hI⟩) (Nat.le_refl 0) (Nat.le_refl 0)
  · rw [if_neg c1] at h
    have g3 : xrg 0 2147483647 a1 := (x_c_nlt (x_rgt a1) (x_rgc (x := 0) (k := 0) (by decide)) c1).1
    refine x_run C e_X10_counted_3 e_X10_counted_3_k (pc' := 7) (lv' := [(0, .ref 0), (1, .int a1)]) (st' := [.int 48, .int a1]) (σ' := (M, L)) rfl ⟨trivial, trivial, trivial⟩ ?_
    refine x_icmp_ge C (show decode cX10_counted 7 = .ok (.if_icmp .ge 15, 3) from by decide +kernel) (tgt := 22) (by decide) (fun c4 => ?_) (fun c4 => ?_)
    · rw [if_pos c4] at h
      have g5 : xrg 48 2147483647 a1 := (x_c_le (x_rgc (x := 48) (k := 48) (by decide)) g3 c4).2
      refine x_run C e_X10_counted_2 e_X10_counted_2_k (pc' := 23) (lv' := [(0, .ref 0), (1, .int a1)]) (st' := [.int 0]) (σ' := (M, L)) rfl ⟨trivial, trivial⟩ ?_
      subst h
      exact x_iret C (show decode cX10_counted 23 = .ok (.ireturn, 1) from by decide +kernel) (x_finI rfl ⟨⟨rfl, rfl⟩, trivial, hI⟩) (Nat.le_refl 0) (Nat.le_refl 0)
    · rw [if_neg c4] at h
      have g6 : xrg 0 47 a1 := (x_c_nle (x_rgc (x := 48) (k := 48) (by decide)) g3 c4).2
      refine x_run C e_X10_counted_4 e_X10_counted_4_k (pc' := 19) (lv' := [(0, .ref 0), (1, .int a1)]) (st' := [.int (M 9 a1.toNatClampNeg)]) (σ' := (M, L)) rfl ⟨trivial, trivial, trivial, trivial, (x_rgv g6 (by decide) (by decide)), trivial⟩ ?_
      refine x_goto C (show decode cX10_counted 19 = .ok (.goto 4, 3) from by decide +kernel) (tgt := 23) (by decide) ?_
      subst h
      exact x_iret C (show decode cX10_counted 23 = .ok (.ireturn, 1) from by decide +kernel) (x_finI rfl ⟨⟨rfl, rfl⟩, trivial, hI⟩) (Nat.le_refl 0) (Nat.le_refl 0)
-- X10_isPlaceOfWords
def e_X10_isPlaceOfWords_1 : List xI := [(0, .iload_n 0, 1, .null)]
theorem e_X10_isPlaceOfWords_1_k : e_X10_isPlaceOfWords_1.all (fun q => xokB cX10_isPlaceOfWords q && xokL q) = true := by decide +kernel
def e_X10_isPlaceOfWords_2 : List xI := [(25, .iconst 0, 1, .int 0)]
theorem e_X10_isPlaceOfWords_2_k : e_X10_isPlaceOfWords_2.all (fun q => xokB cX10_isPlaceOfWords q && xokL q) = true := by decide +kernel
def e_X10_isPlaceOfWords_3 : List xI := [(4, .iload_n 0, 1, .null), (5, .sipush 2048, 3, .int 2048), (8, .iconst 2, 1, .int 2), (9, .iload_n 1, 1, .null), (10, .imul, 1, .null), (11, .isub, 1, .null)]
theorem e_X10_isPlaceOfWords_3_k : e_X10_isPlaceOfWords_3.all (fun q => xokB cX10_isPlaceOfWords q && xokL q) = true := by decide +kernel
def e_X10_isPlaceOfWords_4 : List xI := [(15, .iload_n 0, 1, .null), (16, .iconst 1, 1, .int 1), (17, .iand, 1, .null)]
theorem e_X10_isPlaceOfWords_4_k : e_X10_isPlaceOfWords_4.all (fun q => xokB cX10_isPlaceOfWords q && xokL q) = true := by decide +kernel
def e_X10_isPlaceOfWords_5 : List xI := [(21, .iconst 1, 1, .int 1)]
theorem e_X10_isPlaceOfWords_5_k : e_X10_isPlaceOfWords_5.all (fun q => xokB cX10_isPlaceOfWords q && xokL q) = true := by decide +kernel
abbrev P_X10_isPlaceOfWords (r : Int32) (M0 : St) (L : Nat → Nat → Int64) : Option Value → xG → Prop := fun v σ' => PoI r M0 L v σ' ∧ xrg 0 1 r ∧ True
abbrev R_X10_isPlaceOfWords : Room := { frames := 0, cells := 0, slots := 0, locals := 0 }
abbrev C_X10_isPlaceOfWords (l : Launch) (r : Int32) (M0 : St) (L : Nat → Nat → Int64) (V : XJ) : Prop := XC l yX10_isPlaceOfWords.cls yX10_isPlaceOfWords.name cX10_isPlaceOfWords 2 R_X10_isPlaceOfWords 0 0 fl_X10 kc_X10 LAY.length (xfin (some .boolean) LAY (P_X10_isPlaceOfWords r M0 L)) V
def f_X10_isPlaceOfWords (a1 : Int32) (a2 : Int32) : Int32 := (if a1 < 0 then 0 else (if (2048 - (2 * a2)) < a1 then 0 else (if (a1 &&& 1) = 0 then 1 else 0)))
set_option maxRecDepth 20000 in
set_option maxHeartbeats 4000000 in
theorem k_X10_isPlaceOfWords (l : Launch) (a1 : Int32) (a2 : Int32) (M : St) (L : Nat → Nat → Int64) : XM l yX10_isPlaceOfWords cX10_isPlaceOfWords 2 (some .boolean) R_X10_isPlaceOfWords LAY [.int a1, .int a2] (M, L) (P_X10_isPlaceOfWords (f_X10_isPlaceOfWords a1 a2) M L) := by
  refine XM.of (by decide) (Nat.le_of_ble_eq_true rfl) LAY_in cl_ok fl_X10_ok kc_X10_ok (fun V C => ?_)
  obtain ⟨r, h⟩ : ∃ r, f_X10_isPlaceOfWords a1 a2 = r := ⟨_, rfl⟩
  rw [h] at C
  change C_X10_isPlaceOfWords l r M L V at C
  unfold f_X10_isPlaceOfWords at h
  show V 0 0 0 [(0, .int a1), (1, .int a2)] [] LAY (M, L)
  refine x_run C e_X10_isPlaceOfWords_1 e_X10_isPlaceOfWords_1_k (pc' := 1) (lv' := [(0, .int a1), (1, .int a2)]) (st' := [.int a1]) (σ' := (M, L)) rfl ⟨trivial, trivial⟩ ?_
  refine x_if_lt C (show decode cX10_isPlaceOfWords 1 = .ok (.ifCond .lt 24, 3) from by decide +kernel) (tgt := 25) (by decide) (fun c1 => ?_) (fun c1 => ?_)
  · rw [if_pos c1] at h
    have g2 : xrg (-2147483648) (-1) a1 := (x_c_lt (x_rgt a1) (x_rgc (x := 0) (k := 0) (by decide)) c1).1
    refine x_run C e_X10_isPlaceOfWords_2 e_X10_isPlaceOfWords_2_k (pc' := 26) (lv' := [(0, .int a1), (1, .int a2)]) (st' := [.int 0]) (σ' := (M, L)) rfl ⟨trivial, trivial⟩ ?_
    subst h
    exact x_iret C (show decode cX10_isPlaceOfWords 26 = .ok (.ireturn, 1) from by decide +kernel) (x_finI (x_nb (x_rgw (x_rgc (x := 0) (k := 0) (by decide)) (lo' := 0) (hi' := 1) (by decide) (by decide))) ⟨⟨rfl, rfl⟩, (x_rgw (x_rgc (x := 0) (k := 0) (by decide)) (lo' := 0) (hi' := 1) (by decide) (by decide)), trivial⟩) (Nat.le_refl 0) (Nat.le_refl 0)
  · rw [if_neg c1] at h
    have g3 : xrg 0 2147483647 a1 := (x_c_nlt (x_rgt a1) (x_rgc (x := 0) (k := 0) (by decide)) c1).1
    refine x_run C e_X10_isPlaceOfWords_3 e_X10_isPlaceOfWords_3_k (pc' := 12) (lv' := [(0, .int a1), (1, .int a2)]) (st' := [.int (2048 - (2 * a2)), .int a1]) (σ' := (M, L)) rfl ⟨trivial, trivial, trivial, trivial, trivial, trivial, trivial⟩ ?_
    refine x_icmp_gt C (show decode cX10_isPlaceOfWords 12 = .ok (.if_icmp .gt 13, 3) from by decide +kernel) (tgt := 25) (by decide) (fun c4 => ?_) (fun c4 => ?_)
    · rw [if_pos c4] at h
      have g5 : xrg (-2147483648) 2147483646 (2048 - (2 * a2)) := (x_c_lt (x_rgt (2048 - (2 * a2))) g3 c4).1
      refine x_run C e_X10_isPlaceOfWords_2 e_X10_isPlaceOfWords_2_k (pc' := 26) (lv' := [(0, .int a1), (1, .int a2)]) (st' := [.int 0]) (σ' := (M, L)) rfl ⟨trivial, trivial⟩ ?_
      subst h
      exact x_iret C (show decode cX10_isPlaceOfWords 26 = .ok (.ireturn, 1) from by decide +kernel) (x_finI (x_nb (x_rgw (x_rgc (x := 0) (k := 0) (by decide)) (lo' := 0) (hi' := 1) (by decide) (by decide))) ⟨⟨rfl, rfl⟩, (x_rgw (x_rgc (x := 0) (k := 0) (by decide)) (lo' := 0) (hi' := 1) (by decide) (by decide)), trivial⟩) (Nat.le_refl 0) (Nat.le_refl 0)
    · rw [if_neg c4] at h
      have g6 : xrg 0 2147483647 (2048 - (2 * a2)) := (x_c_nlt (x_rgt (2048 - (2 * a2))) g3 c4).1
      refine x_run C e_X10_isPlaceOfWords_4 e_X10_isPlaceOfWords_4_k (pc' := 18) (lv' := [(0, .int a1), (1, .int a2)]) (st' := [.int (a1 &&& 1)]) (σ' := (M, L)) rfl ⟨trivial, trivial, trivial, trivial⟩ ?_
      refine x_if_ne C (show decode cX10_isPlaceOfWords 18 = .ok (.ifCond .ne 7, 3) from by decide +kernel) (tgt := 25) (by decide) (fun c7 => ?_) (fun c7 => ?_)
      · rw [if_neg c7] at h
        have g8 : xrg 1 1 (a1 &&& 1) := (x_c_ne (x_rg_and (x := a1) (m := 1) (k := 1) (by decide) (by decide)) (by decide) c7)
        refine x_run C e_X10_isPlaceOfWords_2 e_X10_isPlaceOfWords_2_k (pc' := 26) (lv' := [(0, .int a1), (1, .int a2)]) (st' := [.int 0]) (σ' := (M, L)) rfl ⟨trivial, trivial⟩ ?_
        subst h
        exact x_iret C (show decode cX10_isPlaceOfWords 26 = .ok (.ireturn, 1) from by decide +kernel) (x_finI (x_nb (x_rgw (x_rgc (x := 0) (k := 0) (by decide)) (lo' := 0) (hi' := 1) (by decide) (by decide))) ⟨⟨rfl, rfl⟩, (x_rgw (x_rgc (x := 0) (k := 0) (by decide)) (lo' := 0) (hi' := 1) (by decide) (by decide)), trivial⟩) (Nat.le_refl 0) (Nat.le_refl 0)
      · rw [if_pos c7] at h
        have g9 : xrg 0 0 (a1 &&& 1) := (x_c_eq (x_rg_and (x := a1) (m := 1) (k := 1) (by decide) (by decide)) (x_rgc (x := 0) (k := 0) (by decide)) c7).1
        refine x_run C e_X10_isPlaceOfWords_5 e_X10_isPlaceOfWords_5_k (pc' := 22) (lv' := [(0, .int a1), (1, .int a2)]) (st' := [.int 1]) (σ' := (M, L)) rfl ⟨trivial, trivial⟩ ?_
        refine x_goto C (show decode cX10_isPlaceOfWords 22 = .ok (.goto 4, 3) from by decide +kernel) (tgt := 26) (by decide) ?_
        subst h
        exact x_iret C (show decode cX10_isPlaceOfWords 26 = .ok (.ireturn, 1) from by decide +kernel) (x_finI (x_nb (x_rgw (x_rgc (x := 1) (k := 1) (by decide)) (lo' := 0) (hi' := 1) (by decide) (by decide))) ⟨⟨rfl, rfl⟩, (x_rgw (x_rgc (x := 1) (k := 1) (by decide)) (lo' := 0) (hi' := 1) (by decide) (by decide)), trivial⟩) (Nat.le_refl 0) (Nat.le_refl 0)
