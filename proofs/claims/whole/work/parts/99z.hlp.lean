/-! THE LAW'S NINE HELPERS -/
theorem wc_L_13 : Cond.classLink RL 13 "java/lang/IndexOutOfBoundsException" ∈ xtb := x_inl (ws := [Cond.classLink RL 13 "java/lang/IndexOutOfBoundsException"]) (by decide +kernel) _ (by simp)
theorem wc_L_19 : Cond.classLink RL 19 "java/lang/IllegalArgumentException" ∈ xtb := x_inl (ws := [Cond.classLink RL 19 "java/lang/IllegalArgumentException"]) (by decide +kernel) _ (by simp)
theorem wc_L_29 : Cond.classLink RL 29 "java/lang/IllegalStateException" ∈ xtb := x_inl (ws := [Cond.classLink RL 29 "java/lang/IllegalStateException"]) (by decide +kernel) _ (by simp)
-- put
theorem yo_L_put : XYH yL_put cL_put 4 (some .int) [(0, 6, 9, 13)] 3 := by
  have h := x_in3 (a := Cond.codeWith yL_put cL_put 4 (some .int) [(0, 6, 9, 13)]) (b := Cond.initialized yL_put.cls) (d := Cond.static yL_put) (by decide +kernel)
  exact ⟨h.1, h.2.1, by decide +kernel, h.2.2⟩
abbrev P_L_put (r : Int32 × St) (L : Nat → Nat → Int64) : Option Value → xG → Prop := fun v σ' => v = some (.int r.1) ∧ σ' = (r.2, L) ∧ InvK INVC r.2
abbrev R_L_put : Room := { frames := 7, cells := 1, slots := 6, locals := 103 }
set_option maxRecDepth 20000 in
set_option maxHeartbeats 4000000 in
theorem k_L_put (l : Launch) (hst : l.stackTraces = false) (a1 : Int32) (a2 : Int32) (M : St) (L : Nat → Nat → Int64) (hI : InvK INVC M) : XMH l yL_put cL_put 4 (some .int) [(0, 6, 9, 13)] R_L_put LAY [.ref 0, .int a1, .int a2] (M, L) (P_L_put (f_X10_put a1 a2 M) L) := by
  refine XMH.of (fl := []) (kc := []) (by decide) (Nat.le_of_ble_eq_true rfl) LAY_in cl_ok (fun q h => nomatch h) (fun q h => nomatch h) (fun V C => ?_)
  show V 0 0 0 [(0, .ref 0), (1, .int a1), (2, .int a2)] [] LAY (M, L)
  refine x_run C.xc [(0, .aload_n 0, 1, .null), (1, .iload_n 1, 1, .null), (2, .iload_n 2, 1, .null)] (by decide +kernel) (pc' := 3) (lv' := [(0, .ref 0), (1, .int a1), (2, .int a2)]) (st' := [.int a2, .int a1, .ref 0]) (σ' := (M, L)) rfl ⟨trivial, trivial, trivial, trivial⟩ ?_
  refine x_callVX C (k := 0) (ci := 7) (rest := []) (avs := [.int a1, .int a2]) (k_X10_put l hst a1 a2 M L hI) yoX10_put ml_L_7 rfl rfl rfl ⟨rfl, rfl⟩ rfl ⟨by decide, by decide, by decide +kernel⟩ rfl (show decode cL_put 3 = .ok (.invokevirtual 7, 3) from by decide +kernel) rfl (fun v σ' hPo => ?_) (fun E hE => ?_)
  · obtain ⟨h0, ⟨rfl, rfl⟩, hI2⟩ := hPo
    show V 1 6 6 [(0, .ref 0), (1, .int a1), (2, .int a2)] [] LAY ((f_X10_put a1 a2 M).2, L)
    refine x_goto C.xc (tgt := 12) (show decode cL_put 6 = .ok (.goto 6, 3) from by decide +kernel) (by decide) ?_
    refine x_run C.xc [(12, .iconst 0, 1, .int 0)] (by decide +kernel) (pc' := 13) (lv' := [(0, .ref 0), (1, .int a1), (2, .int a2)]) (st' := [.int 0]) (σ' := ((f_X10_put a1 a2 M).2, L)) rfl ⟨trivial, trivial⟩ ?_
    exact x_iret C.xc (show decode cL_put 13 = .ok (.ireturn, 1) from by decide +kernel) ⟨rfl, rfl, (fun w hw => by cases hw; trivial), by rw [h0], rfl, hI2⟩ (by decide) (by decide)
  · obtain ⟨rfl, h1⟩ := hE
    refine ⟨9, ⟨[], ⟨0, 6, 9, 13⟩, [], "java/lang/IndexOutOfBoundsException", rfl, (fun z hz => nomatch hz), by decide, by decide, wc_L_13, by decide +kernel, rfl⟩, ?_⟩
    show V 1 6 9 [(0, .ref 0), (1, .int a1), (2, .int a2)] [.ref 999] LAY (M, L)
    refine x_run C.xc [(9, .astore_n 3, 1, .null), (10, .iconst 1, 1, .int 1)] (by decide +kernel) (pc' := 11) (lv' := [(3, .ref 999), (0, .ref 0), (1, .int a1), (2, .int a2)]) (st' := [.int 1]) (σ' := (M, L)) rfl ⟨trivial, trivial, trivial⟩ ?_
    have hz : (f_X10_put a1 a2 M).2 = M := z_put (by rw [h1]; decide)
    exact x_iret C.xc (show decode cL_put 11 = .ok (.ireturn, 1) from by decide +kernel) ⟨rfl, rfl, (fun w hw => by cases hw; trivial), by rw [h1], by rw [hz], by rw [hz]; exact hI⟩ (by decide) (by decide)
-- fill
theorem yo_L_fill : XYH yL_fill cL_fill 6 (some .int) [(0, 7, 10, 19), (0, 7, 14, 13)] 4 := by
  have h := x_in3 (a := Cond.codeWith yL_fill cL_fill 6 (some .int) [(0, 7, 10, 19), (0, 7, 14, 13)]) (b := Cond.initialized yL_fill.cls) (d := Cond.static yL_fill) (by decide +kernel)
  exact ⟨h.1, h.2.1, by decide +kernel, h.2.2⟩
abbrev P_L_fill (r : Int32 × St) (L : Nat → Nat → Int64) : Option Value → xG → Prop := fun v σ' => v = some (.int r.1) ∧ σ' = (r.2, L) ∧ InvK INVC r.2
abbrev R_L_fill : Room := { frames := 7, cells := 1, slots := 6, locals := 106 }
set_option maxRecDepth 20000 in
set_option maxHeartbeats 4000000 in
theorem k_L_fill (l : Launch) (hst : l.stackTraces = false) (a1 : Int32) (a2 : Int32) (a3 : Int64) (M : St) (L : Nat → Nat → Int64) (hI : InvK INVC M) : XMH l yL_fill cL_fill 6 (some .int) [(0, 7, 10, 19), (0, 7, 14, 13)] R_L_fill LAY [.ref 0, .int a1, .int a2, .long a3] (M, L) (P_L_fill (f_X10_fill a1 a2 a3 M) L) := by
  refine XMH.of (fl := []) (kc := []) (by decide) (Nat.le_of_ble_eq_true rfl) LAY_in cl_ok (fun q h => nomatch h) (fun q h => nomatch h) (fun V C => ?_)
  show V 0 0 0 [(0, .ref 0), (1, .int a1), (2, .int a2), (3, .long a3)] [] LAY (M, L)
  refine x_run C.xc [(0, .aload_n 0, 1, .null), (1, .iload_n 1, 1, .null), (2, .iload_n 2, 1, .null), (3, .lload_n 3, 1, .null)] (by decide +kernel) (pc' := 4) (lv' := [(0, .ref 0), (1, .int a1), (2, .int a2), (3, .long a3)]) (st' := [.long a3, .int a2, .int a1, .ref 0]) (σ' := (M, L)) rfl ⟨trivial, trivial, trivial, trivial, trivial⟩ ?_
  refine x_callVX C (k := 0) (ci := 7) (rest := []) (avs := [.int a1, .int a2, .long a3]) (k_X10_fill l hst a1 a2 a3 M L hI) yoX10_fill ml_L_15 rfl rfl rfl ⟨rfl, rfl⟩ rfl ⟨by decide, by decide, by decide +kernel⟩ rfl (show decode cL_fill 4 = .ok (.invokevirtual 15, 3) from by decide +kernel) rfl (fun v σ' hPo => ?_) (fun E hE => ?_)
  · obtain ⟨h0, ⟨rfl, rfl⟩, hI2⟩ := hPo
    show V 1 6 7 [(0, .ref 0), (1, .int a1), (2, .int a2), (3, .long a3)] [] LAY ((f_X10_fill a1 a2 a3 M).2, L)
    refine x_goto C.xc (tgt := 18) (show decode cL_fill 7 = .ok (.goto 11, 3) from by decide +kernel) (by decide) ?_
    refine x_run C.xc [(18, .iconst 0, 1, .int 0)] (by decide +kernel) (pc' := 19) (lv' := [(0, .ref 0), (1, .int a1), (2, .int a2), (3, .long a3)]) (st' := [.int 0]) (σ' := ((f_X10_fill a1 a2 a3 M).2, L)) rfl ⟨trivial, trivial⟩ ?_
    exact x_iret C.xc (show decode cL_fill 19 = .ok (.ireturn, 1) from by decide +kernel) ⟨rfl, rfl, (fun w hw => by cases hw; trivial), by rw [h0], rfl, hI2⟩ (by decide) (by decide)
  · rcases hE with ⟨rfl, h1⟩ | ⟨rfl, h1⟩
    · refine ⟨10, ⟨[], ⟨0, 7, 10, 19⟩, [⟨0, 7, 14, 13⟩], "java/lang/IllegalArgumentException", rfl, (fun z hz => nomatch hz), by decide, by decide, wc_L_19, by decide +kernel, rfl⟩, ?_⟩
      show V 1 6 10 [(0, .ref 0), (1, .int a1), (2, .int a2), (3, .long a3)] [.ref 999] LAY (M, L)
      refine x_run C.xc [(10, .astore 5, 2, .null), (12, .iconst 1, 1, .int 1)] (by decide +kernel) (pc' := 13) (lv' := [(5, .ref 999), (0, .ref 0), (1, .int a1), (2, .int a2), (3, .long a3)]) (st' := [.int 1]) (σ' := (M, L)) rfl ⟨trivial, trivial, trivial⟩ ?_
      have hz : (f_X10_fill a1 a2 a3 M).2 = M := z_fill (by rw [h1]; decide)
      exact x_iret C.xc (show decode cL_fill 13 = .ok (.ireturn, 1) from by decide +kernel) ⟨rfl, rfl, (fun w hw => by cases hw; trivial), by rw [h1], by rw [hz], by rw [hz]; exact hI⟩ (by decide) (by decide)
    · refine ⟨14, ⟨[⟨0, 7, 10, 19⟩], ⟨0, 7, 14, 13⟩, [], "java/lang/IndexOutOfBoundsException", rfl, (fun z hz => Or.inr (by cases List.mem_singleton.mp hz; exact ⟨by decide, rfl, wc_L_19⟩)), by decide, by decide, wc_L_13, by decide +kernel, rfl⟩, ?_⟩
      show V 1 6 14 [(0, .ref 0), (1, .int a1), (2, .int a2), (3, .long a3)] [.ref 999] LAY (M, L)
      refine x_run C.xc [(14, .astore 5, 2, .null), (16, .iconst 2, 1, .int 2)] (by decide +kernel) (pc' := 17) (lv' := [(5, .ref 999), (0, .ref 0), (1, .int a1), (2, .int a2), (3, .long a3)]) (st' := [.int 2]) (σ' := (M, L)) rfl ⟨trivial, trivial, trivial⟩ ?_
      have hz : (f_X10_fill a1 a2 a3 M).2 = M := z_fill (by rw [h1]; decide)
      exact x_iret C.xc (show decode cL_fill 17 = .ok (.ireturn, 1) from by decide +kernel) ⟨rfl, rfl, (fun w hw => by cases hw; trivial), by rw [h1], by rw [hz], by rw [hz]; exact hI⟩ (by decide) (by decide)
-- fence
theorem yo_L_fence : XYH yL_fence cL_fence 3 (some .int) [(0, 5, 8, 13)] 2 := by
  have h := x_in3 (a := Cond.codeWith yL_fence cL_fence 3 (some .int) [(0, 5, 8, 13)]) (b := Cond.initialized yL_fence.cls) (d := Cond.static yL_fence) (by decide +kernel)
  exact ⟨h.1, h.2.1, by decide +kernel, h.2.2⟩
abbrev P_L_fence (r : Int32 × St) (L : Nat → Nat → Int64) : Option Value → xG → Prop := fun v σ' => v = some (.int r.1) ∧ σ' = (r.2, L) ∧ InvK INVC r.2
abbrev R_L_fence : Room := { frames := 7, cells := 1, slots := 6, locals := 102 }
set_option maxRecDepth 20000 in
set_option maxHeartbeats 4000000 in
theorem k_L_fence (l : Launch) (hst : l.stackTraces = false) (a1 : Int32) (M : St) (L : Nat → Nat → Int64) (hI : InvK INVC M) : XMH l yL_fence cL_fence 3 (some .int) [(0, 5, 8, 13)] R_L_fence LAY [.ref 0, .int a1] (M, L) (P_L_fence (f_X10_fence a1 M) L) := by
  refine XMH.of (fl := []) (kc := []) (by decide) (Nat.le_of_ble_eq_true rfl) LAY_in cl_ok (fun q h => nomatch h) (fun q h => nomatch h) (fun V C => ?_)
  show V 0 0 0 [(0, .ref 0), (1, .int a1)] [] LAY (M, L)
  refine x_run C.xc [(0, .aload_n 0, 1, .null), (1, .iload_n 1, 1, .null)] (by decide +kernel) (pc' := 2) (lv' := [(0, .ref 0), (1, .int a1)]) (st' := [.int a1, .ref 0]) (σ' := (M, L)) rfl ⟨trivial, trivial, trivial⟩ ?_
  refine x_callVX C (k := 0) (ci := 7) (rest := []) (avs := [.int a1]) (k_X10_fence l hst a1 M L hI) yoX10_fence ml_L_21 rfl rfl rfl ⟨rfl, rfl⟩ rfl ⟨by decide, by decide, by decide +kernel⟩ rfl (show decode cL_fence 2 = .ok (.invokevirtual 21, 3) from by decide +kernel) rfl (fun v σ' hPo => ?_) (fun E hE => ?_)
  · obtain ⟨h0, ⟨rfl, rfl⟩, hI2⟩ := hPo
    show V 1 6 5 [(0, .ref 0), (1, .int a1)] [] LAY ((f_X10_fence a1 M).2, L)
    refine x_goto C.xc (tgt := 11) (show decode cL_fence 5 = .ok (.goto 6, 3) from by decide +kernel) (by decide) ?_
    refine x_run C.xc [(11, .iconst 0, 1, .int 0)] (by decide +kernel) (pc' := 12) (lv' := [(0, .ref 0), (1, .int a1)]) (st' := [.int 0]) (σ' := ((f_X10_fence a1 M).2, L)) rfl ⟨trivial, trivial⟩ ?_
    exact x_iret C.xc (show decode cL_fence 12 = .ok (.ireturn, 1) from by decide +kernel) ⟨rfl, rfl, (fun w hw => by cases hw; trivial), by rw [h0], rfl, hI2⟩ (by decide) (by decide)
  · obtain ⟨rfl, h1⟩ := hE
    refine ⟨8, ⟨[], ⟨0, 5, 8, 13⟩, [], "java/lang/IndexOutOfBoundsException", rfl, (fun z hz => nomatch hz), by decide, by decide, wc_L_13, by decide +kernel, rfl⟩, ?_⟩
    show V 1 6 8 [(0, .ref 0), (1, .int a1)] [.ref 999] LAY (M, L)
    refine x_run C.xc [(8, .astore_n 2, 1, .null), (9, .iconst 1, 1, .int 1)] (by decide +kernel) (pc' := 10) (lv' := [(2, .ref 999), (0, .ref 0), (1, .int a1)]) (st' := [.int 1]) (σ' := (M, L)) rfl ⟨trivial, trivial, trivial⟩ ?_
    have hz : (f_X10_fence a1 M).2 = M := z_fence (by rw [h1]; decide)
    exact x_iret C.xc (show decode cL_fence 10 = .ok (.ireturn, 1) from by decide +kernel) ⟨rfl, rfl, (fun w hw => by cases hw; trivial), by rw [h1], by rw [hz], by rw [hz]; exact hI⟩ (by decide) (by decide)
-- step
theorem yo_L_step : XYH yL_step cL_step 3 (some .int) [(0, 8, 11, 29)] 2 := by
  have h := x_in3 (a := Cond.codeWith yL_step cL_step 3 (some .int) [(0, 8, 11, 29)]) (b := Cond.initialized yL_step.cls) (d := Cond.static yL_step) (by decide +kernel)
  exact ⟨h.1, h.2.1, by decide +kernel, h.2.2⟩
abbrev P_L_step (r : Int32 × Int32 × St) (L : Nat → Nat → Int64) : Option Value → xG → Prop := fun v σ' => v = some (.int r.1) ∧ σ' = (r.2.2, if r.1 = 0 then xupL L 22 0 r.2.1.toInt64 else L) ∧ InvK INVC r.2.2
abbrev R_L_step : Room := { frames := 8, cells := 1, slots := 6, locals := 194 }
set_option maxRecDepth 20000 in
set_option maxHeartbeats 4000000 in
theorem k_L_step (l : Launch) (hst : l.stackTraces = false)  (M : St) (L : Nat → Nat → Int64) (hI : InvK INVC M) : XMH l yL_step cL_step 3 (some .int) [(0, 8, 11, 29)] R_L_step LAY [.ref 0, .ref 22] (M, L) (P_L_step (f_X10_step M) L) := by
  refine XMH.of (fl := []) (kc := []) (by decide) (Nat.le_of_ble_eq_true rfl) LAY_in cl_ok (fun q h => nomatch h) (fun q h => nomatch h) (fun V C => ?_)
  show V 0 0 0 [(0, .ref 0), (1, .ref 22)] [] LAY (M, L)
  refine x_run C.xc [(0, .aload_n 1, 1, .null), (1, .iconst 0, 1, .int 0), (2, .aload_n 0, 1, .null)] (by decide +kernel) (pc' := 3) (lv' := [(0, .ref 0), (1, .ref 22)]) (st' := [.ref 0, .int 0, .ref 22]) (σ' := (M, L)) rfl ⟨trivial, trivial, trivial, trivial⟩ ?_
  refine x_callVX C (k := 0) (ci := 7) (rest := [.int 0, .ref 22]) (avs := []) (k_X10_step l hst  M L hI) yoX10_step ml_L_25 rfl rfl rfl ⟨rfl, rfl⟩ rfl ⟨by decide, by decide, by decide +kernel⟩ rfl (show decode cL_step 3 = .ok (.invokevirtual 25, 3) from by decide +kernel) rfl (fun v σ' hPo => ?_) (fun E hE => ?_)
  · obtain ⟨h0, ⟨rfl, rfl⟩, -, hI2⟩ := hPo
    show V 1 6 6 [(0, .ref 0), (1, .ref 22)] [.int (f_X10_step M).2.1, .int 0, .ref 22] LAY ((f_X10_step M).2.2, L)
    refine x_run C.xc [(6, .i2l, 1, .null), (7, .lastore, 1, .null)] (by decide +kernel) (pc' := 8) (lv' := [(0, .ref 0), (1, .ref 22)]) (st' := []) (σ' := ((f_X10_step M).2.2, xupL L 22 0 (f_X10_step M).2.1.toInt64)) rfl ⟨trivial, (vpi (by decide)), trivial⟩ ?_
    refine x_goto C.xc (tgt := 14) (show decode cL_step 8 = .ok (.goto 6, 3) from by decide +kernel) (by decide) ?_
    refine x_run C.xc [(14, .iconst 0, 1, .int 0)] (by decide +kernel) (pc' := 15) (lv' := [(0, .ref 0), (1, .ref 22)]) (st' := [.int 0]) (σ' := ((f_X10_step M).2.2, xupL L 22 0 (f_X10_step M).2.1.toInt64)) rfl ⟨trivial, trivial⟩ ?_
    exact x_iret C.xc (show decode cL_step 15 = .ok (.ireturn, 1) from by decide +kernel) ⟨rfl, rfl, (fun w hw => by cases hw; trivial), by rw [h0], by rw [if_pos h0], hI2⟩ (by decide) (by decide)
  · obtain ⟨rfl, h1⟩ := hE
    refine ⟨11, ⟨[], ⟨0, 8, 11, 29⟩, [], "java/lang/IllegalStateException", rfl, (fun z hz => nomatch hz), by decide, by decide, wc_L_29, by decide +kernel, rfl⟩, ?_⟩
    show V 1 6 11 [(0, .ref 0), (1, .ref 22)] [.ref 999] LAY (M, L)
    refine x_run C.xc [(11, .astore_n 2, 1, .null), (12, .iconst 1, 1, .int 1)] (by decide +kernel) (pc' := 13) (lv' := [(2, .ref 999), (0, .ref 0), (1, .ref 22)]) (st' := [.int 1]) (σ' := (M, L)) rfl ⟨trivial, trivial, trivial⟩ ?_
    have hz : (f_X10_step M).2.2 = M := z_step (by rw [h1]; decide)
    exact x_iret C.xc (show decode cL_step 13 = .ok (.ireturn, 1) from by decide +kernel) ⟨rfl, rfl, (fun w hw => by cases hw; trivial), by rw [h1], by rw [hz, if_neg (by rw [h1]; decide)], by rw [hz]; exact hI⟩ (by decide) (by decide)
-- run
theorem yo_L_run : XYH yL_run cL_run 4 (some .int) [(0, 9, 12, 19)] 3 := by
  have h := x_in3 (a := Cond.codeWith yL_run cL_run 4 (some .int) [(0, 9, 12, 19)]) (b := Cond.initialized yL_run.cls) (d := Cond.static yL_run) (by decide +kernel)
  exact ⟨h.1, h.2.1, by decide +kernel, h.2.2⟩
abbrev P_L_run (r : Int32 × Int32 × St) (L : Nat → Nat → Int64) : Option Value → xG → Prop := fun v σ' => v = some (.int r.1) ∧ σ' = (r.2.2, if r.1 = 0 then xupL L 22 0 r.2.1.toInt64 else L) ∧ InvK INVC r.2.2
abbrev R_L_run : Room := { frames := 8, cells := 1, slots := 6, locals := 196 }
set_option maxRecDepth 20000 in
set_option maxHeartbeats 4000000 in
theorem k_L_run (l : Launch) (hst : l.stackTraces = false) (a1 : Int32) (M : St) (L : Nat → Nat → Int64) (hI : InvK INVC M) : XMH l yL_run cL_run 4 (some .int) [(0, 9, 12, 19)] R_L_run LAY [.ref 0, .int a1, .ref 22] (M, L) (P_L_run (f_X10_run a1 M) L) := by
  refine XMH.of (fl := []) (kc := []) (by decide) (Nat.le_of_ble_eq_true rfl) LAY_in cl_ok (fun q h => nomatch h) (fun q h => nomatch h) (fun V C => ?_)
  show V 0 0 0 [(0, .ref 0), (1, .int a1), (2, .ref 22)] [] LAY (M, L)
  refine x_run C.xc [(0, .aload_n 2, 1, .null), (1, .iconst 0, 1, .int 0), (2, .aload_n 0, 1, .null), (3, .iload_n 1, 1, .null)] (by decide +kernel) (pc' := 4) (lv' := [(0, .ref 0), (1, .int a1), (2, .ref 22)]) (st' := [.int a1, .ref 0, .int 0, .ref 22]) (σ' := (M, L)) rfl ⟨trivial, trivial, trivial, trivial, trivial⟩ ?_
  refine x_callVX C (k := 0) (ci := 7) (rest := [.int 0, .ref 22]) (avs := [.int a1]) (k_X10_run l hst a1 M L hI) yoX10_run ml_L_31 rfl rfl rfl ⟨rfl, rfl⟩ rfl ⟨by decide, by decide, by decide +kernel⟩ rfl (show decode cL_run 4 = .ok (.invokevirtual 31, 3) from by decide +kernel) rfl (fun v σ' hPo => ?_) (fun E hE => ?_)
  · obtain ⟨h0, ⟨rfl, rfl⟩, -, hI2⟩ := hPo
    show V 1 6 7 [(0, .ref 0), (1, .int a1), (2, .ref 22)] [.int (f_X10_run a1 M).2.1, .int 0, .ref 22] LAY ((f_X10_run a1 M).2.2, L)
    refine x_run C.xc [(7, .i2l, 1, .null), (8, .lastore, 1, .null)] (by decide +kernel) (pc' := 9) (lv' := [(0, .ref 0), (1, .int a1), (2, .ref 22)]) (st' := []) (σ' := ((f_X10_run a1 M).2.2, xupL L 22 0 (f_X10_run a1 M).2.1.toInt64)) rfl ⟨trivial, (vpi (by decide)), trivial⟩ ?_
    refine x_goto C.xc (tgt := 15) (show decode cL_run 9 = .ok (.goto 6, 3) from by decide +kernel) (by decide) ?_
    refine x_run C.xc [(15, .iconst 0, 1, .int 0)] (by decide +kernel) (pc' := 16) (lv' := [(0, .ref 0), (1, .int a1), (2, .ref 22)]) (st' := [.int 0]) (σ' := ((f_X10_run a1 M).2.2, xupL L 22 0 (f_X10_run a1 M).2.1.toInt64)) rfl ⟨trivial, trivial⟩ ?_
    exact x_iret C.xc (show decode cL_run 16 = .ok (.ireturn, 1) from by decide +kernel) ⟨rfl, rfl, (fun w hw => by cases hw; trivial), by rw [h0], by rw [if_pos h0], hI2⟩ (by decide) (by decide)
  · obtain ⟨rfl, h1⟩ := hE
    refine ⟨12, ⟨[], ⟨0, 9, 12, 19⟩, [], "java/lang/IllegalArgumentException", rfl, (fun z hz => nomatch hz), by decide, by decide, wc_L_19, by decide +kernel, rfl⟩, ?_⟩
    show V 1 6 12 [(0, .ref 0), (1, .int a1), (2, .ref 22)] [.ref 999] LAY (M, L)
    refine x_run C.xc [(12, .astore_n 3, 1, .null), (13, .iconst 1, 1, .int 1)] (by decide +kernel) (pc' := 14) (lv' := [(3, .ref 999), (0, .ref 0), (1, .int a1), (2, .ref 22)]) (st' := [.int 1]) (σ' := (M, L)) rfl ⟨trivial, trivial, trivial⟩ ?_
    have hz : (f_X10_run a1 M).2.2 = M := z_run (by rw [h1]; decide)
    exact x_iret C.xc (show decode cL_run 14 = .ok (.ireturn, 1) from by decide +kernel) ⟨rfl, rfl, (fun w hw => by cases hw; trivial), by rw [h1], by rw [hz, if_neg (by rw [h1]; decide)], by rw [hz]; exact hI⟩ (by decide) (by decide)
-- level
theorem yo_L_level : XYH yL_level cL_level 3 (some .int) [(0, 5, 8, 19)] 2 := by
  have h := x_in3 (a := Cond.codeWith yL_level cL_level 3 (some .int) [(0, 5, 8, 19)]) (b := Cond.initialized yL_level.cls) (d := Cond.static yL_level) (by decide +kernel)
  exact ⟨h.1, h.2.1, by decide +kernel, h.2.2⟩
abbrev P_L_level (r : Int32 × St) (L : Nat → Nat → Int64) : Option Value → xG → Prop := fun v σ' => v = some (.int r.1) ∧ σ' = (r.2, L) ∧ InvK INVC r.2
abbrev R_L_level : Room := { frames := 7, cells := 1, slots := 6, locals := 102 }
set_option maxRecDepth 20000 in
set_option maxHeartbeats 4000000 in
theorem k_L_level (l : Launch) (hst : l.stackTraces = false) (a1 : Int32) (M : St) (L : Nat → Nat → Int64) (hI : InvK INVC M) : XMH l yL_level cL_level 3 (some .int) [(0, 5, 8, 19)] R_L_level LAY [.ref 0, .int a1] (M, L) (P_L_level (f_X10_level a1 M) L) := by
  refine XMH.of (fl := []) (kc := []) (by decide) (Nat.le_of_ble_eq_true rfl) LAY_in cl_ok (fun q h => nomatch h) (fun q h => nomatch h) (fun V C => ?_)
  show V 0 0 0 [(0, .ref 0), (1, .int a1)] [] LAY (M, L)
  refine x_run C.xc [(0, .aload_n 0, 1, .null), (1, .iload_n 1, 1, .null)] (by decide +kernel) (pc' := 2) (lv' := [(0, .ref 0), (1, .int a1)]) (st' := [.int a1, .ref 0]) (σ' := (M, L)) rfl ⟨trivial, trivial, trivial⟩ ?_
  refine x_callVX C (k := 0) (ci := 7) (rest := []) (avs := [.int a1]) (k_X10_level l hst a1 M L hI) yoX10_level ml_L_35 rfl rfl rfl ⟨rfl, rfl⟩ rfl ⟨by decide, by decide, by decide +kernel⟩ rfl (show decode cL_level 2 = .ok (.invokevirtual 35, 3) from by decide +kernel) rfl (fun v σ' hPo => ?_) (fun E hE => ?_)
  · obtain ⟨h0, ⟨rfl, rfl⟩, hI2⟩ := hPo
    show V 1 6 5 [(0, .ref 0), (1, .int a1)] [] LAY ((f_X10_level a1 M).2, L)
    refine x_goto C.xc (tgt := 11) (show decode cL_level 5 = .ok (.goto 6, 3) from by decide +kernel) (by decide) ?_
    refine x_run C.xc [(11, .iconst 0, 1, .int 0)] (by decide +kernel) (pc' := 12) (lv' := [(0, .ref 0), (1, .int a1)]) (st' := [.int 0]) (σ' := ((f_X10_level a1 M).2, L)) rfl ⟨trivial, trivial⟩ ?_
    exact x_iret C.xc (show decode cL_level 12 = .ok (.ireturn, 1) from by decide +kernel) ⟨rfl, rfl, (fun w hw => by cases hw; trivial), by rw [h0], rfl, hI2⟩ (by decide) (by decide)
  · obtain ⟨rfl, h1⟩ := hE
    refine ⟨8, ⟨[], ⟨0, 5, 8, 19⟩, [], "java/lang/IllegalArgumentException", rfl, (fun z hz => nomatch hz), by decide, by decide, wc_L_19, by decide +kernel, rfl⟩, ?_⟩
    show V 1 6 8 [(0, .ref 0), (1, .int a1)] [.ref 999] LAY (M, L)
    refine x_run C.xc [(8, .astore_n 2, 1, .null), (9, .iconst 1, 1, .int 1)] (by decide +kernel) (pc' := 10) (lv' := [(2, .ref 999), (0, .ref 0), (1, .int a1)]) (st' := [.int 1]) (σ' := (M, L)) rfl ⟨trivial, trivial, trivial⟩ ?_
    have hz : (f_X10_level a1 M).2 = M := z_level (by rw [h1]; decide)
    exact x_iret C.xc (show decode cL_level 10 = .ok (.ireturn, 1) from by decide +kernel) ⟨rfl, rfl, (fun w hw => by cases hw; trivial), by rw [h1], by rw [hz], by rw [hz]; exact hI⟩ (by decide) (by decide)
-- get
theorem yo_L_get : XYH yL_get cL_get 4 (some .int) [(0, 9, 12, 13)] 3 := by
  have h := x_in3 (a := Cond.codeWith yL_get cL_get 4 (some .int) [(0, 9, 12, 13)]) (b := Cond.initialized yL_get.cls) (d := Cond.static yL_get) (by decide +kernel)
  exact ⟨h.1, h.2.1, by decide +kernel, h.2.2⟩
abbrev P_L_get (r : Int32 × Int32 × St) (L : Nat → Nat → Int64) : Option Value → xG → Prop := fun v σ' => v = some (.int r.1) ∧ σ' = (r.2.2, if r.1 = 0 then xupL L 22 0 r.2.1.toInt64 else L) ∧ InvK INVC r.2.2
abbrev R_L_get : Room := { frames := 7, cells := 1, slots := 6, locals := 102 }
set_option maxRecDepth 20000 in
set_option maxHeartbeats 4000000 in
theorem k_L_get (l : Launch) (hst : l.stackTraces = false) (a1 : Int32) (M : St) (L : Nat → Nat → Int64) (hI : InvK INVC M) : XMH l yL_get cL_get 4 (some .int) [(0, 9, 12, 13)] R_L_get LAY [.ref 0, .int a1, .ref 22] (M, L) (P_L_get (f_X10_get a1 M) L) := by
  refine XMH.of (fl := []) (kc := []) (by decide) (Nat.le_of_ble_eq_true rfl) LAY_in cl_ok (fun q h => nomatch h) (fun q h => nomatch h) (fun V C => ?_)
  show V 0 0 0 [(0, .ref 0), (1, .int a1), (2, .ref 22)] [] LAY (M, L)
  refine x_run C.xc [(0, .aload_n 2, 1, .null), (1, .iconst 0, 1, .int 0), (2, .aload_n 0, 1, .null), (3, .iload_n 1, 1, .null)] (by decide +kernel) (pc' := 4) (lv' := [(0, .ref 0), (1, .int a1), (2, .ref 22)]) (st' := [.int a1, .ref 0, .int 0, .ref 22]) (σ' := (M, L)) rfl ⟨trivial, trivial, trivial, trivial, trivial⟩ ?_
  refine x_callVX C (k := 0) (ci := 7) (rest := [.int 0, .ref 22]) (avs := [.int a1]) (k_X10_get l hst a1 M L hI) yoX10_get ml_L_38 rfl rfl rfl ⟨rfl, rfl⟩ rfl ⟨by decide, by decide, by decide +kernel⟩ rfl (show decode cL_get 4 = .ok (.invokevirtual 38, 3) from by decide +kernel) rfl (fun v σ' hPo => ?_) (fun E hE => ?_)
  · obtain ⟨h0, ⟨rfl, rfl⟩, -, hI2⟩ := hPo
    show V 1 6 7 [(0, .ref 0), (1, .int a1), (2, .ref 22)] [.int (f_X10_get a1 M).2.1, .int 0, .ref 22] LAY ((f_X10_get a1 M).2.2, L)
    refine x_run C.xc [(7, .i2l, 1, .null), (8, .lastore, 1, .null)] (by decide +kernel) (pc' := 9) (lv' := [(0, .ref 0), (1, .int a1), (2, .ref 22)]) (st' := []) (σ' := ((f_X10_get a1 M).2.2, xupL L 22 0 (f_X10_get a1 M).2.1.toInt64)) rfl ⟨trivial, (vpi (by decide)), trivial⟩ ?_
    refine x_goto C.xc (tgt := 15) (show decode cL_get 9 = .ok (.goto 6, 3) from by decide +kernel) (by decide) ?_
    refine x_run C.xc [(15, .iconst 0, 1, .int 0)] (by decide +kernel) (pc' := 16) (lv' := [(0, .ref 0), (1, .int a1), (2, .ref 22)]) (st' := [.int 0]) (σ' := ((f_X10_get a1 M).2.2, xupL L 22 0 (f_X10_get a1 M).2.1.toInt64)) rfl ⟨trivial, trivial⟩ ?_
    exact x_iret C.xc (show decode cL_get 16 = .ok (.ireturn, 1) from by decide +kernel) ⟨rfl, rfl, (fun w hw => by cases hw; trivial), by rw [h0], by rw [if_pos h0], hI2⟩ (by decide) (by decide)
  · obtain ⟨rfl, h1⟩ := hE
    refine ⟨12, ⟨[], ⟨0, 9, 12, 13⟩, [], "java/lang/IndexOutOfBoundsException", rfl, (fun z hz => nomatch hz), by decide, by decide, wc_L_13, by decide +kernel, rfl⟩, ?_⟩
    show V 1 6 12 [(0, .ref 0), (1, .int a1), (2, .ref 22)] [.ref 999] LAY (M, L)
    refine x_run C.xc [(12, .astore_n 3, 1, .null), (13, .iconst 1, 1, .int 1)] (by decide +kernel) (pc' := 14) (lv' := [(3, .ref 999), (0, .ref 0), (1, .int a1), (2, .ref 22)]) (st' := [.int 1]) (σ' := (M, L)) rfl ⟨trivial, trivial, trivial⟩ ?_
    have hz : (f_X10_get a1 M).2.2 = M := z_get
    exact x_iret C.xc (show decode cL_get 14 = .ok (.ireturn, 1) from by decide +kernel) ⟨rfl, rfl, (fun w hw => by cases hw; trivial), by rw [h1], by rw [hz, if_neg (by rw [h1]; decide)], by rw [hz]; exact hI⟩ (by decide) (by decide)
-- set
theorem yo_L_set : XYH yL_set cL_set 4 (some .int) [(0, 6, 9, 13)] 3 := by
  have h := x_in3 (a := Cond.codeWith yL_set cL_set 4 (some .int) [(0, 6, 9, 13)]) (b := Cond.initialized yL_set.cls) (d := Cond.static yL_set) (by decide +kernel)
  exact ⟨h.1, h.2.1, by decide +kernel, h.2.2⟩
abbrev P_L_set (r : Int32 × St) (L : Nat → Nat → Int64) : Option Value → xG → Prop := fun v σ' => v = some (.int r.1) ∧ σ' = (r.2, L) ∧ InvK INVC r.2
abbrev R_L_set : Room := { frames := 7, cells := 1, slots := 6, locals := 103 }
set_option maxRecDepth 20000 in
set_option maxHeartbeats 4000000 in
theorem k_L_set (l : Launch) (hst : l.stackTraces = false) (a1 : Int32) (a2 : Int32) (M : St) (L : Nat → Nat → Int64) (hI : InvK INVC M) : XMH l yL_set cL_set 4 (some .int) [(0, 6, 9, 13)] R_L_set LAY [.ref 0, .int a1, .int a2] (M, L) (P_L_set (f_X10_set a1 a2 M) L) := by
  refine XMH.of (fl := []) (kc := []) (by decide) (Nat.le_of_ble_eq_true rfl) LAY_in cl_ok (fun q h => nomatch h) (fun q h => nomatch h) (fun V C => ?_)
  show V 0 0 0 [(0, .ref 0), (1, .int a1), (2, .int a2)] [] LAY (M, L)
  refine x_run C.xc [(0, .aload_n 0, 1, .null), (1, .iload_n 1, 1, .null), (2, .iload_n 2, 1, .null)] (by decide +kernel) (pc' := 3) (lv' := [(0, .ref 0), (1, .int a1), (2, .int a2)]) (st' := [.int a2, .int a1, .ref 0]) (σ' := (M, L)) rfl ⟨trivial, trivial, trivial, trivial⟩ ?_
  refine x_callVX C (k := 0) (ci := 7) (rest := []) (avs := [.int a1, .int a2]) (k_X10_set l hst a1 a2 M L hI) yoX10_set ml_L_41 rfl rfl rfl ⟨rfl, rfl⟩ rfl ⟨by decide, by decide, by decide +kernel⟩ rfl (show decode cL_set 3 = .ok (.invokevirtual 41, 3) from by decide +kernel) rfl (fun v σ' hPo => ?_) (fun E hE => ?_)
  · obtain ⟨h0, ⟨rfl, rfl⟩, hI2⟩ := hPo
    show V 1 6 6 [(0, .ref 0), (1, .int a1), (2, .int a2)] [] LAY ((f_X10_set a1 a2 M).2, L)
    refine x_goto C.xc (tgt := 12) (show decode cL_set 6 = .ok (.goto 6, 3) from by decide +kernel) (by decide) ?_
    refine x_run C.xc [(12, .iconst 0, 1, .int 0)] (by decide +kernel) (pc' := 13) (lv' := [(0, .ref 0), (1, .int a1), (2, .int a2)]) (st' := [.int 0]) (σ' := ((f_X10_set a1 a2 M).2, L)) rfl ⟨trivial, trivial⟩ ?_
    exact x_iret C.xc (show decode cL_set 13 = .ok (.ireturn, 1) from by decide +kernel) ⟨rfl, rfl, (fun w hw => by cases hw; trivial), by rw [h0], rfl, hI2⟩ (by decide) (by decide)
  · obtain ⟨rfl, h1⟩ := hE
    refine ⟨9, ⟨[], ⟨0, 6, 9, 13⟩, [], "java/lang/IndexOutOfBoundsException", rfl, (fun z hz => nomatch hz), by decide, by decide, wc_L_13, by decide +kernel, rfl⟩, ?_⟩
    show V 1 6 9 [(0, .ref 0), (1, .int a1), (2, .int a2)] [.ref 999] LAY (M, L)
    refine x_run C.xc [(9, .astore_n 3, 1, .null), (10, .iconst 1, 1, .int 1)] (by decide +kernel) (pc' := 11) (lv' := [(3, .ref 999), (0, .ref 0), (1, .int a1), (2, .int a2)]) (st' := [.int 1]) (σ' := (M, L)) rfl ⟨trivial, trivial, trivial⟩ ?_
    have hz : (f_X10_set a1 a2 M).2 = M := z_set (by rw [h1]; decide)
    exact x_iret C.xc (show decode cL_set 11 = .ok (.ireturn, 1) from by decide +kernel) ⟨rfl, rfl, (fun w hw => by cases hw; trivial), by rw [h1], by rw [hz], by rw [hz]; exact hI⟩ (by decide) (by decide)
-- device
theorem yo_L_device : XYH yL_device cL_device 4 (some .int) [(0, 9, 12, 13)] 3 := by
  have h := x_in3 (a := Cond.codeWith yL_device cL_device 4 (some .int) [(0, 9, 12, 13)]) (b := Cond.initialized yL_device.cls) (d := Cond.static yL_device) (by decide +kernel)
  exact ⟨h.1, h.2.1, by decide +kernel, h.2.2⟩
abbrev P_L_device (r : Int32 × Int32 × St) (L : Nat → Nat → Int64) : Option Value → xG → Prop := fun v σ' => v = some (.int r.1) ∧ σ' = (r.2.2, if r.1 = 0 then xupL L 22 0 r.2.1.toInt64 else L) ∧ InvK INVC r.2.2
abbrev R_L_device : Room := { frames := 7, cells := 1, slots := 6, locals := 102 }
set_option maxRecDepth 20000 in
set_option maxHeartbeats 4000000 in
theorem k_L_device (l : Launch) (hst : l.stackTraces = false) (a1 : Int32) (M : St) (L : Nat → Nat → Int64) (hI : InvK INVC M) : XMH l yL_device cL_device 4 (some .int) [(0, 9, 12, 13)] R_L_device LAY [.ref 0, .int a1, .ref 22] (M, L) (P_L_device (f_X10_device a1 M) L) := by
  refine XMH.of (fl := []) (kc := []) (by decide) (Nat.le_of_ble_eq_true rfl) LAY_in cl_ok (fun q h => nomatch h) (fun q h => nomatch h) (fun V C => ?_)
  show V 0 0 0 [(0, .ref 0), (1, .int a1), (2, .ref 22)] [] LAY (M, L)
  refine x_run C.xc [(0, .aload_n 2, 1, .null), (1, .iconst 0, 1, .int 0), (2, .aload_n 0, 1, .null), (3, .iload_n 1, 1, .null)] (by decide +kernel) (pc' := 4) (lv' := [(0, .ref 0), (1, .int a1), (2, .ref 22)]) (st' := [.int a1, .ref 0, .int 0, .ref 22]) (σ' := (M, L)) rfl ⟨trivial, trivial, trivial, trivial, trivial⟩ ?_
  refine x_callVX C (k := 0) (ci := 7) (rest := [.int 0, .ref 22]) (avs := [.int a1]) (k_X10_device l hst a1 M L hI) yoX10_device ml_L_44 rfl rfl rfl ⟨rfl, rfl⟩ rfl ⟨by decide, by decide, by decide +kernel⟩ rfl (show decode cL_device 4 = .ok (.invokevirtual 44, 3) from by decide +kernel) rfl (fun v σ' hPo => ?_) (fun E hE => ?_)
  · obtain ⟨h0, ⟨rfl, rfl⟩, -, hI2⟩ := hPo
    show V 1 6 7 [(0, .ref 0), (1, .int a1), (2, .ref 22)] [.int (f_X10_device a1 M).2.1, .int 0, .ref 22] LAY ((f_X10_device a1 M).2.2, L)
    refine x_run C.xc [(7, .i2l, 1, .null), (8, .lastore, 1, .null)] (by decide +kernel) (pc' := 9) (lv' := [(0, .ref 0), (1, .int a1), (2, .ref 22)]) (st' := []) (σ' := ((f_X10_device a1 M).2.2, xupL L 22 0 (f_X10_device a1 M).2.1.toInt64)) rfl ⟨trivial, (vpi (by decide)), trivial⟩ ?_
    refine x_goto C.xc (tgt := 15) (show decode cL_device 9 = .ok (.goto 6, 3) from by decide +kernel) (by decide) ?_
    refine x_run C.xc [(15, .iconst 0, 1, .int 0)] (by decide +kernel) (pc' := 16) (lv' := [(0, .ref 0), (1, .int a1), (2, .ref 22)]) (st' := [.int 0]) (σ' := ((f_X10_device a1 M).2.2, xupL L 22 0 (f_X10_device a1 M).2.1.toInt64)) rfl ⟨trivial, trivial⟩ ?_
    exact x_iret C.xc (show decode cL_device 16 = .ok (.ireturn, 1) from by decide +kernel) ⟨rfl, rfl, (fun w hw => by cases hw; trivial), by rw [h0], by rw [if_pos h0], hI2⟩ (by decide) (by decide)
  · obtain ⟨rfl, h1⟩ := hE
    refine ⟨12, ⟨[], ⟨0, 9, 12, 13⟩, [], "java/lang/IndexOutOfBoundsException", rfl, (fun z hz => nomatch hz), by decide, by decide, wc_L_13, by decide +kernel, rfl⟩, ?_⟩
    show V 1 6 12 [(0, .ref 0), (1, .int a1), (2, .ref 22)] [.ref 999] LAY (M, L)
    refine x_run C.xc [(12, .astore_n 3, 1, .null), (13, .iconst 1, 1, .int 1)] (by decide +kernel) (pc' := 14) (lv' := [(3, .ref 999), (0, .ref 0), (1, .int a1), (2, .ref 22)]) (st' := [.int 1]) (σ' := (M, L)) rfl ⟨trivial, trivial, trivial⟩ ?_
    have hz : (f_X10_device a1 M).2.2 = M := z_device
    exact x_iret C.xc (show decode cL_device 14 = .ok (.ireturn, 1) from by decide +kernel) ⟨rfl, rfl, (fun w hw => by cases hw; trivial), by rw [h1], by rw [hz, if_neg (by rw [h1]; decide)], by rw [hz]; exact hI⟩ (by decide) (by decide)
