/-! THE LAW: its loop -/
theorem and15 (x : Int32) : ∃ j : Nat, j < 16 ∧ x &&& 15 = nI j := ⟨_, Nat.mod_lt _ (by decide), pk_and x 4 (by decide)⟩
theorem L_sub {n k : Nat} (hn : n ≤ 2560) (hk : k ≤ 2560) (h : ¬ (Int32.ofNat n - 5 < nI k)) : k + 5 ≤ n := by
  have h1 : (Int32.ofNat n - 5).toInt = (n : Int) - (5 : Nat) := pk_sub_toInt (a := n) (b := 5) (by omega) (by decide)
  have h2 : (nI k).toInt = (k : Int) := nI_toInt (by omega)
  have h3 : ¬ (Int32.ofNat n - 5).toInt < (nI k).toInt := fun z => h (Int32.lt_iff_toInt_lt.mpr z)
  rw [h1, h2] at h3
  omega
theorem L_in {n k : Nat} (hn : n ≤ 2560) (h : k < n) : vp_in (nI k) n := nI_in h (by omega)
set_option maxRecDepth 20000 in
set_option maxHeartbeats 4000000 in
theorem L_loop {l : Launch} {nm : String} {V : XJ} {n : Nat} {xs : Nat → Int32} (C : C_L l nm V) (S : XLs V n xs) (hst : l.stackTraces = false) (hn : n ≤ 2560) : ∀ (k t : Nat) (M : St) (Lg : Nat → Nat → Int64), LI M → 5 * t ≤ n → n < 5 * (t + k) → V (23 + t) (4539 + 6 * t) 23 [(0, .ref 3000), (1, .ref 0), (2, .ref 14), (3, .ref 22), (4, .int (nI (5 * t)))] [] LAY (M, Lg)
  | 0, t, M, Lg, h, h1, h2 => by omega
  | k + 1, t, M, Lg, h, ht, h2 => by
    have IH : ∀ M' L', LI M' → 5 * t + 5 ≤ n → V (23 + t + 1) (4539 + 6 * t + 6) 708 [(0, .ref 3000), (1, .ref 0), (2, .ref 14), (3, .ref 22), (4, .int (nI (5 * t)))] [] LAY (M', L') := by
      intro M' L' h' h5
      refine x_run C [(708, .iinc 4 5, 3, .null)] (by decide +kernel) (pc' := 711) (lv' := [(4, .int (nI (5 * t) + 5)), (0, .ref 3000), (1, .ref 0), (2, .ref 14), (3, .ref 22)]) (st' := []) (σ' := (M', L')) rfl ⟨trivial, trivial⟩ ?_
      refine x_goto C (tgt := 23) (show decode cL_law 711 = .ok (.goto (-688), 3) from by decide +kernel) (by decide) ?_
      refine x_lv C [1, 2, 3, 4, 0] rfl ?_
      have e : nI (5 * t) + 5 = nI (5 * (t + 1)) := nI_add (5 * t) 5
      rw [e]
      exact L_loop C S hst hn k (t + 1) M' L' h' (by omega) (by omega)
    refine x_run C [(23, .iload 4, 2, .null), (25, .aload_n 0, 1, .null)] (by decide +kernel) (pc' := 26) (lv' := [(0, .ref 3000), (1, .ref 0), (2, .ref 14), (3, .ref 22), (4, .int (nI (5 * t)))]) (st' := [.ref 3000, .int (nI (5 * t))]) (σ' := (M, Lg)) rfl ⟨trivial, trivial, trivial⟩ ?_
    refine S.2 _ _ 26 _ _ _ _ (by decide +kernel) ?_
    refine x_run C [(27, .iconst 5, 1, .int 5), (28, .isub, 1, .null)] (by decide +kernel) (pc' := 29) (lv' := [(0, .ref 3000), (1, .ref 0), (2, .ref 14), (3, .ref 22), (4, .int (nI (5 * t)))]) (st' := [.int (Int32.ofNat n - 5), .int (nI (5 * t))]) (σ' := (M, Lg)) rfl ⟨trivial, trivial, trivial⟩ ?_
    refine x_icmp_gt C (show decode cL_law 29 = .ok (.if_icmp .gt 685, 3) from by decide +kernel) (tgt := 714) (by decide) (fun _ => ?_) (fun c => ?_)
    · refine x_run C [(714, .iconst 1, 1, .int 1)] (by decide +kernel) (pc' := 715) (lv' := [(0, .ref 3000), (1, .ref 0), (2, .ref 14), (3, .ref 22), (4, .int (nI (5 * t)))]) (st' := [.int 1]) (σ' := (M, Lg)) rfl ⟨trivial, trivial⟩ ?_
      exact x_iret C (show decode cL_law 715 = .ok (.ireturn, 1) from by decide +kernel) rfl (by omega) (by omega)
    · have h5 : 5 * t + 5 ≤ n := L_sub hn (by omega) c
      have hc : (23 + t) + 1 ≤ 1057 := by omega
      have hs : (4539 + 6 * t) + 6 ≤ 12791 := by omega
      have h0 : vp_in (nI (5 * t)) n := L_in hn (by omega)
      have h1 : vp_in (nI (5 * t) + 1) n := by rw [show nI (5 * t) + 1 = nI (5 * t + 1) from nI_add (5 * t) 1]; exact L_in hn (by omega)
      have h2 : vp_in (nI (5 * t) + 2) n := by rw [show nI (5 * t) + 2 = nI (5 * t + 2) from nI_add (5 * t) 2]; exact L_in hn (by omega)
      have h3 : vp_in (nI (5 * t) + 3) n := by rw [show nI (5 * t) + 3 = nI (5 * t + 3) from nI_add (5 * t) 3]; exact L_in hn (by omega)
      have h4 : vp_in (nI (5 * t) + 4) n := by rw [show nI (5 * t) + 4 = nI (5 * t + 4) from nI_add (5 * t) 4]; exact L_in hn (by omega)
      have next := fun M' L' h' => IH M' L' h' h5
      refine x_run C [(32, .aload_n 0, 1, .null), (33, .iload 4, 2, .null)] (by decide +kernel) (pc' := 35) (lv' := [(0, .ref 3000), (1, .ref 0), (2, .ref 14), (3, .ref 22), (4, .int (nI (5 * t)))]) (st' := [.int (nI (5 * t)), .ref 3000]) (σ' := (M, Lg)) rfl ⟨trivial, trivial, trivial⟩ ?_
      refine S.1 _ _ 35 _ _ _ _ (nI (5 * t)) (by decide +kernel) h0 ?_
      refine x_run C [(36, .bipush 15, 2, .int 15), (38, .iand, 1, .null)] (by decide +kernel) (pc' := 39) (lv' := [(0, .ref 3000), (1, .ref 0), (2, .ref 14), (3, .ref 22), (4, .int (nI (5 * t)))]) (st' := [.int (xs (nI (5 * t)).toNatClampNeg &&& 15)]) (σ' := (M, Lg)) rfl ⟨trivial, trivial, trivial⟩ ?_
      obtain ⟨j, hj, ej⟩ := and15 (xs (nI (5 * t)).toNatClampNeg)
      rw [ej]
      have hsw : decode cL_law 39 = .ok (.tableswitch 669 0 14 #[73, 121, 213, 249, 260, 304, 360, 396, 421, 446, 502, 550, 575, 631, 644], 73) := by decide +kernel
      rcases (show j = 0 ∨ j = 1 ∨ j = 2 ∨ j = 3 ∨ j = 4 ∨ j = 5 ∨ j = 6 ∨ j = 7 ∨ j = 8 ∨ j = 9 ∨ j = 10 ∨ j = 11 ∨ j = 12 ∨ j = 13 ∨ j = 14 ∨ j = 15 by omega) with rfl | rfl | rfl | rfl | rfl | rfl | rfl | rfl | rfl | rfl | rfl | rfl | rfl | rfl | rfl | rfl
      · exact x_tin C hsw 0 rfl (off := 73) (tgt := 112) (by decide) (c_L_0 C S hst h1 h2 h3 h4 h hc hs next)
      · exact x_tin C hsw 1 rfl (off := 121) (tgt := 160) (by decide) (c_L_1 C S hst h1 h2 h3 h4 h hc hs next)
      · exact x_tin C hsw 2 rfl (off := 213) (tgt := 252) (by decide) (c_L_2 C S hst h1 h2 h3 h4 h hc hs next)
      · exact x_tin C hsw 3 rfl (off := 249) (tgt := 288) (by decide) (c_L_3 C S hst h1 h2 h3 h4 h hc hs next)
      · exact x_tin C hsw 4 rfl (off := 260) (tgt := 299) (by decide) (c_L_4 C S hst h1 h2 h3 h4 h hc hs next)
      · exact x_tin C hsw 5 rfl (off := 304) (tgt := 343) (by decide) (c_L_5 C S hst h1 h2 h3 h4 h hc hs next)
      · exact x_tin C hsw 6 rfl (off := 360) (tgt := 399) (by decide) (c_L_6 C S hst h1 h2 h3 h4 h hc hs next)
      · exact x_tin C hsw 7 rfl (off := 396) (tgt := 435) (by decide) (c_L_7 C S hst h1 h2 h3 h4 h hc hs next)
      · exact x_tin C hsw 8 rfl (off := 421) (tgt := 460) (by decide) (c_L_8 C S hst h1 h2 h3 h4 h hc hs next)
      · exact x_tin C hsw 9 rfl (off := 446) (tgt := 485) (by decide) (c_L_9 C S hst h1 h2 h3 h4 h hc hs next)
      · exact x_tin C hsw 10 rfl (off := 502) (tgt := 541) (by decide) (c_L_10 C S hst h1 h2 h3 h4 h hc hs next)
      · exact x_tin C hsw 11 rfl (off := 550) (tgt := 589) (by decide) (c_L_11 C S hst h1 h2 h3 h4 h hc hs next)
      · exact x_tin C hsw 12 rfl (off := 575) (tgt := 614) (by decide) (c_L_12 C S hst h1 h2 h3 h4 h hc hs next)
      · exact x_tin C hsw 13 rfl (off := 631) (tgt := 670) (by decide) (c_L_13 C S hst h1 h2 h3 h4 h hc hs next)
      · exact x_tin C hsw 14 rfl (off := 644) (tgt := 683) (by decide) (c_L_14 C S hst h1 h2 h3 h4 h hc hs next)
      · refine x_tout C hsw (tgt := 708) (Or.inr (by decide)) (by decide) ?_
        refine x_wid C (Nat.le_add_right _ 1) (Nat.le_add_right _ 6) ?_
        exact next _ _ h
/-! THE LAW: its first steps -/
theorem wN_L_8 : Cond.classLink RL 8 RX10 ∈ xtb ∧ Cond.instantiable RX10 3 ∈ xtb ∧ Cond.initialized RX10 ∈ xtb := x_in3 (by decide +kernel)
theorem wN_L_48 : Cond.classLink RL 48 RX11 ∈ xtb ∧ Cond.instantiable RX11 27 ∈ xtb ∧ Cond.initialized RX11 ∈ xtb := x_in3 (by decide +kernel)
set_option maxRecDepth 20000 in
set_option maxHeartbeats 4000000 in
theorem L_start {l : Launch} {nm : String} {V : XJ} {n : Nat} {xs : Nat → Int32} (C : C_L l nm V) (S : XLs V n xs) (hst : l.stackTraces = false) (hn : n ≤ 2560) : V 0 0 0 [(0, .ref 3000)] [] [] (M0, ML0) := by
  refine x_new C (ci := 7) (r := (RX10, TX10, 3)) (fs := [some .null, some .null, some .null]) (n := 0) (N := 3) (lay' := LY_1) rfl wN_L_8 (by decide +kernel) rfl rfl (fun _ => rfl) (by decide) (by decide +kernel) rfl rfl (by decide) (show decode cL_law 0 = .ok (.new 8, 3) from by decide +kernel) rfl ?_
  refine x_run C [(3, .dup, 1, .null)] (by decide +kernel) (pc' := 4) (lv' := [(0, .ref 3000)]) (st' := [.ref 0, .ref 0]) (σ' := (M0, ML0)) rfl ⟨trivial, trivial⟩ ?_
  refine x_callI C (rest := [.ref 0]) (k_X10_init l) yoX10_init ml_L_47 (by decide) (by decide +kernel) (show decode cL_law 4 = .ok (.invokespecial 47, 3) from by decide +kernel) rfl ?_
  refine x_run C [(7, .astore_n 1, 1, .null)] (by decide +kernel) (pc' := 8) (lv' := [(1, .ref 0), (0, .ref 3000)]) (st' := []) (σ' := (MS_1, ML0)) rfl ⟨trivial, trivial⟩ ?_
  refine x_new C (ci := 8) (r := (RX11, TX11, 27)) (fs := [none, some .null, none, some .null, some .null, none, none, some .null, none, none, none, none, none, some .null, none, some .null, none, none, some .null, none, none, none, none, none, none, none, none]) (n := 14) (N := 27) (lay' := LY_40) rfl wN_L_48 (by decide +kernel) rfl rfl (fun _ => rfl) (by decide) (by decide +kernel) rfl rfl (by decide) (show decode cL_law 8 = .ok (.new 48, 3) from by decide +kernel) rfl ?_
  refine x_run C [(11, .dup, 1, .null)] (by decide +kernel) (pc' := 12) (lv' := [(1, .ref 0), (0, .ref 3000)]) (st' := [.ref 14, .ref 14]) (σ' := (MS_1, ML0)) rfl ⟨trivial, trivial⟩ ?_
  refine x_callI C (rest := [.ref 14]) (k_X11_init l) yoX11_init ml_L_50 (by decide) (by decide +kernel) (show decode cL_law 12 = .ok (.invokespecial 50, 3) from by decide +kernel) rfl ?_
  refine x_run C [(15, .astore_n 2, 1, .null), (16, .iconst 1, 1, .int 1)] (by decide +kernel) (pc' := 17) (lv' := [(2, .ref 14), (1, .ref 0), (0, .ref 3000)]) (st' := [.int 1]) (σ' := (MS_4, ML0)) rfl ⟨trivial, trivial, trivial⟩ ?_
  refine x_newl C (n := 22) (N := 1) (lay' := LY_55) wA_long rfl (by decide) (by decide +kernel) (by decide) (fun _ => rfl) (by decide) (by decide +kernel) rfl rfl (by decide) (show decode cL_law 17 = .ok (.newarray .long, 2) from by decide +kernel) rfl ?_
  refine x_run C [(19, .astore_n 3, 1, .null), (20, .iconst 0, 1, .int 0), (21, .istore 4, 2, .null)] (by decide +kernel) (pc' := 23) (lv' := [(4, .int 0), (3, .ref 22), (2, .ref 14), (1, .ref 0), (0, .ref 3000)]) (st' := []) (σ' := (MS_4, ML0)) rfl ⟨trivial, trivial, trivial, trivial⟩ ?_
  refine x_lv C [4, 3, 2, 1, 0] (lv' := [(0, .ref 3000), (1, .ref 0), (2, .ref 14), (3, .ref 22), (4, .int 0)]) rfl ?_
  rw [LY_end]
  exact L_loop C S hst hn (n + 1) 0 MS_4 ML0 LI0 (by omega) (by omega)
