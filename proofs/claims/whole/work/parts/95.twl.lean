theorem e60 {m l : Nat} (hm : m < 8) (hl : l < 8) : (eB m l = 60) ↔ (m = 7 ∧ l = 4) := by
  have : (nI (8 * m + l) = nI 60) ↔ 8 * m + l = 60 := nI_eq (by omega) (by decide)
  exact this.trans (by omega)
theorem pv12 {r d z m l : Nat} (h : wB 12 r d z m l) : f_X11_isPrivileged (wd 12 r d z m l) = if d = 0 then (if f_X11_isStatus (eB m l) (nI r) = 0 then 0 else if nI z = 1 then 1 else 0) else 0 := by
  unfold f_X11_isPrivileged
  rw [(wd_g h).2, if_neg (show ¬ nI 12 = 3 by decide), if_pos (show nI 12 = 12 from rfl), wd_e h, (wd_r h).2, (wd_z h).2]
  by_cases d0 : d = 0
  · rw [if_pos ((wd_256 h).mpr d0), if_pos d0]
  · rw [if_neg (fun e => d0 ((wd_256 h).mp e)), if_neg d0]
theorem EX_wn {r z m l op : Nat} {N : St} (h : wB 12 r 0 z m l) (hw : N 11 0 = wd 12 r 0 z m l) (hop : op < 62) (hp : opP.getD op 0 = 0) (hpv : f_X11_isPrivileged (wd 12 r 0 z m l) = 0) (hleg : f_X11_isLegal (wd 12 r 0 z m l) = if (3 : Int32) ≤ nI z then 0 else if f_X9_isOpenData (eB m l) = 0 then 0 else 1) (hx : z < 3 → okW m l → ∀ (D : Nat → Int32) (N B : St), D 0 = wd 12 r 0 z m l → D 1 = nI z → D 2 = eB 7 4 → D 3 = eB m l → R id D (xup (xup N 12 6 0) 12 7 0) B → R id D (f_X4_perform op N) (f_X11_perform (wd 12 r 0 z m l) B)) : EX (wd 12 r 0 z m l) (f_X3_withNumber_65 op N) := by
  obtain ⟨_, hr, hd, hz, hm, hl8⟩ := id h
  unfold f_X3_withNumber_65 f_X3_withNumber_99 f_X3_withNumber_100
  simp only [xb_eta, q_op h hw, q_z h hw]
  by_cases c1 : (3 : Int32) ≤ nI z
  · rw [if_pos c1] at hleg ⊢
    exact EX_bad hleg
  rw [if_neg c1] at hleg ⊢
  by_cases c2 : f_X9_isOpenData (eB m l) = 0
  · rw [if_pos c2] at hleg ⊢
    exact EX_bad hleg
  rw [if_neg c2] at hleg ⊢
  have hz3 : z < 3 := by
    have : ¬ 3 ≤ z := fun x => c1 ((nI_leI (a := 3) (b := z) (by decide) (by omega)).mpr x)
    omega
  exact EX_pair hw (iff_of_false (by rw [hleg]; decide) (by decide)) hop (fun _ => iff_of_true hp hpv) (fun c D N B d0 d1 d2 d3 hR => hx hz3 (odE hm hl8 c2) D N B d0 d1 d2 d3 hR)
set_option maxHeartbeats 1000000 in
theorem EX_12_0 {z m l : Nat} {N : St} (h : wB 12 0 0 z m l) (hw : N 11 0 = wd 12 0 0 z m l) : EX (wd 12 0 0 z m l) (f_X3_withNumber 9 N) := by
  obtain ⟨_, hr, hd, hz, hm, hl8⟩ := id h
  have hlg := lg_12 h
  have hpv := pv12 h
  have ft : f_X11_fits (eB m l) (nI z) 9 = f_X9_isOpenData (eB m l) := (fitB ⟨m, hm⟩ ⟨l, hl8⟩ ⟨z, hz⟩).2.1
  unfold f_X11_isLegalTwelve f_X11_isLegalTwelve_13 at hlg
  rw [if_pos (show nI 0 = 0 from rfl), if_pos (show nI 0 = 0 from rfl), if_neg (show ¬ nI 0 = 4 by decide), if_neg (show ¬ (7 : Int32) ≤ nI 0 by decide), ft] at hlg
  rw [if_pos (show 0 = 0 from rfl)] at hpv
  unfold f_X3_withNumber f_X3_withNumber_21 f_X3_withNumber_26
  simp only [q_op h hw, q_z h hw, if_true]
  have go : f_X11_isStatus (eB m l) (nI 0) = 0 → z < 3 → okW m l → ∀ (D : Nat → Int32) (N B : St), D 0 = wd 12 0 0 z m l → D 1 = nI z → D 2 = eB 7 4 → D 3 = eB m l → R id D (xup (xup N 12 6 0) 12 7 0) B → R id D (f_X4_perform 9 N) (f_X11_perform (wd 12 0 0 z m l) B) := by
    intro hst hz3 ow D N B d0 d1 d2 d3 hR
    obtain ⟨s1, s2⟩ := srcN hR (sz3 hz3) d2 d1
    rw [pf_9, pg_12 h]
    unfold f_X4_perform_237 f_X11_twelve f_X11_twelve_23 f_X11_twelve_72 f_X11_twelve_221 f_X11_twelve_239 f_X11_twelve_279
    simp only [xb_l, if_true]
    rw [if_pos (show nI 0 = 0 from rfl), if_pos (show nI 0 = 0 from rfl), if_neg (show ¬ nI 0 = 4 by decide), if_pos hst, if_pos hst]
    rw [if_neg (show ¬ nI 0 = 6 by decide), if_neg (show ¬ nI 0 = 2 by decide), if_neg (show ¬ nI 0 = 3 by decide), if_pos (show nI 0 = 0 from rfl)]
    exact chgL2 (gg := fun b a => b ||| a) s1 (sz3 hz3) d1 d3 ow (fun b M => cb_9 b _ _ M) (fun A2 r2 e2 e1 hk _ => by rw [(s2 e1).2.1]; exact eqM.rfl')
  rw [if_neg (show ¬ (1 : Int32) = 0 by decide)]
  by_cases c60 : eB m l = 60
  · rw [if_pos c60]
    have hst : f_X11_isStatus (eB m l) (nI 0) = 1 := by
      unfold f_X11_isStatus
      rw [if_pos c60]
      rfl
    have hst0 : ¬ f_X11_isStatus (eB m l) (nI 0) = 0 := by rw [hst]; decide
    rw [if_neg hst0] at hlg hpv
    by_cases c2 : (2 : Int32) ≤ nI z
    · rw [if_pos c2] at hlg ⊢
      have od : f_X9_isOpenData (eB m l) = 0 := by rw [c60]; decide
      have z1 : ¬ nI z = 1 := fun e => by rw [e] at c2; exact absurd c2 (by decide)
      rw [if_neg z1] at hpv
      refine EX_wn h hw (by decide) rfl hpv ?_ (fun _ ow => ?_)
      · rw [hlg, if_pos od, ite_self]
      · exfalso
        have := (e60 hm hl8).mp c60
        unfold okW at ow
        omega
    · rw [if_neg c2] at hlg ⊢
      have hz2 : z < 2 := by
        have : ¬ 2 ≤ z := fun x => c2 ((nI_leI (a := 2) (b := z) (by decide) (by omega)).mpr x)
        omega
      have pre : ∀ (D : Nat → Int32) (N B : St), D 0 = wd 12 0 0 z m l → R id D (xup (xup N 12 6 0) 12 7 0) B → ∀ A' : St, A' 11 = D → f_X3_upperRegister A' = nI 0 := fun D N B d0 hR A' hA => q_r h (by rw [hA, d0])
      rcases (show z = 0 ∨ z = 1 by omega) with rfl | rfl
      · rw [if_pos (show nI 0 = 0 from rfl)]
        rw [if_neg (show ¬ nI 0 = 1 by decide)] at hpv
        refine EX_lit hw (by rw [hlg]; decide) (by decide) (iff_of_true rfl hpv) (fun D N B d0 hR => ?_)
        have j := (stJ hR (by decide) (pre D N B d0 hR)).1
        rw [pf_25, pg_12 h]
        unfold f_X11_twelve f_X11_twelve_23
        rw [if_pos (show nI 0 = 0 from rfl), if_pos (show nI 0 = 0 from rfl), if_neg (show ¬ nI 0 = 4 by decide), if_neg hst0, t72s hst0, if_pos (show nI 0 = 0 from rfl)]
        exact j
      · rw [if_neg (show ¬ nI 1 = 0 by decide)]
        rw [if_pos (show nI 1 = 1 from rfl)] at hpv
        refine EX_lit hw (by rw [hlg]; decide) (by decide) (iff_of_false (by decide) (by rw [hpv]; decide)) (fun D N B d0 hR => ?_)
        have j := (stJ hR (by decide) (pre D N B d0 hR)).2
        rw [pf_26, pg_12 h]
        unfold f_X11_twelve f_X11_twelve_23
        rw [if_pos (show nI 0 = 0 from rfl), if_pos (show nI 0 = 0 from rfl), if_neg (show ¬ nI 0 = 4 by decide), if_neg hst0, t72s hst0, if_neg (show ¬ nI 1 = 0 by decide)]
        exact j
  · rw [if_neg c60]
    have hst : f_X11_isStatus (eB m l) (nI 0) = 0 := by
      unfold f_X11_isStatus
      rw [if_neg c60]
    rw [if_pos hst] at hlg hpv
    exact EX_wn h hw (by decide) rfl hpv hlg (go hst)
set_option maxHeartbeats 1000000 in
theorem EX_12_1 {z m l : Nat} {N : St} (h : wB 12 1 0 z m l) (hw : N 11 0 = wd 12 1 0 z m l) : EX (wd 12 1 0 z m l) (f_X3_withNumber 8 N) := by
  obtain ⟨_, hr, hd, hz, hm, hl8⟩ := id h
  have hlg := lg_12 h
  have hpv := pv12 h
  have ft : f_X11_fits (eB m l) (nI z) 9 = f_X9_isOpenData (eB m l) := (fitB ⟨m, hm⟩ ⟨l, hl8⟩ ⟨z, hz⟩).2.1
  unfold f_X11_isLegalTwelve f_X11_isLegalTwelve_13 at hlg
  rw [if_pos (show nI 0 = 0 from rfl), if_pos (show nI 0 = 0 from rfl), if_neg (show ¬ nI 1 = 4 by decide), if_neg (show ¬ (7 : Int32) ≤ nI 1 by decide), ft] at hlg
  rw [if_pos (show 0 = 0 from rfl)] at hpv
  unfold f_X3_withNumber f_X3_withNumber_21 f_X3_withNumber_26
  simp only [q_op h hw, q_z h hw, if_true]
  have go : f_X11_isStatus (eB m l) (nI 1) = 0 → z < 3 → okW m l → ∀ (D : Nat → Int32) (N B : St), D 0 = wd 12 1 0 z m l → D 1 = nI z → D 2 = eB 7 4 → D 3 = eB m l → R id D (xup (xup N 12 6 0) 12 7 0) B → R id D (f_X4_perform 8 N) (f_X11_perform (wd 12 1 0 z m l) B) := by
    intro hst hz3 ow D N B d0 d1 d2 d3 hR
    obtain ⟨s1, s2⟩ := srcN hR (sz3 hz3) d2 d1
    rw [pf_8, pg_12 h]
    unfold f_X4_perform_237 f_X11_twelve f_X11_twelve_23 f_X11_twelve_72 f_X11_twelve_221 f_X11_twelve_239 f_X11_twelve_279
    simp only [xb_l, if_true]
    rw [if_pos (show nI 0 = 0 from rfl), if_pos (show nI 0 = 0 from rfl), if_neg (show ¬ nI 1 = 4 by decide), if_pos hst, if_pos hst]
    rw [if_neg (show ¬ nI 1 = 6 by decide), if_neg (show ¬ nI 1 = 2 by decide), if_neg (show ¬ nI 1 = 3 by decide), if_neg (show ¬ nI 1 = 0 by decide), if_pos (show nI 1 = 1 from rfl)]
    exact chgL2 (gg := fun b a => b &&& a) s1 (sz3 hz3) d1 d3 ow (fun b M => cb_8 b _ _ M) (fun A2 r2 e2 e1 hk _ => by rw [(s2 e1).2.1]; exact eqM.rfl')
  rw [if_neg (show ¬ (8 : Nat) = 9 by decide), if_neg (show ¬ (1 : Int32) = 0 by decide)]
  by_cases c60 : eB m l = 60
  · rw [if_pos c60]
    have hst : f_X11_isStatus (eB m l) (nI 1) = 1 := by
      unfold f_X11_isStatus
      rw [if_pos c60]
      rfl
    have hst0 : ¬ f_X11_isStatus (eB m l) (nI 1) = 0 := by rw [hst]; decide
    rw [if_neg hst0] at hlg hpv
    by_cases c2 : (2 : Int32) ≤ nI z
    · rw [if_pos c2] at hlg ⊢
      have od : f_X9_isOpenData (eB m l) = 0 := by rw [c60]; decide
      have z1 : ¬ nI z = 1 := fun e => by rw [e] at c2; exact absurd c2 (by decide)
      rw [if_neg z1] at hpv
      refine EX_wn h hw (by decide) rfl hpv ?_ (fun _ ow => ?_)
      · rw [hlg, if_pos od, ite_self]
      · exfalso
        have := (e60 hm hl8).mp c60
        unfold okW at ow
        omega
    · rw [if_neg c2] at hlg ⊢
      have hz2 : z < 2 := by
        have : ¬ 2 ≤ z := fun x => c2 ((nI_leI (a := 2) (b := z) (by decide) (by omega)).mpr x)
        omega
      have pre : ∀ (D : Nat → Int32) (N B : St), D 0 = wd 12 1 0 z m l → R id D (xup (xup N 12 6 0) 12 7 0) B → ∀ A' : St, A' 11 = D → f_X3_upperRegister A' = nI 1 := fun D N B d0 hR A' hA => q_r h (by rw [hA, d0])
      rcases (show z = 0 ∨ z = 1 by omega) with rfl | rfl
      · rw [if_pos (show nI 0 = 0 from rfl)]
        rw [if_neg (show ¬ nI 0 = 1 by decide)] at hpv
        refine EX_lit hw (by rw [hlg]; decide) (by decide) (iff_of_true rfl hpv) (fun D N B d0 hR => ?_)
        have j := (stJ hR (by decide) (pre D N B d0 hR)).1
        rw [pf_25, pg_12 h]
        unfold f_X11_twelve f_X11_twelve_23
        rw [if_pos (show nI 0 = 0 from rfl), if_pos (show nI 0 = 0 from rfl), if_neg (show ¬ nI 1 = 4 by decide), if_neg hst0, t72s hst0, if_pos (show nI 0 = 0 from rfl)]
        exact j
      · rw [if_neg (show ¬ nI 1 = 0 by decide)]
        rw [if_pos (show nI 1 = 1 from rfl)] at hpv
        refine EX_lit hw (by rw [hlg]; decide) (by decide) (iff_of_false (by decide) (by rw [hpv]; decide)) (fun D N B d0 hR => ?_)
        have j := (stJ hR (by decide) (pre D N B d0 hR)).2
        rw [pf_26, pg_12 h]
        unfold f_X11_twelve f_X11_twelve_23
        rw [if_pos (show nI 0 = 0 from rfl), if_pos (show nI 0 = 0 from rfl), if_neg (show ¬ nI 1 = 4 by decide), if_neg hst0, t72s hst0, if_neg (show ¬ nI 1 = 0 by decide)]
        exact j
  · rw [if_neg c60]
    have hst : f_X11_isStatus (eB m l) (nI 1) = 0 := by
      unfold f_X11_isStatus
      rw [if_neg c60]
    rw [if_pos hst] at hlg hpv
    exact EX_wn h hw (by decide) rfl hpv hlg (go hst)
set_option maxHeartbeats 1000000 in
theorem EX_12_2 {z m l : Nat} {N : St} (h : wB 12 2 0 z m l) (hw : N 11 0 = wd 12 2 0 z m l) : EX (wd 12 2 0 z m l) (f_X3_withNumber 4 N) := by
  obtain ⟨_, hr, hd, hz, hm, hl8⟩ := id h
  have hlg := lg_12 h
  have hpv := pv12 h
  have ft : f_X11_fits (eB m l) (nI z) 9 = f_X9_isOpenData (eB m l) := (fitB ⟨m, hm⟩ ⟨l, hl8⟩ ⟨z, hz⟩).2.1
  unfold f_X11_isLegalTwelve f_X11_isLegalTwelve_13 at hlg
  rw [if_pos (show nI 0 = 0 from rfl), if_pos (show nI 0 = 0 from rfl), if_neg (show ¬ nI 2 = 4 by decide), if_neg (show ¬ (7 : Int32) ≤ nI 2 by decide), ft] at hlg
  rw [if_pos (show 0 = 0 from rfl)] at hpv
  unfold f_X3_withNumber f_X3_withNumber_21 f_X3_withNumber_26
  simp only [q_op h hw, q_z h hw, if_true]
  have go : f_X11_isStatus (eB m l) (nI 2) = 0 → z < 3 → okW m l → ∀ (D : Nat → Int32) (N B : St), D 0 = wd 12 2 0 z m l → D 1 = nI z → D 2 = eB 7 4 → D 3 = eB m l → R id D (xup (xup N 12 6 0) 12 7 0) B → R id D (f_X4_perform 4 N) (f_X11_perform (wd 12 2 0 z m l) B) := by
    intro hst hz3 ow D N B d0 d1 d2 d3 hR
    obtain ⟨s1, s2⟩ := srcN hR (sz3 hz3) d2 d1
    rw [pf_4, pg_12 h]
    unfold f_X4_perform_237 f_X11_twelve f_X11_twelve_23 f_X11_twelve_72 f_X11_twelve_221 f_X11_twelve_239 f_X11_twelve_279
    simp only [xb_l, if_true]
    rw [if_pos (show nI 0 = 0 from rfl), if_pos (show nI 0 = 0 from rfl), if_neg (show ¬ nI 2 = 4 by decide), if_pos hst, if_pos hst]
    rw [if_neg (show ¬ nI 2 = 6 by decide), if_pos (show nI 2 = 2 from rfl), if_pos (show nI 2 = 2 from rfl)]
    exact chgS2 s1 (sz3 hz3) d1 d3 ow (fun b M => cb_4 b _ _ M) (Or.inl ⟨rfl, rfl, rfl⟩) (Or.inr ⟨rfl, rfl⟩) (fun e => by rw [(s2 e).2.1]; exact eqM.rfl')
  have hst : f_X11_isStatus (eB m l) (nI 2) = 0 := by
    unfold f_X11_isStatus
    rw [if_neg (show ¬ nI 2 = 0 by decide), if_neg (show ¬ nI 2 = 1 by decide), if_neg (show ¬ nI 2 = 5 by decide), ite_self]
  rw [if_pos hst] at hlg hpv
  rw [if_neg (show ¬ (4 : Nat) = 9 by decide), if_neg (show ¬ (4 : Nat) = 8 by decide), if_neg (show ¬ (4 : Nat) = 10 by decide)]
  exact EX_wn h hw (by decide) rfl hpv hlg (go hst)
set_option maxHeartbeats 1000000 in
theorem EX_12_3 {z m l : Nat} {N : St} (h : wB 12 3 0 z m l) (hw : N 11 0 = wd 12 3 0 z m l) : EX (wd 12 3 0 z m l) (f_X3_withNumber 1 N) := by
  obtain ⟨_, hr, hd, hz, hm, hl8⟩ := id h
  have hlg := lg_12 h
  have hpv := pv12 h
  have ft : f_X11_fits (eB m l) (nI z) 9 = f_X9_isOpenData (eB m l) := (fitB ⟨m, hm⟩ ⟨l, hl8⟩ ⟨z, hz⟩).2.1
  unfold f_X11_isLegalTwelve f_X11_isLegalTwelve_13 at hlg
  rw [if_pos (show nI 0 = 0 from rfl), if_pos (show nI 0 = 0 from rfl), if_neg (show ¬ nI 3 = 4 by decide), if_neg (show ¬ (7 : Int32) ≤ nI 3 by decide), ft] at hlg
  rw [if_pos (show 0 = 0 from rfl)] at hpv
  unfold f_X3_withNumber f_X3_withNumber_21 f_X3_withNumber_26
  simp only [q_op h hw, q_z h hw, if_true]
  have go : f_X11_isStatus (eB m l) (nI 3) = 0 → z < 3 → okW m l → ∀ (D : Nat → Int32) (N B : St), D 0 = wd 12 3 0 z m l → D 1 = nI z → D 2 = eB 7 4 → D 3 = eB m l → R id D (xup (xup N 12 6 0) 12 7 0) B → R id D (f_X4_perform 1 N) (f_X11_perform (wd 12 3 0 z m l) B) := by
    intro hst hz3 ow D N B d0 d1 d2 d3 hR
    obtain ⟨s1, s2⟩ := srcN hR (sz3 hz3) d2 d1
    rw [pf_1, pg_12 h]
    unfold f_X4_perform_237 f_X11_twelve f_X11_twelve_23 f_X11_twelve_72 f_X11_twelve_221 f_X11_twelve_239 f_X11_twelve_279
    simp only [xb_l, if_true]
    rw [if_pos (show nI 0 = 0 from rfl), if_pos (show nI 0 = 0 from rfl), if_neg (show ¬ nI 3 = 4 by decide), if_pos hst, if_pos hst]
    rw [if_neg (show ¬ nI 3 = 6 by decide), if_neg (show ¬ nI 3 = 2 by decide), if_pos (show nI 3 = 3 from rfl), if_neg (show ¬ nI 3 = 2 by decide)]
    exact chgS2 s1 (sz3 hz3) d1 d3 ow (fun b M => cb_1 b _ _ M) (Or.inl ⟨rfl, rfl, rfl⟩) (Or.inl ⟨rfl, rfl⟩) (fun e => by rw [(s2 e).2.1]; exact eqM.rfl')
  have hst : f_X11_isStatus (eB m l) (nI 3) = 0 := by
    unfold f_X11_isStatus
    rw [if_neg (show ¬ nI 3 = 0 by decide), if_neg (show ¬ nI 3 = 1 by decide), if_neg (show ¬ nI 3 = 5 by decide), ite_self]
  rw [if_pos hst] at hlg hpv
  rw [if_neg (show ¬ (1 : Nat) = 9 by decide), if_neg (show ¬ (1 : Nat) = 8 by decide), if_neg (show ¬ (1 : Nat) = 10 by decide)]
  exact EX_wn h hw (by decide) rfl hpv hlg (go hst)
set_option maxHeartbeats 1000000 in
theorem EX_12_5 {z m l : Nat} {N : St} (h : wB 12 5 0 z m l) (hw : N 11 0 = wd 12 5 0 z m l) : EX (wd 12 5 0 z m l) (f_X3_withNumber 10 N) := by
  obtain ⟨_, hr, hd, hz, hm, hl8⟩ := id h
  have hlg := lg_12 h
  have hpv := pv12 h
  have ft : f_X11_fits (eB m l) (nI z) 9 = f_X9_isOpenData (eB m l) := (fitB ⟨m, hm⟩ ⟨l, hl8⟩ ⟨z, hz⟩).2.1
  unfold f_X11_isLegalTwelve f_X11_isLegalTwelve_13 at hlg
  rw [if_pos (show nI 0 = 0 from rfl), if_pos (show nI 0 = 0 from rfl), if_neg (show ¬ nI 5 = 4 by decide), if_neg (show ¬ (7 : Int32) ≤ nI 5 by decide), ft] at hlg
  rw [if_pos (show 0 = 0 from rfl)] at hpv
  unfold f_X3_withNumber f_X3_withNumber_21 f_X3_withNumber_26
  simp only [q_op h hw, q_z h hw, if_true]
  have go : f_X11_isStatus (eB m l) (nI 5) = 0 → z < 3 → okW m l → ∀ (D : Nat → Int32) (N B : St), D 0 = wd 12 5 0 z m l → D 1 = nI z → D 2 = eB 7 4 → D 3 = eB m l → R id D (xup (xup N 12 6 0) 12 7 0) B → R id D (f_X4_perform 10 N) (f_X11_perform (wd 12 5 0 z m l) B) := by
    intro hst hz3 ow D N B d0 d1 d2 d3 hR
    obtain ⟨s1, s2⟩ := srcN hR (sz3 hz3) d2 d1
    rw [pf_10, pg_12 h]
    unfold f_X4_perform_237 f_X11_twelve f_X11_twelve_23 f_X11_twelve_72 f_X11_twelve_221 f_X11_twelve_239 f_X11_twelve_279
    simp only [xb_l, if_true]
    rw [if_pos (show nI 0 = 0 from rfl), if_pos (show nI 0 = 0 from rfl), if_neg (show ¬ nI 5 = 4 by decide), if_pos hst, if_pos hst]
    rw [if_neg (show ¬ nI 5 = 6 by decide), if_neg (show ¬ nI 5 = 2 by decide), if_neg (show ¬ nI 5 = 3 by decide), if_neg (show ¬ nI 5 = 0 by decide), if_neg (show ¬ nI 5 = 1 by decide)]
    exact chgL2 (gg := fun b a => b ^^^ a) s1 (sz3 hz3) d1 d3 ow (fun b M => cb_10 b _ _ M) (fun A2 r2 e2 e1 hk _ => by rw [(s2 e1).2.1]; exact eqM.rfl')
  rw [if_neg (show ¬ (10 : Nat) = 9 by decide), if_neg (show ¬ (10 : Nat) = 8 by decide), if_neg (show ¬ (1 : Int32) = 0 by decide)]
  by_cases c60 : eB m l = 60
  · rw [if_pos c60]
    have hst : f_X11_isStatus (eB m l) (nI 5) = 1 := by
      unfold f_X11_isStatus
      rw [if_pos c60]
      rfl
    have hst0 : ¬ f_X11_isStatus (eB m l) (nI 5) = 0 := by rw [hst]; decide
    rw [if_neg hst0] at hlg hpv
    by_cases c2 : (2 : Int32) ≤ nI z
    · rw [if_pos c2] at hlg ⊢
      have od : f_X9_isOpenData (eB m l) = 0 := by rw [c60]; decide
      have z1 : ¬ nI z = 1 := fun e => by rw [e] at c2; exact absurd c2 (by decide)
      rw [if_neg z1] at hpv
      refine EX_wn h hw (by decide) rfl hpv ?_ (fun _ ow => ?_)
      · rw [hlg, if_pos od, ite_self]
      · exfalso
        have := (e60 hm hl8).mp c60
        unfold okW at ow
        omega
    · rw [if_neg c2] at hlg ⊢
      have hz2 : z < 2 := by
        have : ¬ 2 ≤ z := fun x => c2 ((nI_leI (a := 2) (b := z) (by decide) (by omega)).mpr x)
        omega
      have pre : ∀ (D : Nat → Int32) (N B : St), D 0 = wd 12 5 0 z m l → R id D (xup (xup N 12 6 0) 12 7 0) B → ∀ A' : St, A' 11 = D → f_X3_upperRegister A' = nI 5 := fun D N B d0 hR A' hA => q_r h (by rw [hA, d0])
      rcases (show z = 0 ∨ z = 1 by omega) with rfl | rfl
      · rw [if_pos (show nI 0 = 0 from rfl)]
        rw [if_neg (show ¬ nI 0 = 1 by decide)] at hpv
        refine EX_lit hw (by rw [hlg]; decide) (by decide) (iff_of_true rfl hpv) (fun D N B d0 hR => ?_)
        have j := (stJ hR (by decide) (pre D N B d0 hR)).1
        rw [pf_25, pg_12 h]
        unfold f_X11_twelve f_X11_twelve_23
        rw [if_pos (show nI 0 = 0 from rfl), if_pos (show nI 0 = 0 from rfl), if_neg (show ¬ nI 5 = 4 by decide), if_neg hst0, t72s hst0, if_pos (show nI 0 = 0 from rfl)]
        exact j
      · rw [if_neg (show ¬ nI 1 = 0 by decide)]
        rw [if_pos (show nI 1 = 1 from rfl)] at hpv
        refine EX_lit hw (by rw [hlg]; decide) (by decide) (iff_of_false (by decide) (by rw [hpv]; decide)) (fun D N B d0 hR => ?_)
        have j := (stJ hR (by decide) (pre D N B d0 hR)).2
        rw [pf_26, pg_12 h]
        unfold f_X11_twelve f_X11_twelve_23
        rw [if_pos (show nI 0 = 0 from rfl), if_pos (show nI 0 = 0 from rfl), if_neg (show ¬ nI 5 = 4 by decide), if_neg hst0, t72s hst0, if_neg (show ¬ nI 1 = 0 by decide)]
        exact j
  · rw [if_neg c60]
    have hst : f_X11_isStatus (eB m l) (nI 5) = 0 := by
      unfold f_X11_isStatus
      rw [if_neg c60]
    rw [if_pos hst] at hlg hpv
    exact EX_wn h hw (by decide) rfl hpv hlg (go hst)
set_option maxHeartbeats 1000000 in
theorem EX_12_6 {z m l : Nat} {N : St} (h : wB 12 6 0 z m l) (hw : N 11 0 = wd 12 6 0 z m l) : EX (wd 12 6 0 z m l) (f_X3_withNumber 7 N) := by
  obtain ⟨_, hr, hd, hz, hm, hl8⟩ := id h
  have hlg := lg_12 h
  have hpv := pv12 h
  have ft : f_X11_fits (eB m l) (nI z) 9 = f_X9_isOpenData (eB m l) := (fitB ⟨m, hm⟩ ⟨l, hl8⟩ ⟨z, hz⟩).2.1
  unfold f_X11_isLegalTwelve f_X11_isLegalTwelve_13 at hlg
  rw [if_pos (show nI 0 = 0 from rfl), if_pos (show nI 0 = 0 from rfl), if_neg (show ¬ nI 6 = 4 by decide), if_neg (show ¬ (7 : Int32) ≤ nI 6 by decide), ft] at hlg
  rw [if_pos (show 0 = 0 from rfl)] at hpv
  unfold f_X3_withNumber f_X3_withNumber_21 f_X3_withNumber_26
  simp only [q_op h hw, q_z h hw, if_true]
  have go : f_X11_isStatus (eB m l) (nI 6) = 0 → z < 3 → okW m l → ∀ (D : Nat → Int32) (N B : St), D 0 = wd 12 6 0 z m l → D 1 = nI z → D 2 = eB 7 4 → D 3 = eB m l → R id D (xup (xup N 12 6 0) 12 7 0) B → R id D (f_X4_perform 7 N) (f_X11_perform (wd 12 6 0 z m l) B) := by
    intro hst hz3 ow D N B d0 d1 d2 d3 hR
    obtain ⟨s1, s2⟩ := srcN hR (sz3 hz3) d2 d1
    rw [pf_7, pg_12 h]
    unfold f_X11_twelve f_X11_twelve_23 f_X11_twelve_72 f_X11_twelve_221 f_X11_twelve_239 f_X11_twelve_279
    simp only [xb_l, if_true]
    rw [if_pos (show nI 0 = 0 from rfl), if_pos (show nI 0 = 0 from rfl), if_neg (show ¬ nI 6 = 4 by decide), if_pos hst, if_pos hst]
    rw [if_pos (show nI 6 = 6 from rfl)]
    exact cmp2 s1 (sz3 hz3) d1 d3 ow.e (fun e => by rw [(s2 e).2.1]; exact eqM.rfl')
  have hst : f_X11_isStatus (eB m l) (nI 6) = 0 := by
    unfold f_X11_isStatus
    rw [if_neg (show ¬ nI 6 = 0 by decide), if_neg (show ¬ nI 6 = 1 by decide), if_neg (show ¬ nI 6 = 5 by decide), ite_self]
  rw [if_pos hst] at hlg hpv
  rw [if_neg (show ¬ (7 : Nat) = 9 by decide), if_neg (show ¬ (7 : Nat) = 8 by decide), if_neg (show ¬ (7 : Nat) = 10 by decide)]
  exact EX_wn h hw (by decide) rfl hpv hlg (go hst)
set_option maxHeartbeats 1000000 in
theorem EX_12_4 {z m l : Nat} {N : St} (h : wB 12 4 0 z m l) (hw : N 11 0 = wd 12 4 0 z m l) : EX (wd 12 4 0 z m l) (if f_X9_isData (eB m l) = 0 then f_X3_bits 23 0 N else (if eB m l = 60 then f_X3_bits 23 0 N else f_X3_bits 23 1 N)) := by
  obtain ⟨_, hr, hd, hz, hm, hl8⟩ := id h
  have hlg := lg_12 h
  have hpv := pv12 h
  have f1 : f_X11_fits (eB m l) 0 1 = f_X9_isData (eB m l) := (fitB ⟨m, hm⟩ ⟨l, hl8⟩ ⟨0, by decide⟩).1
  have f9 : f_X11_fits (eB m l) 0 9 = f_X9_isOpenData (eB m l) := (fitB ⟨m, hm⟩ ⟨l, hl8⟩ ⟨0, by decide⟩).2.1
  unfold f_X11_isLegalTwelve f_X11_isLegalTwelve_13 f_X11_isLegalTwelve_22 f_X11_isLegalTwelve_34 at hlg
  rw [if_pos (show nI 0 = 0 from rfl), if_pos (show nI 0 = 0 from rfl), if_pos (show nI 4 = 4 from rfl), f1, f9, if_pos (show nI 0 = 0 from rfl)] at hlg
  have hst : f_X11_isStatus (eB m l) (nI 4) = 0 := by
    unfold f_X11_isStatus
    rw [if_neg (show ¬ nI 4 = 0 by decide), if_neg (show ¬ nI 4 = 1 by decide), if_neg (show ¬ nI 4 = 5 by decide), ite_self]
  rw [if_pos (show 0 = 0 from rfl), if_pos hst] at hpv
  have od60 : f_X9_isOpenData 60 = 0 := by decide
  have da60 : ¬ f_X9_isData 60 = 0 := by decide
  have un : (if f_X9_isData (eB m l) = 0 then f_X3_bits 23 0 N else (if eB m l = 60 then f_X3_bits 23 0 N else f_X3_bits 23 1 N)) = f_X3_bits 23 (if f_X9_isData (eB m l) = 0 then 0 else if eB m l = 60 then 0 else 1) N := by
    split
    · rfl
    · split <;> rfl
  rw [un, bits_eq h hw]
  refine EX_pair hw ?_ (by decide) (fun _ => iff_of_true rfl hpv) (fun c D N B d0 d1 d2 d3 hR => ?_)
  · rw [hlg]
    by_cases z0 : z = 0
    · subst z0
      rw [if_pos (show nI 0 = 0 from rfl), if_pos (show 0 = 0 from rfl)]
    · rw [if_neg (nzi z0 (by omega)), if_neg z0]
      by_cases c : f_X9_isOpenData (eB m l) = 0
      · rw [if_pos c, c]
      · rw [if_neg c, if_neg (fun e => c (by rw [e]; exact od60))]
        exact iff_of_false (by decide) c
  · have ok : okE m l ∧ (z ≠ 0 → okW m l) := by
      by_cases z0 : z = 0
      · rw [if_pos z0] at c
        by_cases c1 : f_X9_isData (eB m l) = 0
        · rw [if_pos c1] at c; exact absurd rfl c
        · exact ⟨(datE hm hl8 c1).1, fun x => absurd z0 x⟩
      · rw [if_neg z0] at c
        exact ⟨(odE hm hl8 c).e, fun _ => odE hm hl8 c⟩
    obtain ⟨f1, f2⟩ := fetch1 hR
    rw [pf_23, pg_12 h]
    unfold f_X11_twelve f_X11_twelve_23 f_X11_twelve_33 f_X11_twelve_54
    rw [if_pos (show nI 0 = 0 from rfl), if_pos (show nI 0 = 0 from rfl), if_pos (show nI 4 = 4 from rfl), if_pos (show nI 0 = 0 from rfl)]
    exact bitsR f1 hm hl8 hz (fun A' hA => q_z h (by rw [hA, d0])) d1 d3 ok.1 ok.2 (fun e => (f2 e).1)
set_option maxHeartbeats 1000000 in
theorem EX_12_d {r z m l : Nat} {N : St} (h : wB 12 r 1 z m l) (hw : N 11 0 = wd 12 r 1 z m l) : EX (wd 12 r 1 z m l) (f_X3_byRegister N) := by
  obtain ⟨_, hr, hd, hz, hm, hl8⟩ := id h
  have hlg := lg_12 h
  have hpv := pv12 h
  rw [if_neg (show ¬ 1 = 0 by decide)] at hpv
  have f1 : f_X11_fits (eB m l) 0 1 = f_X9_isData (eB m l) := (fitB ⟨m, hm⟩ ⟨l, hl8⟩ ⟨0, by decide⟩).1
  have f9 : f_X11_fits (eB m l) 0 9 = f_X9_isOpenData (eB m l) := (fitB ⟨m, hm⟩ ⟨l, hl8⟩ ⟨0, by decide⟩).2.1
  unfold f_X11_isLegalTwelve f_X11_isLegalTwelve_13 f_X11_isLegalTwelve_22 f_X11_isLegalTwelve_34 at hlg
  rw [if_neg (show ¬ nI 1 = 0 by decide), eBm hm hl8, if_neg (show ¬ nI 1 = 0 by decide), f1, f9, if_neg (show ¬ nI 1 = 0 by decide)] at hlg
  unfold f_X3_byRegister
  simp only [xb_eta, q_m h hw, q_op h hw, bits_eq h hw]
  by_cases m1 : m = 1
  · subst m1
    rw [if_pos (show nI 1 = 1 from rfl)] at hlg ⊢
    refine EX_lit hw (by rw [hlg]; decide) (by decide) (iff_of_true rfl hpv) (fun D N B d0 hR => ?_)
    have mv := mvB (r := r) (z := z) (l := l) hR hr hz hl8 (fun A' hA => ⟨q_r h (by rw [hA, d0]), q_l h (by rw [hA, d0]), q_z h (by rw [hA, d0])⟩)
    rw [pf_24, pg_12 h]
    unfold f_X11_twelve
    rw [if_neg (show ¬ nI 1 = 0 by decide), eBm (by decide) hl8, if_pos (show nI 1 = 1 from rfl), eBr (by decide) hl8]
    exact mv
  · have n1 : ¬ nI m = 1 := nq_1 m1 (by omega)
    rw [if_neg n1] at hlg ⊢
    refine EX_pair hw ?_ (by decide) (fun _ => iff_of_true rfl hpv) (fun c D N B d0 d1 d2 d3 hR => ?_)
    · rw [hlg]
      by_cases z0 : z = 0
      · subst z0
        rw [if_pos (show nI 0 = 0 from rfl), if_pos (show 0 = 0 from rfl)]
        by_cases c : f_X9_isData (eB m l) = 0
        · rw [if_pos c, c]
        · rw [if_neg c]; exact iff_of_false (by decide) c
      · rw [if_neg (nzi z0 (by omega)), if_neg z0]
        by_cases c : f_X9_isOpenData (eB m l) = 0
        · rw [if_pos c, c]
        · rw [if_neg c]; exact iff_of_false (by decide) c
    · have ok : okE m l ∧ (z ≠ 0 → okW m l) := by
        by_cases z0 : z = 0
        · rw [if_pos z0] at c
          exact ⟨(datE hm hl8 c).1, fun x => absurd z0 x⟩
        · rw [if_neg z0] at c
          exact ⟨(odE hm hl8 c).e, fun _ => odE hm hl8 c⟩
      have hX : (xup (xup N 12 6 0) 12 7 0) 11 0 = wd 12 r 1 z m l := by rw [hR.d, d0]
      rw [pf_22, pg_12 h]
      unfold f_X11_twelve f_X11_twelve_23 f_X11_twelve_33 f_X11_twelve_54
      rw [if_neg (show ¬ nI 1 = 0 by decide), eBm hm hl8, if_neg n1, if_neg (show ¬ nI 1 = 0 by decide), if_neg (show ¬ nI 1 = 0 by decide), q_r h hX, nIl hr]
      exact bitsR hR hm hl8 hz (fun A' hA => q_z h (by rw [hA, d0])) d1 d3 ok.1 ok.2 (fun e => by
        have := (hR.g e).reg r (by omega)
        rwa [xup_other (by decide), xup_other (by decide)] at this)
theorem EX_12 {r d z m l : Nat} {M : St} (h : wB 12 r d z m l) : EX (wd 12 r d z m l) (f_X3_decode (wd 12 r d z m l) M) := by
  have hw : (xup M 11 0 (wd 12 r d z m l)) 11 0 = wd 12 r d z m l := w11
  obtain ⟨_, hr, hd, hz, hm, hl8⟩ := id h
  rw [dc_12 h, q_d h hw]
  rcases (show d = 0 ∨ d = 1 by omega) with rfl | rfl
  · rw [if_neg (show ¬ nI 0 = 1 by decide)]
    unfold f_X3_byNumber f_X3_byNumber_107 f_X3_byNumber_108
    simp only [xb_eta, q_r h hw, q_op h hw]
    rcases (show r = 0 ∨ r = 1 ∨ r = 2 ∨ r = 3 ∨ r = 4 ∨ r = 5 ∨ r = 6 ∨ r = 7 by omega) with rfl | rfl | rfl | rfl | rfl | rfl | rfl | rfl
    · rw [if_pos (show nI 0 = 0 from rfl)]
      exact EX_12_0 h hw
    · rw [if_neg (show ¬ nI 1 = 0 by decide), if_pos (show nI 1 = 1 from rfl)]
      exact EX_12_1 h hw
    · rw [if_neg (show ¬ nI 2 = 0 by decide), if_neg (show ¬ nI 2 = 1 by decide), if_pos (show nI 2 = 2 from rfl)]
      exact EX_12_2 h hw
    · rw [if_neg (show ¬ nI 3 = 0 by decide), if_neg (show ¬ nI 3 = 1 by decide), if_neg (show ¬ nI 3 = 2 by decide), if_pos (show nI 3 = 3 from rfl)]
      exact EX_12_3 h hw
    · rw [if_neg (show ¬ nI 4 = 0 by decide), if_neg (show ¬ nI 4 = 1 by decide), if_neg (show ¬ nI 4 = 2 by decide), if_neg (show ¬ nI 4 = 3 by decide), if_pos (show nI 4 = 4 from rfl)]
      exact EX_12_4 h hw
    · rw [if_neg (show ¬ nI 5 = 0 by decide), if_neg (show ¬ nI 5 = 1 by decide), if_neg (show ¬ nI 5 = 2 by decide), if_neg (show ¬ nI 5 = 3 by decide), if_neg (show ¬ nI 5 = 4 by decide), if_pos (show nI 5 = 5 from rfl)]
      exact EX_12_5 h hw
    · rw [if_neg (show ¬ nI 6 = 0 by decide), if_neg (show ¬ nI 6 = 1 by decide), if_neg (show ¬ nI 6 = 2 by decide), if_neg (show ¬ nI 6 = 3 by decide), if_neg (show ¬ nI 6 = 4 by decide), if_neg (show ¬ nI 6 = 5 by decide), if_pos (show nI 6 = 6 from rfl)]
      exact EX_12_6 h hw
    · rw [if_neg (show ¬ nI 7 = 0 by decide), if_neg (show ¬ nI 7 = 1 by decide), if_neg (show ¬ nI 7 = 2 by decide), if_neg (show ¬ nI 7 = 3 by decide), if_neg (show ¬ nI 7 = 4 by decide), if_neg (show ¬ nI 7 = 5 by decide), if_neg (show ¬ nI 7 = 6 by decide)]
      refine EX_not ?_
      rw [lg_12 h]
      have hst : f_X11_isStatus (eB m l) (nI 7) = 0 := by
        unfold f_X11_isStatus
        rw [if_neg (show ¬ nI 7 = 0 by decide), if_neg (show ¬ nI 7 = 1 by decide), if_neg (show ¬ nI 7 = 5 by decide), ite_self]
      unfold f_X11_isLegalTwelve f_X11_isLegalTwelve_13
      rw [if_pos (show nI 0 = 0 from rfl), if_pos (show nI 0 = 0 from rfl), if_neg (show ¬ nI 7 = 4 by decide), if_pos hst, if_pos (show (7 : Int32) ≤ nI 7 by decide)]
  · rw [if_pos (show nI 1 = 1 from rfl)]
    exact EX_12_d h hw
