set_option maxHeartbeats 1000000 in
theorem EX_4 {r d z m l : Nat} {M : St} (h : wB 4 r d z m l) : EX (wd 4 r d z m l) (f_X3_decode (wd 4 r d z m l) M) := by
  have hw : (xup M 11 0 (wd 4 r d z m l)) 11 0 = wd 4 r d z m l := w11
  obtain ⟨_, hr, hd, hz, hm, hl8⟩ := id h
  have hpv : f_X11_isPrivileged (wd 4 r d z m l) = 0 := pvm h (by decide) (by decide)
  rw [dc_4 h]
  unfold f_X3_summing f_X3_withAddress f_X3_withAddress_12
  simp only [xb_eta, q_op h hw, q_r h hw, q_z h hw, q_d h hw, q_m h hw, q_l h hw, n8r]
  by_cases z3 : z = 3
  · subst z3
    rw [if_pos (show nI 3 = 3 from rfl)]
    rcases (show d = 0 ∨ d = 1 by omega) with rfl | rfl
    · rw [if_pos (show nI 0 = 0 from rfl)]
      have ft : f_X11_fits (eB m l) 1 0 = f_X9_isAny (eB m l) 1 := (fitA ⟨m, hm⟩ ⟨l, hl8⟩ ⟨1, by decide⟩).1
      refine EX_pair hw ?_ (by decide) (fun _ => iff_of_true rfl hpv) (fun c D N B d0 d1 d2 d3 hR => ?_)
      · rw [lg_4 h]
        unfold f_X11_isLegal_167 f_X11_isLegal_183
        rw [if_pos (show nI 3 = 3 from rfl), if_pos (show nI 0 = 0 from rfl), ft]
      · rw [pf_12, pg_4 h]
        unfold f_X4_perform_260 f_X4_changeAddress f_X4_changeAddress_71 f_X11_addOrTake f_X11_addOrTake_17 f_X11_addOrTake_30 f_X11_addOrTake_75
        rw [if_pos (show nI 3 = 3 from rfl), if_pos (show nI 0 = 0 from rfl)]
        simp only [xb_l, if_true]
        rw [if_pos (show nI 0 = 0 from rfl)]
        exact adr (fun x y => x + y) hR (by decide) (anyE hm hl8 (show 1 < 3 by decide) c).1 d2 d1 d3 hr
    · rw [if_neg (show ¬ nI 1 = 0 by decide)]
      have ft : f_X11_fits (eB m l) 2 0 = f_X9_isAny (eB m l) 2 := (fitA ⟨m, hm⟩ ⟨l, hl8⟩ ⟨2, by decide⟩).1
      refine EX_pair hw ?_ (by decide) (fun _ => iff_of_true rfl hpv) (fun c D N B d0 d1 d2 d3 hR => ?_)
      · rw [lg_4 h]
        unfold f_X11_isLegal_167 f_X11_isLegal_183
        rw [if_pos (show nI 3 = 3 from rfl), if_neg (show ¬ nI 1 = 0 by decide), ft]
      · rw [pf_12, pg_4 h]
        unfold f_X4_perform_260 f_X4_changeAddress f_X4_changeAddress_71 f_X11_addOrTake f_X11_addOrTake_17 f_X11_addOrTake_30 f_X11_addOrTake_75
        rw [if_pos (show nI 3 = 3 from rfl), if_neg (show ¬ nI 1 = 0 by decide)]
        simp only [xb_l, if_true]
        rw [if_neg (show ¬ nI 1 = 0 by decide)]
        exact adr (fun x y => x + y) hR (by decide) (anyE hm hl8 (show 2 < 3 by decide) c).1 d2 d1 d3 hr
  · have hz3 : z < 3 := by omega
    rw [if_neg (nz3 hz3)]
    rcases (show d = 0 ∨ d = 1 by omega) with rfl | rfl
    · rw [if_pos (show nI 0 = 0 from rfl)]
      have ft : f_X11_fits (eB m l) (nI z) 0 = f_X9_isAny (eB m l) (nI z) := (fitA ⟨m, hm⟩ ⟨l, hl8⟩ ⟨z, hz3⟩).1
      refine EX_pair hw ?_ (by decide) (fun _ => iff_of_true rfl hpv) (fun c D N B d0 d1 d2 d3 hR => ?_)
      · rw [lg_4 h]
        unfold f_X11_isLegal_167
        rw [if_neg (nz3 hz3), if_pos (show nI 0 = 0 from rfl), ft]
      · obtain ⟨s1, s2⟩ := src (m := m) (r := l) hR (sz3 hz3) (anyE hm hl8 hz3 c).1 d2 d1
        rw [pf_1, pg_4 h]
        unfold f_X4_perform_237 f_X11_addOrTake
        simp only [xb_l, if_true]
        rw [if_neg (nz3 hz3), if_pos (show nI 0 = 0 from rfl), nIl hr]
        exact chgS1 s1 (sz3 hz3) d1 d3 hr (fun b M => cb_1 b _ _ M) (Or.inl ⟨rfl, rfl, rfl⟩) (Or.inl ⟨rfl, rfl⟩) (fun e => by rw [(s2 e).2.2.1]; exact eqM.rfl')
    · rw [if_neg (show ¬ nI 1 = 0 by decide)]
      by_cases m0 : m = 0
      · subst m0
        rw [if_pos (show nI 0 = 0 from rfl)]
        refine EX_pair hw ?_ (by decide) (fun _ => iff_of_true rfl hpv) (fun c D N B d0 d1 d2 d3 hR => ?_)
        · rw [lg_4 h]
          unfold f_X11_isLegal_167
          rw [if_neg (nz3 hz3), if_neg (show ¬ nI 1 = 0 by decide), if_pos (show nI 0 < 2 by decide)]
        · obtain ⟨s1, s2, s3⟩ := srcR hR hl8 d2 d1
          rw [pf_2, pg_4 h]
          unfold f_X4_perform_237 f_X11_addOrTake
          simp only [xb_l, if_true]
          rw [if_neg (nz3 hz3), if_neg (show ¬ nI 1 = 0 by decide), if_neg (fun e => by have := (e8 (by decide) hl8).mp e; omega), eB0, nIl hr, nIl hl8]
          exact chgS1 s1 (sz3 hz3) d1 d3 hr (fun b M => cb_2 b _ _ M) (Or.inr (Or.inl ⟨rfl, rfl, rfl⟩)) (Or.inl ⟨rfl, rfl⟩) (fun e => by rw [s3 (s2 ▸ e)]; exact mm2)
      · rw [if_neg (nzi m0 hm)]
        by_cases m1 : m = 1
        · subst m1
          rw [if_pos (show nI 1 = 1 from rfl)]
          refine EX_pair hw ?_ (by decide) (fun _ => iff_of_true rfl hpv) (fun c D N B d0 d1 d2 d3 hR => ?_)
          · rw [lg_4 h]
            unfold f_X11_isLegal_167
            rw [if_neg (nz3 hz3), if_neg (show ¬ nI 1 = 0 by decide), if_pos (show nI 1 < 2 by decide)]
          · obtain ⟨s1, s2⟩ := src (m := 4) (r := l) hR (sz3 hz3) (okE4 hl8) (d2.trans (bef4 ⟨l, hl8⟩)) d1
            rw [pf_2, pg_4 h]
            unfold f_X4_perform_237 f_X11_addOrTake
            simp only [xb_l, if_true]
            rw [if_neg (nz3 hz3), if_neg (show ¬ nI 1 = 0 by decide), if_pos ((e8 (by decide) hl8).mpr (by decide)), if_neg (fun e => by have := (e16 (by decide) hl8).mp e; omega), eBr (by decide) hl8, bef hl8, bef hr]
            exact chgS2 s1 (sz3 hz3) d1 (d3.trans (bef4 ⟨r, hr⟩)) (okW4 hr) (fun b M => cb_2 b _ _ M) (Or.inr (Or.inl ⟨rfl, rfl, rfl⟩)) (Or.inl ⟨rfl, rfl⟩) (fun e => by rw [(s2 e).2.2.1]; exact eqM.rfl')
        · rw [if_neg (nq_1 m1 (by omega))]
          have ft : f_X11_fits (eB m l) (nI z) 10 = f_X9_isOpenMemory (eB m l) := (fitB ⟨m, hm⟩ ⟨l, hl8⟩ ⟨z, by omega⟩).2.2
          refine EX_pair hw ?_ (by decide) (fun _ => iff_of_true rfl hpv) (fun c D N B d0 d1 d2 d3 hR => ?_)
          · rw [lg_4 h]
            unfold f_X11_isLegal_167
            rw [if_neg (nz3 hz3), if_neg (show ¬ nI 1 = 0 by decide), if_neg (fun e => by have := (nI_ltI (a := m) (b := 2) (by omega) (by decide)).mp e; omega), ft]
            by_cases c : f_X9_isOpenMemory (eB m l) = 0
            · rw [if_pos c, c]
            · rw [if_neg c]; exact iff_of_false (by decide) c
          · obtain ⟨s1, s2, s3⟩ := srcR hR hr d2 d1
            obtain ⟨ok, m2⟩ := omE hm hl8 c
            rw [pf_1, pg_4 h]
            unfold f_X4_perform_237 f_X11_addOrTake
            simp only [xb_l, if_true]
            rw [if_neg (nz3 hz3), if_neg (show ¬ nI 1 = 0 by decide), if_pos ((e8 hm hl8).mpr (by omega)), if_pos ((e16 hm hl8).mpr m2), nIl hr]
            exact chgS2 s1 (sz3 hz3) d1 d3 ok (fun b M => cb_1 b _ _ M) (Or.inl ⟨rfl, rfl, rfl⟩) (Or.inl ⟨rfl, rfl⟩) (fun e => by rw [s3 (s2 ▸ e)]; exact mm2)
set_option maxHeartbeats 1000000 in
theorem EX_5 {r d z m l : Nat} {M : St} (h : wB 5 r d z m l) : EX (wd 5 r d z m l) (f_X3_decode (wd 5 r d z m l) M) := by
  have hw : (xup M 11 0 (wd 5 r d z m l)) 11 0 = wd 5 r d z m l := w11
  obtain ⟨_, hr, hd, hz, hm, hl8⟩ := id h
  have hpv : f_X11_isPrivileged (wd 5 r d z m l) = 0 := pvm h (by decide) (by decide)
  rw [dc_5 h]
  unfold f_X3_summing f_X3_withAddress f_X3_withAddress_12
  simp only [xb_eta, q_op h hw, q_r h hw, q_z h hw, q_d h hw, q_m h hw, q_l h hw, n8r]
  by_cases z3 : z = 3
  · subst z3
    rw [if_pos (show nI 3 = 3 from rfl)]
    rcases (show d = 0 ∨ d = 1 by omega) with rfl | rfl
    · rw [if_pos (show nI 0 = 0 from rfl)]
      have ft : f_X11_fits (eB m l) 1 0 = f_X9_isAny (eB m l) 1 := (fitA ⟨m, hm⟩ ⟨l, hl8⟩ ⟨1, by decide⟩).1
      refine EX_pair hw ?_ (by decide) (fun _ => iff_of_true rfl hpv) (fun c D N B d0 d1 d2 d3 hR => ?_)
      · rw [lg_5 h]
        unfold f_X11_isLegal_167 f_X11_isLegal_183
        rw [if_pos (show nI 3 = 3 from rfl), if_pos (show nI 0 = 0 from rfl), ft]
      · rw [pf_13, pg_5 h]
        unfold f_X4_perform_260 f_X4_changeAddress f_X4_changeAddress_71 f_X11_addOrTake f_X11_addOrTake_17 f_X11_addOrTake_30 f_X11_addOrTake_75
        rw [if_pos (show nI 3 = 3 from rfl), if_pos (show nI 0 = 0 from rfl)]
        simp only [xb_l, if_true]
        rw [if_neg (show ¬ (13 : Nat) = 12 by decide), if_pos (show nI 0 = 0 from rfl), if_neg (show ¬ (1 : Int32) = 0 by decide)]
        exact adr (fun x y => x - y) hR (by decide) (anyE hm hl8 (show 1 < 3 by decide) c).1 d2 d1 d3 hr
    · rw [if_neg (show ¬ nI 1 = 0 by decide)]
      have ft : f_X11_fits (eB m l) 2 0 = f_X9_isAny (eB m l) 2 := (fitA ⟨m, hm⟩ ⟨l, hl8⟩ ⟨2, by decide⟩).1
      refine EX_pair hw ?_ (by decide) (fun _ => iff_of_true rfl hpv) (fun c D N B d0 d1 d2 d3 hR => ?_)
      · rw [lg_5 h]
        unfold f_X11_isLegal_167 f_X11_isLegal_183
        rw [if_pos (show nI 3 = 3 from rfl), if_neg (show ¬ nI 1 = 0 by decide), ft]
      · rw [pf_13, pg_5 h]
        unfold f_X4_perform_260 f_X4_changeAddress f_X4_changeAddress_71 f_X11_addOrTake f_X11_addOrTake_17 f_X11_addOrTake_30 f_X11_addOrTake_75
        rw [if_pos (show nI 3 = 3 from rfl), if_neg (show ¬ nI 1 = 0 by decide)]
        simp only [xb_l, if_true]
        rw [if_neg (show ¬ (13 : Nat) = 12 by decide), if_neg (show ¬ nI 1 = 0 by decide), if_neg (show ¬ (1 : Int32) = 0 by decide)]
        exact adr (fun x y => x - y) hR (by decide) (anyE hm hl8 (show 2 < 3 by decide) c).1 d2 d1 d3 hr
  · have hz3 : z < 3 := by omega
    rw [if_neg (nz3 hz3)]
    rcases (show d = 0 ∨ d = 1 by omega) with rfl | rfl
    · rw [if_pos (show nI 0 = 0 from rfl)]
      have ft : f_X11_fits (eB m l) (nI z) 0 = f_X9_isAny (eB m l) (nI z) := (fitA ⟨m, hm⟩ ⟨l, hl8⟩ ⟨z, hz3⟩).1
      refine EX_pair hw ?_ (by decide) (fun _ => iff_of_true rfl hpv) (fun c D N B d0 d1 d2 d3 hR => ?_)
      · rw [lg_5 h]
        unfold f_X11_isLegal_167
        rw [if_neg (nz3 hz3), if_pos (show nI 0 = 0 from rfl), ft]
      · obtain ⟨s1, s2⟩ := src (m := m) (r := l) hR (sz3 hz3) (anyE hm hl8 hz3 c).1 d2 d1
        rw [pf_4, pg_5 h]
        unfold f_X4_perform_237 f_X11_addOrTake
        simp only [xb_l, if_true]
        rw [if_neg (nz3 hz3), if_pos (show nI 0 = 0 from rfl), nIl hr]
        exact chgS1 s1 (sz3 hz3) d1 d3 hr (fun b M => cb_4 b _ _ M) (Or.inl ⟨rfl, rfl, rfl⟩) (Or.inr ⟨rfl, rfl⟩) (fun e => by rw [(s2 e).2.2.1]; exact eqM.rfl')
    · rw [if_neg (show ¬ nI 1 = 0 by decide)]
      by_cases m0 : m = 0
      · subst m0
        rw [if_pos (show nI 0 = 0 from rfl)]
        refine EX_pair hw ?_ (by decide) (fun _ => iff_of_true rfl hpv) (fun c D N B d0 d1 d2 d3 hR => ?_)
        · rw [lg_5 h]
          unfold f_X11_isLegal_167
          rw [if_neg (nz3 hz3), if_neg (show ¬ nI 1 = 0 by decide), if_pos (show nI 0 < 2 by decide)]
        · obtain ⟨s1, s2, s3⟩ := srcR hR hl8 d2 d1
          rw [pf_5, pg_5 h]
          unfold f_X4_perform_237 f_X11_addOrTake
          simp only [xb_l, if_true]
          rw [if_neg (nz3 hz3), if_neg (show ¬ nI 1 = 0 by decide), if_neg (fun e => by have := (e8 (by decide) hl8).mp e; omega), eB0, nIl hr, nIl hl8]
          exact chgS1 s1 (sz3 hz3) d1 d3 hr (fun b M => cb_5 b _ _ M) (Or.inr (Or.inl ⟨rfl, rfl, rfl⟩)) (Or.inr ⟨rfl, rfl⟩) (fun e => by rw [s3 (s2 ▸ e)]; exact mm2)
      · rw [if_neg (nzi m0 hm)]
        by_cases m1 : m = 1
        · subst m1
          rw [if_pos (show nI 1 = 1 from rfl)]
          refine EX_pair hw ?_ (by decide) (fun _ => iff_of_true rfl hpv) (fun c D N B d0 d1 d2 d3 hR => ?_)
          · rw [lg_5 h]
            unfold f_X11_isLegal_167
            rw [if_neg (nz3 hz3), if_neg (show ¬ nI 1 = 0 by decide), if_pos (show nI 1 < 2 by decide)]
          · obtain ⟨s1, s2⟩ := src (m := 4) (r := l) hR (sz3 hz3) (okE4 hl8) (d2.trans (bef4 ⟨l, hl8⟩)) d1
            rw [pf_5, pg_5 h]
            unfold f_X4_perform_237 f_X11_addOrTake
            simp only [xb_l, if_true]
            rw [if_neg (nz3 hz3), if_neg (show ¬ nI 1 = 0 by decide), if_pos ((e8 (by decide) hl8).mpr (by decide)), if_neg (fun e => by have := (e16 (by decide) hl8).mp e; omega), eBr (by decide) hl8, bef hl8, bef hr]
            exact chgS2 s1 (sz3 hz3) d1 (d3.trans (bef4 ⟨r, hr⟩)) (okW4 hr) (fun b M => cb_5 b _ _ M) (Or.inr (Or.inl ⟨rfl, rfl, rfl⟩)) (Or.inr ⟨rfl, rfl⟩) (fun e => by rw [(s2 e).2.2.1]; exact eqM.rfl')
        · rw [if_neg (nq_1 m1 (by omega))]
          have ft : f_X11_fits (eB m l) (nI z) 10 = f_X9_isOpenMemory (eB m l) := (fitB ⟨m, hm⟩ ⟨l, hl8⟩ ⟨z, by omega⟩).2.2
          refine EX_pair hw ?_ (by decide) (fun _ => iff_of_true rfl hpv) (fun c D N B d0 d1 d2 d3 hR => ?_)
          · rw [lg_5 h]
            unfold f_X11_isLegal_167
            rw [if_neg (nz3 hz3), if_neg (show ¬ nI 1 = 0 by decide), if_neg (fun e => by have := (nI_ltI (a := m) (b := 2) (by omega) (by decide)).mp e; omega), ft]
            by_cases c : f_X9_isOpenMemory (eB m l) = 0
            · rw [if_pos c, c]
            · rw [if_neg c]; exact iff_of_false (by decide) c
          · obtain ⟨s1, s2, s3⟩ := srcR hR hr d2 d1
            obtain ⟨ok, m2⟩ := omE hm hl8 c
            rw [pf_4, pg_5 h]
            unfold f_X4_perform_237 f_X11_addOrTake
            simp only [xb_l, if_true]
            rw [if_neg (nz3 hz3), if_neg (show ¬ nI 1 = 0 by decide), if_pos ((e8 hm hl8).mpr (by omega)), if_pos ((e16 hm hl8).mpr m2), nIl hr]
            exact chgS2 s1 (sz3 hz3) d1 d3 ok (fun b M => cb_4 b _ _ M) (Or.inl ⟨rfl, rfl, rfl⟩) (Or.inr ⟨rfl, rfl⟩) (fun e => by rw [s3 (s2 ▸ e)]; exact mm2)
set_option maxHeartbeats 1000000 in
theorem EX_6 {r d z m l : Nat} {M : St} (h : wB 6 r d z m l) : EX (wd 6 r d z m l) (f_X3_decode (wd 6 r d z m l) M) := by
  have hw : (xup M 11 0 (wd 6 r d z m l)) 11 0 = wd 6 r d z m l := w11
  obtain ⟨_, hr, hd, hz, hm, hl8⟩ := id h
  have hpv : f_X11_isPrivileged (wd 6 r d z m l) = 0 := pvm h (by decide) (by decide)
  rw [dc_6 h]
  unfold f_X3_comparing f_X3_withAddress f_X3_withAddress_12
  simp only [xb_eta, q_op h hw, q_r h hw, q_z h hw, q_d h hw, q_m h hw, q_l h hw, n8r]
  by_cases z3 : z = 3
  · subst z3
    rw [if_pos (show nI 3 = 3 from rfl)]
    rcases (show d = 0 ∨ d = 1 by omega) with rfl | rfl
    · rw [if_pos (show nI 0 = 0 from rfl)]
      have ft : f_X11_fits (eB m l) 1 0 = f_X9_isAny (eB m l) 1 := (fitA ⟨m, hm⟩ ⟨l, hl8⟩ ⟨1, by decide⟩).1
      refine EX_pair hw ?_ (by decide) (fun _ => iff_of_true rfl hpv) (fun c D N B d0 d1 d2 d3 hR => ?_)
      · rw [lg_6 h]
        unfold f_X11_isLegal_241
        rw [if_pos (show nI 3 = 3 from rfl), if_pos (show nI 0 = 0 from rfl), ft]
      · obtain ⟨s1, s2⟩ := src (m := m) (r := l) hR (by decide) (anyE hm hl8 (show 1 < 3 by decide) c).1 d2 d1
        have e7 : nI (8 + r) &&& 7 = nI r := by rw [← eB1]; exact eBr (by decide) hr
        rw [pf_14, pg_6 h]
        unfold f_X4_compareAddress f_X11_compare f_X11_compare_22 f_X11_compare_35
        rw [if_pos (show nI 3 = 3 from rfl), if_pos (show nI 0 = 0 from rfl)]
        simp only [xb_l, if_true]
        rw [if_pos (show nI 0 = 0 from rfl), cb_7, s1.d, d3, d1, e7, n8r, nI_clamp (show 8 + r < 2 ^ 31 by omega)]
        exact (sumR s1 (by decide) (Or.inr (Or.inr ⟨rfl, rfl, rfl⟩)) (Or.inr ⟨rfl, rfl⟩) (fun e => by rw [(s2 e).2.2.1, (s1.g e).reg (8 + r) (by omega)]; exact ⟨rfl, rfl⟩)).1
    · rw [if_neg (show ¬ nI 1 = 0 by decide)]
      have ft : f_X11_fits (eB m l) 2 0 = f_X9_isAny (eB m l) 2 := (fitA ⟨m, hm⟩ ⟨l, hl8⟩ ⟨2, by decide⟩).1
      refine EX_pair hw ?_ (by decide) (fun _ => iff_of_true rfl hpv) (fun c D N B d0 d1 d2 d3 hR => ?_)
      · rw [lg_6 h]
        unfold f_X11_isLegal_241
        rw [if_pos (show nI 3 = 3 from rfl), if_neg (show ¬ nI 1 = 0 by decide), ft]
      · obtain ⟨s1, s2⟩ := src (m := m) (r := l) hR (by decide) (anyE hm hl8 (show 2 < 3 by decide) c).1 d2 d1
        have e7 : nI (8 + r) &&& 7 = nI r := by rw [← eB1]; exact eBr (by decide) hr
        rw [pf_14, pg_6 h]
        unfold f_X4_compareAddress f_X11_compare f_X11_compare_22 f_X11_compare_35
        rw [if_pos (show nI 3 = 3 from rfl), if_neg (show ¬ nI 1 = 0 by decide)]
        simp only [xb_l, if_true]
        rw [if_neg (show ¬ nI 1 = 0 by decide), cb_7, s1.d, d3, d1, e7, n8r, nI_clamp (show 8 + r < 2 ^ 31 by omega)]
        exact (sumR s1 (by decide) (Or.inr (Or.inr ⟨rfl, rfl, rfl⟩)) (Or.inr ⟨rfl, rfl⟩) (fun e => by rw [(s2 e).2.2.1, (s1.g e).reg (8 + r) (by omega)]; exact ⟨rfl, rfl⟩)).1
  · have hz3 : z < 3 := by omega
    rw [if_neg (nz3 hz3)]
    rcases (show d = 0 ∨ d = 1 by omega) with rfl | rfl
    · rw [if_pos (show nI 0 = 0 from rfl)]
      have ft : f_X11_fits (eB m l) (nI z) 0 = f_X9_isAny (eB m l) (nI z) := (fitA ⟨m, hm⟩ ⟨l, hl8⟩ ⟨z, hz3⟩).1
      refine EX_pair hw ?_ (by decide) (fun _ => iff_of_true rfl hpv) (fun c D N B d0 d1 d2 d3 hR => ?_)
      · rw [lg_6 h]
        rw [if_neg (nz3 hz3), if_pos (show nI 0 = 0 from rfl), ft]
      · obtain ⟨s1, s2⟩ := src (m := m) (r := l) hR (sz3 hz3) (anyE hm hl8 hz3 c).1 d2 d1
        rw [pf_7, pg_6 h]
        unfold f_X11_compare
        simp only [xb_l, if_true]
        rw [if_neg (nz3 hz3), if_pos (show nI 0 = 0 from rfl), nIl hr]
        exact cmp1 s1 (sz3 hz3) d1 d3 hr (fun e => by rw [(s2 e).2.2.1]; exact eqM.rfl')
    · rw [if_neg (show ¬ nI 1 = 0 by decide)]
      by_cases m1 : m = 1
      · subst m1
        rw [if_pos (show nI 1 = 1 from rfl)]
        refine EX_pair hw ?_ (by decide) (fun _ => iff_of_true rfl hpv) (fun c D N B d0 d1 d2 d3 hR => ?_)
        · rw [lg_6 h]
          rw [if_neg (nz3 hz3), if_neg (show ¬ nI 1 = 0 by decide), if_pos (show nI 1 = 1 from rfl)]
        · obtain ⟨s1, s2⟩ := src (m := 3) (r := l) hR (sz3 hz3) (okE3 hl8) (d2.trans (beh3 ⟨l, hl8⟩)) d1
          rw [pf_7, pg_6 h]
          unfold f_X11_compare
          simp only [xb_l, if_true]
          rw [if_neg (nz3 hz3), if_neg (show ¬ nI 1 = 0 by decide), eBm (by decide) hl8, if_pos (show nI 1 = 1 from rfl), eBr (by decide) hl8, beh hl8, beh hr]
          exact cmp2 s1 (sz3 hz3) d1 (d3.trans (beh3 ⟨r, hr⟩)) (okE3 hr) (fun e => by rw [(s2 e).2.2.1]; exact eqM.rfl')
      · rw [if_neg (nq_1 m1 (by omega))]
        have ft : f_X11_fits (eB m l) (nI z) 9 = f_X9_isOpenData (eB m l) := (fitB ⟨m, hm⟩ ⟨l, hl8⟩ ⟨z, by omega⟩).2.1
        refine EX_pair hw ?_ (by decide) (fun _ => iff_of_true rfl hpv) (fun c D N B d0 d1 d2 d3 hR => ?_)
        · rw [lg_6 h]
          rw [if_neg (nz3 hz3), if_neg (show ¬ nI 1 = 0 by decide), if_neg (nq_1 m1 (by omega)), ft]
          by_cases c : f_X9_isOpenData (eB m l) = 0
          · rw [if_pos c, c]
          · rw [if_neg c]; exact iff_of_false (by decide) c
        · obtain ⟨s1, s2, s3⟩ := srcR hR hr d2 d1
          rw [pf_10, pg_6 h]
          unfold f_X4_perform_237 f_X11_compare
          simp only [xb_l, if_true]
          rw [if_neg (nz3 hz3), if_neg (show ¬ nI 1 = 0 by decide), eBm hm hl8, if_neg (nq_1 m1 (by omega)), nIl hr]
          refine chgL2 (gg := fun b a => b ^^^ a) s1 (sz3 hz3) d1 d3 (odE hm hl8 c) (fun b M => cb_10 b _ _ M) (fun A2 r2 e2 e1 hk _ => ?_)
          rw [← (r2.g e2).reg r (by omega), hk r hr, (s1.g e1).reg r (by omega), s3 (s2 ▸ e1)]
          exact mmx
