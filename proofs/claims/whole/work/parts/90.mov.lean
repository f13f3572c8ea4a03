set_option maxHeartbeats 1000000 in
theorem EX_0 {r d z m l : Nat} {M : St} (h : wB 0 r d z m l) : EX (wd 0 r d z m l) (f_X3_decode (wd 0 r d z m l) M) := by
  have hw : (xup M 11 0 (wd 0 r d z m l)) 11 0 = wd 0 r d z m l := w11
  obtain ⟨_, hr, hd, hz, hm, hl8⟩ := id h
  have hpv : f_X11_isPrivileged (wd 0 r d z m l) = 0 := pvm h (by decide) (by decide)
  rw [dc_0 h]
  have et : (nI (8 * r + (4 * d + z))) = eB r (4 * d + z) := rfl
  have hk8 : 4 * d + z < 8 := by omega
  have ft : f_X11_fits (eB m l) (nI 0) 0 = f_X9_isAny (eB m l) (nI 0) := (fitA ⟨m, hm⟩ ⟨l, hl8⟩ ⟨0, by decide⟩).1
  have fu : f_X11_fits (eB r (4 * d + z)) (nI 0) 8 = (if f_X9_isAny (eB r (4 * d + z)) (nI 0) = 0 then 0 else f_X9_isOpen (eB r (4 * d + z))) := (fitA ⟨r, hr⟩ ⟨4 * d + z, hk8⟩ ⟨0, by decide⟩).2
  have hlg := lg_0 h
  unfold f_X11_isLegal_128 at hlg
  rw [(wd_g h).2, et, ft, fu] at hlg
  unfold f_X3_moving f_X3_moving_49 f_X3_moving_50 f_X3_moving_68
  simp only [xb_eta, hw, (wd_g h).1, (wd_c h).1, q_op h hw, q_r h hw, q_z h hw, q_d h hw, q_m h hw, q_l h hw, et]
  by_cases c1 : f_X9_isAny (eB m l) (nI 0) = 0
  · rw [if_pos c1] at hlg ⊢
    split <;> exact EX_bad hlg
  rw [if_neg c1] at hlg ⊢
  by_cases c2 : f_X9_isAny (eB r (4 * d + z)) (nI 0) = 0
  · rw [if_pos c2] at hlg ⊢
    rw [if_pos (show (0 : Int32) = 0 from rfl)] at hlg
    split <;> exact EX_bad hlg
  rw [if_neg c2] at hlg ⊢
  by_cases c3 : f_X9_isOpen (eB r (4 * d + z)) = 0
  · rw [if_pos c3] at hlg ⊢
    split <;> exact EX_bad hlg
  rw [if_neg c3] at hlg ⊢
  have hle : ¬ f_X11_isLegal (wd 0 r d z m l) = 0 := by rw [hlg]; decide
  have oe := (anyE hm hl8 (show 0 < 3 by decide) c1).1
  have ot := (anyE hr hk8 (show 0 < 3 by decide) c2).1
  have op := opnE hr hk8 c3
  have hof := eB_of ⟨r, hr⟩ ⟨4 * d + z, hk8⟩
  dsimp only at hof
  unfold f_X3_isAddressRegister
  rw [hof]
  by_cases r1 : r = 1
  · subst r1
    rw [if_pos (show (nI (if 1 < 7 then 1 else 7 + (4 * d + z))) = 1 by rw [if_pos (by decide)]; rfl), if_neg (show ¬ (1 : Int32) = 0 by decide)]
    refine EX_pair hw (iff_of_false hle (by decide)) (by decide) (fun _ => iff_of_true rfl hpv) (fun c D N B d0 d1 d2 d3 hR => ?_)
    obtain ⟨s1, s2⟩ := src (m := m) (r := l) hR (by decide) oe d2 d1
    have e7 : eB 1 (4 * d + z) &&& 7 = nI (4 * d + z) := eBr (by decide) hk8
    rw [pf_11, pg_0 h]
    unfold f_X4_perform_260 f_X4_changeAddress f_X4_changeAddress_71 f_X11_move
    simp only [xb_l, if_true]
    rw [if_neg (show ¬ (11 : Nat) = 12 by decide), if_neg (show ¬ (11 : Nat) = 13 by decide), s1.d, d3, d1, e7, et, n8r, f26a hk8, xo4 rfl, xs4, if_neg (fun e => by have := (nI_leI (a := 8 + (4 * d + z)) (b := 7) (by omega) (by decide)).mp e; omega), if_neg (fun e => by have := (nI_leI (a := 16) (b := 8 + (4 * d + z)) (by decide) (by omega)).mp e; omega), nI_clamp (show 8 + (4 * d + z) < 2 ^ 31 by omega)]
    exact s1.set25.set26.setr (j := 8 + (4 * d + z)) (v := f_X10_extended (f_X4_readSource (xup (xup N 12 6 0) 12 7 0)).1 (nI 0)) (v' := f_X11_extend (f_X11_loadAt (eB m l) (nI 0) B).1 (nI 0)) (by omega) (fun e => by rw [(s2 e).2.2.1]; rfl)
  · have n1 : ¬ nI (if r < 7 then r else 7 + (4 * d + z)) = 1 := by
      split
      · exact nq_1 r1 (by omega)
      · exact nq_1 (by omega) (by omega)
    rw [if_neg n1, if_pos (show (0 : Int32) = 0 from rfl)]
    have ow : okW r (4 * d + z) := by unfold okW; unfold okE at ot; omega
    refine EX_pair hw (iff_of_false hle (by decide)) (by decide) (fun _ => iff_of_true rfl hpv) (fun c D N B d0 d1 d2 d3 hR => ?_)
    obtain ⟨s1, s2⟩ := src (m := m) (r := l) hR (by decide) oe d2 d1
    rw [pf_0, pg_0 h]
    unfold f_X11_move f_X11_move_48
    simp only [xb_l, if_true]
    rw [tested1, s1.d, d1, et, f25W (by decide) ow]
    have o := ovwT s1 (by decide) d1 d3 ow (v := (f_X4_readSource (xup (xup N 12 6 0) 12 7 0)).1) (v' := (f_X11_loadAt (eB m l) (nI 0) B).1) (fun e => by rw [(s2 e).2.2.1]; exact eqM.rfl')
    by_cases r0 : r = 0
    · rw [if_pos r0, if_pos (show nI (4 * d + z) ≤ 7 from (nI_leI (a := 4 * d + z) (b := 7) (by omega) (by decide)).mpr (by omega))]
      exact o
    · rw [if_neg r0, if_neg (show ¬ (16 : Int32) ≤ 7 by decide), if_pos (show (16 : Int32) ≤ 16 by decide)]
      exact o
set_option maxHeartbeats 1000000 in
theorem EX_1 {r d z m l : Nat} {M : St} (h : wB 1 r d z m l) : EX (wd 1 r d z m l) (f_X3_decode (wd 1 r d z m l) M) := by
  have hw : (xup M 11 0 (wd 1 r d z m l)) 11 0 = wd 1 r d z m l := w11
  obtain ⟨_, hr, hd, hz, hm, hl8⟩ := id h
  have hpv : f_X11_isPrivileged (wd 1 r d z m l) = 0 := pvm h (by decide) (by decide)
  rw [dc_1 h]
  have et : (nI (8 * r + (4 * d + z))) = eB r (4 * d + z) := rfl
  have hk8 : 4 * d + z < 8 := by omega
  have ft : f_X11_fits (eB m l) (nI 1) 0 = f_X9_isAny (eB m l) (nI 1) := (fitA ⟨m, hm⟩ ⟨l, hl8⟩ ⟨1, by decide⟩).1
  have fu : f_X11_fits (eB r (4 * d + z)) (nI 1) 8 = (if f_X9_isAny (eB r (4 * d + z)) (nI 1) = 0 then 0 else f_X9_isOpen (eB r (4 * d + z))) := (fitA ⟨r, hr⟩ ⟨4 * d + z, hk8⟩ ⟨1, by decide⟩).2
  have hlg := lg_1 h
  unfold f_X11_isLegal_128 at hlg
  rw [(wd_g h).2, et, ft, fu] at hlg
  unfold f_X3_moving f_X3_moving_49 f_X3_moving_50 f_X3_moving_68
  simp only [xb_eta, hw, (wd_g h).1, (wd_c h).1, q_op h hw, q_r h hw, q_z h hw, q_d h hw, q_m h hw, q_l h hw, et]
  by_cases c1 : f_X9_isAny (eB m l) (nI 1) = 0
  · rw [if_pos c1] at hlg ⊢
    split <;> exact EX_bad hlg
  rw [if_neg c1] at hlg ⊢
  by_cases c2 : f_X9_isAny (eB r (4 * d + z)) (nI 1) = 0
  · rw [if_pos c2] at hlg ⊢
    rw [if_pos (show (0 : Int32) = 0 from rfl)] at hlg
    split <;> exact EX_bad hlg
  rw [if_neg c2] at hlg ⊢
  by_cases c3 : f_X9_isOpen (eB r (4 * d + z)) = 0
  · rw [if_pos c3] at hlg ⊢
    split <;> exact EX_bad hlg
  rw [if_neg c3] at hlg ⊢
  have hle : ¬ f_X11_isLegal (wd 1 r d z m l) = 0 := by rw [hlg]; decide
  have oe := (anyE hm hl8 (show 1 < 3 by decide) c1).1
  have ot := (anyE hr hk8 (show 1 < 3 by decide) c2).1
  have op := opnE hr hk8 c3
  have hof := eB_of ⟨r, hr⟩ ⟨4 * d + z, hk8⟩
  dsimp only at hof
  unfold f_X3_isAddressRegister
  rw [hof]
  by_cases r1 : r = 1
  · subst r1
    rw [if_pos (show (nI (if 1 < 7 then 1 else 7 + (4 * d + z))) = 1 by rw [if_pos (by decide)]; rfl), if_neg (show ¬ (1 : Int32) = 0 by decide)]
    refine EX_pair hw (iff_of_false hle (by decide)) (by decide) (fun _ => iff_of_true rfl hpv) (fun c D N B d0 d1 d2 d3 hR => ?_)
    obtain ⟨s1, s2⟩ := src (m := m) (r := l) hR (by decide) oe d2 d1
    have e7 : eB 1 (4 * d + z) &&& 7 = nI (4 * d + z) := eBr (by decide) hk8
    rw [pf_11, pg_1 h]
    unfold f_X4_perform_260 f_X4_changeAddress f_X4_changeAddress_71 f_X11_move
    simp only [xb_l, if_true]
    rw [if_neg (show ¬ (11 : Nat) = 12 by decide), if_neg (show ¬ (11 : Nat) = 13 by decide), s1.d, d3, d1, e7, et, n8r, f26a hk8, xo4 rfl, xs4, if_neg (fun e => by have := (nI_leI (a := 8 + (4 * d + z)) (b := 7) (by omega) (by decide)).mp e; omega), if_neg (fun e => by have := (nI_leI (a := 16) (b := 8 + (4 * d + z)) (by decide) (by omega)).mp e; omega), nI_clamp (show 8 + (4 * d + z) < 2 ^ 31 by omega)]
    exact s1.set25.set26.setr (j := 8 + (4 * d + z)) (v := f_X10_extended (f_X4_readSource (xup (xup N 12 6 0) 12 7 0)).1 (nI 1)) (v' := f_X11_extend (f_X11_loadAt (eB m l) (nI 1) B).1 (nI 1)) (by omega) (fun e => by rw [(s2 e).2.2.1]; rfl)
  · have n1 : ¬ nI (if r < 7 then r else 7 + (4 * d + z)) = 1 := by
      split
      · exact nq_1 r1 (by omega)
      · exact nq_1 (by omega) (by omega)
    rw [if_neg n1, if_pos (show (0 : Int32) = 0 from rfl)]
    have ow : okW r (4 * d + z) := by unfold okW; unfold okE at ot; omega
    refine EX_pair hw (iff_of_false hle (by decide)) (by decide) (fun _ => iff_of_true rfl hpv) (fun c D N B d0 d1 d2 d3 hR => ?_)
    obtain ⟨s1, s2⟩ := src (m := m) (r := l) hR (by decide) oe d2 d1
    rw [pf_0, pg_1 h]
    unfold f_X11_move f_X11_move_48
    simp only [xb_l, if_true]
    rw [tested1, s1.d, d1, et, f25W (by decide) ow]
    have o := ovwT s1 (by decide) d1 d3 ow (v := (f_X4_readSource (xup (xup N 12 6 0) 12 7 0)).1) (v' := (f_X11_loadAt (eB m l) (nI 1) B).1) (fun e => by rw [(s2 e).2.2.1]; exact eqM.rfl')
    by_cases r0 : r = 0
    · rw [if_pos r0, if_pos (show nI (4 * d + z) ≤ 7 from (nI_leI (a := 4 * d + z) (b := 7) (by omega) (by decide)).mpr (by omega))]
      exact o
    · rw [if_neg r0, if_neg (show ¬ (16 : Int32) ≤ 7 by decide), if_pos (show (16 : Int32) ≤ 16 by decide)]
      exact o
set_option maxHeartbeats 1000000 in
theorem EX_2 {r d z m l : Nat} {M : St} (h : wB 2 r d z m l) : EX (wd 2 r d z m l) (f_X3_decode (wd 2 r d z m l) M) := by
  have hw : (xup M 11 0 (wd 2 r d z m l)) 11 0 = wd 2 r d z m l := w11
  obtain ⟨_, hr, hd, hz, hm, hl8⟩ := id h
  have hpv : f_X11_isPrivileged (wd 2 r d z m l) = 0 := pvm h (by decide) (by decide)
  rw [dc_2 h]
  have et : (nI (8 * r + (4 * d + z))) = eB r (4 * d + z) := rfl
  have hk8 : 4 * d + z < 8 := by omega
  have ft : f_X11_fits (eB m l) (nI 2) 0 = f_X9_isAny (eB m l) (nI 2) := (fitA ⟨m, hm⟩ ⟨l, hl8⟩ ⟨2, by decide⟩).1
  have fu : f_X11_fits (eB r (4 * d + z)) (nI 2) 8 = (if f_X9_isAny (eB r (4 * d + z)) (nI 2) = 0 then 0 else f_X9_isOpen (eB r (4 * d + z))) := (fitA ⟨r, hr⟩ ⟨4 * d + z, hk8⟩ ⟨2, by decide⟩).2
  have hlg := lg_2 h
  unfold f_X11_isLegal_128 at hlg
  rw [(wd_g h).2, et, ft, fu] at hlg
  unfold f_X3_moving f_X3_moving_49 f_X3_moving_50 f_X3_moving_68
  simp only [xb_eta, hw, (wd_g h).1, (wd_c h).1, q_op h hw, q_r h hw, q_z h hw, q_d h hw, q_m h hw, q_l h hw, et]
  by_cases c1 : f_X9_isAny (eB m l) (nI 2) = 0
  · rw [if_pos c1] at hlg ⊢
    split <;> exact EX_bad hlg
  rw [if_neg c1] at hlg ⊢
  by_cases c2 : f_X9_isAny (eB r (4 * d + z)) (nI 2) = 0
  · rw [if_pos c2] at hlg ⊢
    rw [if_pos (show (0 : Int32) = 0 from rfl)] at hlg
    split <;> exact EX_bad hlg
  rw [if_neg c2] at hlg ⊢
  by_cases c3 : f_X9_isOpen (eB r (4 * d + z)) = 0
  · rw [if_pos c3] at hlg ⊢
    split <;> exact EX_bad hlg
  rw [if_neg c3] at hlg ⊢
  have hle : ¬ f_X11_isLegal (wd 2 r d z m l) = 0 := by rw [hlg]; decide
  have oe := (anyE hm hl8 (show 2 < 3 by decide) c1).1
  have ot := (anyE hr hk8 (show 2 < 3 by decide) c2).1
  have op := opnE hr hk8 c3
  have hof := eB_of ⟨r, hr⟩ ⟨4 * d + z, hk8⟩
  dsimp only at hof
  unfold f_X3_isAddressRegister
  rw [hof]
  by_cases r1 : r = 1
  · subst r1
    rw [if_pos (show (nI (if 1 < 7 then 1 else 7 + (4 * d + z))) = 1 by rw [if_pos (by decide)]; rfl), if_neg (show ¬ (1 : Int32) = 0 by decide)]
    refine EX_pair hw (iff_of_false hle (by decide)) (by decide) (fun _ => iff_of_true rfl hpv) (fun c D N B d0 d1 d2 d3 hR => ?_)
    obtain ⟨s1, s2⟩ := src (m := m) (r := l) hR (by decide) oe d2 d1
    have e7 : eB 1 (4 * d + z) &&& 7 = nI (4 * d + z) := eBr (by decide) hk8
    rw [pf_11, pg_2 h]
    unfold f_X4_perform_260 f_X4_changeAddress f_X4_changeAddress_71 f_X11_move
    simp only [xb_l, if_true]
    rw [if_neg (show ¬ (11 : Nat) = 12 by decide), if_neg (show ¬ (11 : Nat) = 13 by decide), s1.d, d3, d1, e7, et, n8r, f26a hk8, xo4 rfl, xs4, if_neg (fun e => by have := (nI_leI (a := 8 + (4 * d + z)) (b := 7) (by omega) (by decide)).mp e; omega), if_neg (fun e => by have := (nI_leI (a := 16) (b := 8 + (4 * d + z)) (by decide) (by omega)).mp e; omega), nI_clamp (show 8 + (4 * d + z) < 2 ^ 31 by omega)]
    exact s1.set25.set26.setr (j := 8 + (4 * d + z)) (v := f_X10_extended (f_X4_readSource (xup (xup N 12 6 0) 12 7 0)).1 (nI 2)) (v' := f_X11_extend (f_X11_loadAt (eB m l) (nI 2) B).1 (nI 2)) (by omega) (fun e => by rw [(s2 e).2.2.1]; rfl)
  · have n1 : ¬ nI (if r < 7 then r else 7 + (4 * d + z)) = 1 := by
      split
      · exact nq_1 r1 (by omega)
      · exact nq_1 (by omega) (by omega)
    rw [if_neg n1, if_pos (show (0 : Int32) = 0 from rfl)]
    have ow : okW r (4 * d + z) := by unfold okW; unfold okE at ot; omega
    refine EX_pair hw (iff_of_false hle (by decide)) (by decide) (fun _ => iff_of_true rfl hpv) (fun c D N B d0 d1 d2 d3 hR => ?_)
    obtain ⟨s1, s2⟩ := src (m := m) (r := l) hR (by decide) oe d2 d1
    rw [pf_0, pg_2 h]
    unfold f_X11_move f_X11_move_48
    simp only [xb_l, if_true]
    rw [tested1, s1.d, d1, et, f25W (by decide) ow]
    have o := ovwT s1 (by decide) d1 d3 ow (v := (f_X4_readSource (xup (xup N 12 6 0) 12 7 0)).1) (v' := (f_X11_loadAt (eB m l) (nI 2) B).1) (fun e => by rw [(s2 e).2.2.1]; exact eqM.rfl')
    by_cases r0 : r = 0
    · rw [if_pos r0, if_pos (show nI (4 * d + z) ≤ 7 from (nI_leI (a := 4 * d + z) (b := 7) (by omega) (by decide)).mpr (by omega))]
      exact o
    · rw [if_neg r0, if_neg (show ¬ (16 : Int32) ≤ 7 by decide), if_pos (show (16 : Int32) ≤ 16 by decide)]
      exact o
