/-! group 3 -/
theorem EX_3_0 {r d z m l : Nat} {N : St} (h : wB 3 r d z m l) (hc : 8 * r + (4 * d + z) = 0) (hw : N 11 0 = wd 3 r d z m l) : EX (wd 3 r d z m l) (f_X3_ofGroupThree N) := by
  obtain ⟨_, hr, hd, hz, hm, hl8⟩ := id h
  have hlg := lg_3 h
  rw [hc] at hlg
  have hpv := pv3 h
  rw [hc] at hpv
  have hpg : ∀ B, f_X11_perform (wd 3 r d z m l) B = f_X11_three (nI 0) (eB m l) B := fun B => by rw [pg_3 h, hc]
  have hcc : (ius (N 11 0) 6) &&& 63 = nI 0 := by rw [hw, (wd_c h).1, hc]
  have hpv0 : f_X11_isPrivileged (wd 3 r d z m l) = 0 := by rw [hpv, if_neg (show ¬ nI 0 = 11 by decide), if_neg (show ¬ nI 0 = 28 by decide)]
  have dcd : f_X3_ofGroupThree N = f_X3_pair 30 (f_X3_operand N) (f_X3_operand N) 0 (f_X9_isOpenData (f_X3_operand N)) N := dd_0 hcc
  rw [dcd, q_op h hw]
  have ft : f_X11_fits (eB m l) 0 9 = f_X9_isOpenData (eB m l) := (fitB ⟨m, hm⟩ ⟨l, hl8⟩ ⟨0, by decide⟩).2.1
  have hl2 : f_X11_isLegal (wd 3 r d z m l) = f_X9_isOpenData (eB m l) := hlg.trans ((ll_0 (e := eB m l)).trans ft)
  refine EX_pair hw (by rw [hl2]) (by decide) (fun _ => iff_of_true rfl hpv0) (fun c D N B d0 d1 d2 d3 hR => ?_)
  have ow := odE hm hl8 c
  rw [pfx_30, hpg, tt_0, one0]
  exact neg2 hR (by decide) d1 d3 ow (fun b a M => cb_5 b a _ M) (Or.inr ⟨rfl, rfl⟩)
theorem EX_3_1 {r d z m l : Nat} {N : St} (h : wB 3 r d z m l) (hc : 8 * r + (4 * d + z) = 1) (hw : N 11 0 = wd 3 r d z m l) : EX (wd 3 r d z m l) (f_X3_ofGroupThree N) := by
  obtain ⟨_, hr, hd, hz, hm, hl8⟩ := id h
  have hlg := lg_3 h
  rw [hc] at hlg
  have hpv := pv3 h
  rw [hc] at hpv
  have hpg : ∀ B, f_X11_perform (wd 3 r d z m l) B = f_X11_three (nI 1) (eB m l) B := fun B => by rw [pg_3 h, hc]
  have hcc : (ius (N 11 0) 6) &&& 63 = nI 1 := by rw [hw, (wd_c h).1, hc]
  have hpv0 : f_X11_isPrivileged (wd 3 r d z m l) = 0 := by rw [hpv, if_neg (show ¬ nI 1 = 11 by decide), if_neg (show ¬ nI 1 = 28 by decide)]
  have dcd : f_X3_ofGroupThree N = f_X3_pair 30 (f_X3_operand N) (f_X3_operand N) 1 (f_X9_isOpenData (f_X3_operand N)) N := dd_1 hcc
  rw [dcd, q_op h hw]
  have ft : f_X11_fits (eB m l) 1 9 = f_X9_isOpenData (eB m l) := (fitB ⟨m, hm⟩ ⟨l, hl8⟩ ⟨1, by decide⟩).2.1
  have hl2 : f_X11_isLegal (wd 3 r d z m l) = f_X9_isOpenData (eB m l) := hlg.trans ((ll_1 (e := eB m l)).trans ft)
  refine EX_pair hw (by rw [hl2]) (by decide) (fun _ => iff_of_true rfl hpv0) (fun c D N B d0 d1 d2 d3 hR => ?_)
  have ow := odE hm hl8 c
  rw [pfx_30, hpg, tt_1, one0]
  exact neg2 hR (by decide) d1 d3 ow (fun b a M => cb_5 b a _ M) (Or.inr ⟨rfl, rfl⟩)
theorem EX_3_2 {r d z m l : Nat} {N : St} (h : wB 3 r d z m l) (hc : 8 * r + (4 * d + z) = 2) (hw : N 11 0 = wd 3 r d z m l) : EX (wd 3 r d z m l) (f_X3_ofGroupThree N) := by
  obtain ⟨_, hr, hd, hz, hm, hl8⟩ := id h
  have hlg := lg_3 h
  rw [hc] at hlg
  have hpv := pv3 h
  rw [hc] at hpv
  have hpg : ∀ B, f_X11_perform (wd 3 r d z m l) B = f_X11_three (nI 2) (eB m l) B := fun B => by rw [pg_3 h, hc]
  have hcc : (ius (N 11 0) 6) &&& 63 = nI 2 := by rw [hw, (wd_c h).1, hc]
  have hpv0 : f_X11_isPrivileged (wd 3 r d z m l) = 0 := by rw [hpv, if_neg (show ¬ nI 2 = 11 by decide), if_neg (show ¬ nI 2 = 28 by decide)]
  have dcd : f_X3_ofGroupThree N = f_X3_pair 30 (f_X3_operand N) (f_X3_operand N) 2 (f_X9_isOpenData (f_X3_operand N)) N := dd_2 hcc
  rw [dcd, q_op h hw]
  have ft : f_X11_fits (eB m l) 2 9 = f_X9_isOpenData (eB m l) := (fitB ⟨m, hm⟩ ⟨l, hl8⟩ ⟨2, by decide⟩).2.1
  have hl2 : f_X11_isLegal (wd 3 r d z m l) = f_X9_isOpenData (eB m l) := hlg.trans ((ll_2 (e := eB m l)).trans ft)
  refine EX_pair hw (by rw [hl2]) (by decide) (fun _ => iff_of_true rfl hpv0) (fun c D N B d0 d1 d2 d3 hR => ?_)
  have ow := odE hm hl8 c
  rw [pfx_30, hpg, tt_2, one0]
  exact neg2 hR (by decide) d1 d3 ow (fun b a M => cb_5 b a _ M) (Or.inr ⟨rfl, rfl⟩)
theorem EX_3_4 {r d z m l : Nat} {N : St} (h : wB 3 r d z m l) (hc : 8 * r + (4 * d + z) = 4) (hw : N 11 0 = wd 3 r d z m l) : EX (wd 3 r d z m l) (f_X3_ofGroupThree N) := by
  obtain ⟨_, hr, hd, hz, hm, hl8⟩ := id h
  have hlg := lg_3 h
  rw [hc] at hlg
  have hpv := pv3 h
  rw [hc] at hpv
  have hpg : ∀ B, f_X11_perform (wd 3 r d z m l) B = f_X11_three (nI 4) (eB m l) B := fun B => by rw [pg_3 h, hc]
  have hcc : (ius (N 11 0) 6) &&& 63 = nI 4 := by rw [hw, (wd_c h).1, hc]
  have hpv0 : f_X11_isPrivileged (wd 3 r d z m l) = 0 := by rw [hpv, if_neg (show ¬ nI 4 = 11 by decide), if_neg (show ¬ nI 4 = 28 by decide)]
  have dcd : f_X3_ofGroupThree N = f_X3_pair 32 (f_X3_operand N) (f_X3_operand N) 0 (f_X9_isOpenData (f_X3_operand N)) N := dd_4 hcc
  rw [dcd, q_op h hw]
  have ft : f_X11_fits (eB m l) 0 9 = f_X9_isOpenData (eB m l) := (fitB ⟨m, hm⟩ ⟨l, hl8⟩ ⟨0, by decide⟩).2.1
  have hl2 : f_X11_isLegal (wd 3 r d z m l) = f_X9_isOpenData (eB m l) := hlg.trans ((ll_4 (e := eB m l)).trans ft)
  refine EX_pair hw (by rw [hl2]) (by decide) (fun _ => iff_of_true rfl hpv0) (fun c D N B d0 d1 d2 d3 hR => ?_)
  have ow := odE hm hl8 c
  rw [pf_32, hpg, tt_4, one1]
  rw [n11 hR, d1]
  exact ovwT hR (by decide) d1 d3 ow (v := 0) (v' := 0) (fun _ => eqM.rfl')
theorem EX_3_5 {r d z m l : Nat} {N : St} (h : wB 3 r d z m l) (hc : 8 * r + (4 * d + z) = 5) (hw : N 11 0 = wd 3 r d z m l) : EX (wd 3 r d z m l) (f_X3_ofGroupThree N) := by
  obtain ⟨_, hr, hd, hz, hm, hl8⟩ := id h
  have hlg := lg_3 h
  rw [hc] at hlg
  have hpv := pv3 h
  rw [hc] at hpv
  have hpg : ∀ B, f_X11_perform (wd 3 r d z m l) B = f_X11_three (nI 5) (eB m l) B := fun B => by rw [pg_3 h, hc]
  have hcc : (ius (N 11 0) 6) &&& 63 = nI 5 := by rw [hw, (wd_c h).1, hc]
  have hpv0 : f_X11_isPrivileged (wd 3 r d z m l) = 0 := by rw [hpv, if_neg (show ¬ nI 5 = 11 by decide), if_neg (show ¬ nI 5 = 28 by decide)]
  have dcd : f_X3_ofGroupThree N = f_X3_pair 32 (f_X3_operand N) (f_X3_operand N) 1 (f_X9_isOpenData (f_X3_operand N)) N := dd_5 hcc
  rw [dcd, q_op h hw]
  have ft : f_X11_fits (eB m l) 1 9 = f_X9_isOpenData (eB m l) := (fitB ⟨m, hm⟩ ⟨l, hl8⟩ ⟨1, by decide⟩).2.1
  have hl2 : f_X11_isLegal (wd 3 r d z m l) = f_X9_isOpenData (eB m l) := hlg.trans ((ll_5 (e := eB m l)).trans ft)
  refine EX_pair hw (by rw [hl2]) (by decide) (fun _ => iff_of_true rfl hpv0) (fun c D N B d0 d1 d2 d3 hR => ?_)
  have ow := odE hm hl8 c
  rw [pf_32, hpg, tt_5, one1]
  rw [n11 hR, d1]
  exact ovwT hR (by decide) d1 d3 ow (v := 0) (v' := 0) (fun _ => eqM.rfl')
theorem EX_3_6 {r d z m l : Nat} {N : St} (h : wB 3 r d z m l) (hc : 8 * r + (4 * d + z) = 6) (hw : N 11 0 = wd 3 r d z m l) : EX (wd 3 r d z m l) (f_X3_ofGroupThree N) := by
  obtain ⟨_, hr, hd, hz, hm, hl8⟩ := id h
  have hlg := lg_3 h
  rw [hc] at hlg
  have hpv := pv3 h
  rw [hc] at hpv
  have hpg : ∀ B, f_X11_perform (wd 3 r d z m l) B = f_X11_three (nI 6) (eB m l) B := fun B => by rw [pg_3 h, hc]
  have hcc : (ius (N 11 0) 6) &&& 63 = nI 6 := by rw [hw, (wd_c h).1, hc]
  have hpv0 : f_X11_isPrivileged (wd 3 r d z m l) = 0 := by rw [hpv, if_neg (show ¬ nI 6 = 11 by decide), if_neg (show ¬ nI 6 = 28 by decide)]
  have dcd : f_X3_ofGroupThree N = f_X3_pair 32 (f_X3_operand N) (f_X3_operand N) 2 (f_X9_isOpenData (f_X3_operand N)) N := dd_6 hcc
  rw [dcd, q_op h hw]
  have ft : f_X11_fits (eB m l) 2 9 = f_X9_isOpenData (eB m l) := (fitB ⟨m, hm⟩ ⟨l, hl8⟩ ⟨2, by decide⟩).2.1
  have hl2 : f_X11_isLegal (wd 3 r d z m l) = f_X9_isOpenData (eB m l) := hlg.trans ((ll_6 (e := eB m l)).trans ft)
  refine EX_pair hw (by rw [hl2]) (by decide) (fun _ => iff_of_true rfl hpv0) (fun c D N B d0 d1 d2 d3 hR => ?_)
  have ow := odE hm hl8 c
  rw [pf_32, hpg, tt_6, one1]
  rw [n11 hR, d1]
  exact ovwT hR (by decide) d1 d3 ow (v := 0) (v' := 0) (fun _ => eqM.rfl')
theorem EX_3_8 {r d z m l : Nat} {N : St} (h : wB 3 r d z m l) (hc : 8 * r + (4 * d + z) = 8) (hw : N 11 0 = wd 3 r d z m l) : EX (wd 3 r d z m l) (f_X3_ofGroupThree N) := by
  obtain ⟨_, hr, hd, hz, hm, hl8⟩ := id h
  have hlg := lg_3 h
  rw [hc] at hlg
  have hpv := pv3 h
  rw [hc] at hpv
  have hpg : ∀ B, f_X11_perform (wd 3 r d z m l) B = f_X11_three (nI 8) (eB m l) B := fun B => by rw [pg_3 h, hc]
  have hcc : (ius (N 11 0) 6) &&& 63 = nI 8 := by rw [hw, (wd_c h).1, hc]
  have hpv0 : f_X11_isPrivileged (wd 3 r d z m l) = 0 := by rw [hpv, if_neg (show ¬ nI 8 = 11 by decide), if_neg (show ¬ nI 8 = 28 by decide)]
  have dcd : f_X3_ofGroupThree N = f_X3_pair 29 (f_X3_operand N) (f_X3_operand N) 0 (f_X9_isOpenData (f_X3_operand N)) N := dd_8 hcc
  rw [dcd, q_op h hw]
  have ft : f_X11_fits (eB m l) 0 9 = f_X9_isOpenData (eB m l) := (fitB ⟨m, hm⟩ ⟨l, hl8⟩ ⟨0, by decide⟩).2.1
  have hl2 : f_X11_isLegal (wd 3 r d z m l) = f_X9_isOpenData (eB m l) := hlg.trans ((ll_8 (e := eB m l)).trans ft)
  refine EX_pair hw (by rw [hl2]) (by decide) (fun _ => iff_of_true rfl hpv0) (fun c D N B d0 d1 d2 d3 hR => ?_)
  have ow := odE hm hl8 c
  rw [pfx_29, hpg, tt_8, one2]
  exact neg2 hR (by decide) d1 d3 ow (fun b a M => cb_4 b a _ M) (Or.inl ⟨rfl, rfl⟩)
theorem EX_3_9 {r d z m l : Nat} {N : St} (h : wB 3 r d z m l) (hc : 8 * r + (4 * d + z) = 9) (hw : N 11 0 = wd 3 r d z m l) : EX (wd 3 r d z m l) (f_X3_ofGroupThree N) := by
  obtain ⟨_, hr, hd, hz, hm, hl8⟩ := id h
  have hlg := lg_3 h
  rw [hc] at hlg
  have hpv := pv3 h
  rw [hc] at hpv
  have hpg : ∀ B, f_X11_perform (wd 3 r d z m l) B = f_X11_three (nI 9) (eB m l) B := fun B => by rw [pg_3 h, hc]
  have hcc : (ius (N 11 0) 6) &&& 63 = nI 9 := by rw [hw, (wd_c h).1, hc]
  have hpv0 : f_X11_isPrivileged (wd 3 r d z m l) = 0 := by rw [hpv, if_neg (show ¬ nI 9 = 11 by decide), if_neg (show ¬ nI 9 = 28 by decide)]
  have dcd : f_X3_ofGroupThree N = f_X3_pair 29 (f_X3_operand N) (f_X3_operand N) 1 (f_X9_isOpenData (f_X3_operand N)) N := dd_9 hcc
  rw [dcd, q_op h hw]
  have ft : f_X11_fits (eB m l) 1 9 = f_X9_isOpenData (eB m l) := (fitB ⟨m, hm⟩ ⟨l, hl8⟩ ⟨1, by decide⟩).2.1
  have hl2 : f_X11_isLegal (wd 3 r d z m l) = f_X9_isOpenData (eB m l) := hlg.trans ((ll_9 (e := eB m l)).trans ft)
  refine EX_pair hw (by rw [hl2]) (by decide) (fun _ => iff_of_true rfl hpv0) (fun c D N B d0 d1 d2 d3 hR => ?_)
  have ow := odE hm hl8 c
  rw [pfx_29, hpg, tt_9, one2]
  exact neg2 hR (by decide) d1 d3 ow (fun b a M => cb_4 b a _ M) (Or.inl ⟨rfl, rfl⟩)
theorem EX_3_10 {r d z m l : Nat} {N : St} (h : wB 3 r d z m l) (hc : 8 * r + (4 * d + z) = 10) (hw : N 11 0 = wd 3 r d z m l) : EX (wd 3 r d z m l) (f_X3_ofGroupThree N) := by
  obtain ⟨_, hr, hd, hz, hm, hl8⟩ := id h
  have hlg := lg_3 h
  rw [hc] at hlg
  have hpv := pv3 h
  rw [hc] at hpv
  have hpg : ∀ B, f_X11_perform (wd 3 r d z m l) B = f_X11_three (nI 10) (eB m l) B := fun B => by rw [pg_3 h, hc]
  have hcc : (ius (N 11 0) 6) &&& 63 = nI 10 := by rw [hw, (wd_c h).1, hc]
  have hpv0 : f_X11_isPrivileged (wd 3 r d z m l) = 0 := by rw [hpv, if_neg (show ¬ nI 10 = 11 by decide), if_neg (show ¬ nI 10 = 28 by decide)]
  have dcd : f_X3_ofGroupThree N = f_X3_pair 29 (f_X3_operand N) (f_X3_operand N) 2 (f_X9_isOpenData (f_X3_operand N)) N := dd_10 hcc
  rw [dcd, q_op h hw]
  have ft : f_X11_fits (eB m l) 2 9 = f_X9_isOpenData (eB m l) := (fitB ⟨m, hm⟩ ⟨l, hl8⟩ ⟨2, by decide⟩).2.1
  have hl2 : f_X11_isLegal (wd 3 r d z m l) = f_X9_isOpenData (eB m l) := hlg.trans ((ll_10 (e := eB m l)).trans ft)
  refine EX_pair hw (by rw [hl2]) (by decide) (fun _ => iff_of_true rfl hpv0) (fun c D N B d0 d1 d2 d3 hR => ?_)
  have ow := odE hm hl8 c
  rw [pfx_29, hpg, tt_10, one2]
  exact neg2 hR (by decide) d1 d3 ow (fun b a M => cb_4 b a _ M) (Or.inl ⟨rfl, rfl⟩)
theorem EX_3_12 {r d z m l : Nat} {N : St} (h : wB 3 r d z m l) (hc : 8 * r + (4 * d + z) = 12) (hw : N 11 0 = wd 3 r d z m l) : EX (wd 3 r d z m l) (f_X3_ofGroupThree N) := by
  obtain ⟨_, hr, hd, hz, hm, hl8⟩ := id h
  have hlg := lg_3 h
  rw [hc] at hlg
  have hpv := pv3 h
  rw [hc] at hpv
  have hpg : ∀ B, f_X11_perform (wd 3 r d z m l) B = f_X11_three (nI 12) (eB m l) B := fun B => by rw [pg_3 h, hc]
  have hcc : (ius (N 11 0) 6) &&& 63 = nI 12 := by rw [hw, (wd_c h).1, hc]
  have hpv0 : f_X11_isPrivileged (wd 3 r d z m l) = 0 := by rw [hpv, if_neg (show ¬ nI 12 = 11 by decide), if_neg (show ¬ nI 12 = 28 by decide)]
  have dcd : f_X3_ofGroupThree N = f_X3_pair 33 (f_X3_operand N) (f_X3_operand N) 0 (f_X9_isOpenData (f_X3_operand N)) N := dd_12 hcc
  rw [dcd, q_op h hw]
  have ft : f_X11_fits (eB m l) 0 9 = f_X9_isOpenData (eB m l) := (fitB ⟨m, hm⟩ ⟨l, hl8⟩ ⟨0, by decide⟩).2.1
  have hl2 : f_X11_isLegal (wd 3 r d z m l) = f_X9_isOpenData (eB m l) := hlg.trans ((ll_12 (e := eB m l)).trans ft)
  refine EX_pair hw (by rw [hl2]) (by decide) (fun _ => iff_of_true rfl hpv0) (fun c D N B d0 d1 d2 d3 hR => ?_)
  have ow := odE hm hl8 c
  rw [pfx_33, hpg, tt_12, one3]
  exact trn hR (by decide) d1 d3 ow
theorem EX_3_13 {r d z m l : Nat} {N : St} (h : wB 3 r d z m l) (hc : 8 * r + (4 * d + z) = 13) (hw : N 11 0 = wd 3 r d z m l) : EX (wd 3 r d z m l) (f_X3_ofGroupThree N) := by
  obtain ⟨_, hr, hd, hz, hm, hl8⟩ := id h
  have hlg := lg_3 h
  rw [hc] at hlg
  have hpv := pv3 h
  rw [hc] at hpv
  have hpg : ∀ B, f_X11_perform (wd 3 r d z m l) B = f_X11_three (nI 13) (eB m l) B := fun B => by rw [pg_3 h, hc]
  have hcc : (ius (N 11 0) 6) &&& 63 = nI 13 := by rw [hw, (wd_c h).1, hc]
  have hpv0 : f_X11_isPrivileged (wd 3 r d z m l) = 0 := by rw [hpv, if_neg (show ¬ nI 13 = 11 by decide), if_neg (show ¬ nI 13 = 28 by decide)]
  have dcd : f_X3_ofGroupThree N = f_X3_pair 33 (f_X3_operand N) (f_X3_operand N) 1 (f_X9_isOpenData (f_X3_operand N)) N := dd_13 hcc
  rw [dcd, q_op h hw]
  have ft : f_X11_fits (eB m l) 1 9 = f_X9_isOpenData (eB m l) := (fitB ⟨m, hm⟩ ⟨l, hl8⟩ ⟨1, by decide⟩).2.1
  have hl2 : f_X11_isLegal (wd 3 r d z m l) = f_X9_isOpenData (eB m l) := hlg.trans ((ll_13 (e := eB m l)).trans ft)
  refine EX_pair hw (by rw [hl2]) (by decide) (fun _ => iff_of_true rfl hpv0) (fun c D N B d0 d1 d2 d3 hR => ?_)
  have ow := odE hm hl8 c
  rw [pfx_33, hpg, tt_13, one3]
  exact trn hR (by decide) d1 d3 ow
theorem EX_3_14 {r d z m l : Nat} {N : St} (h : wB 3 r d z m l) (hc : 8 * r + (4 * d + z) = 14) (hw : N 11 0 = wd 3 r d z m l) : EX (wd 3 r d z m l) (f_X3_ofGroupThree N) := by
  obtain ⟨_, hr, hd, hz, hm, hl8⟩ := id h
  have hlg := lg_3 h
  rw [hc] at hlg
  have hpv := pv3 h
  rw [hc] at hpv
  have hpg : ∀ B, f_X11_perform (wd 3 r d z m l) B = f_X11_three (nI 14) (eB m l) B := fun B => by rw [pg_3 h, hc]
  have hcc : (ius (N 11 0) 6) &&& 63 = nI 14 := by rw [hw, (wd_c h).1, hc]
  have hpv0 : f_X11_isPrivileged (wd 3 r d z m l) = 0 := by rw [hpv, if_neg (show ¬ nI 14 = 11 by decide), if_neg (show ¬ nI 14 = 28 by decide)]
  have dcd : f_X3_ofGroupThree N = f_X3_pair 33 (f_X3_operand N) (f_X3_operand N) 2 (f_X9_isOpenData (f_X3_operand N)) N := dd_14 hcc
  rw [dcd, q_op h hw]
  have ft : f_X11_fits (eB m l) 2 9 = f_X9_isOpenData (eB m l) := (fitB ⟨m, hm⟩ ⟨l, hl8⟩ ⟨2, by decide⟩).2.1
  have hl2 : f_X11_isLegal (wd 3 r d z m l) = f_X9_isOpenData (eB m l) := hlg.trans ((ll_14 (e := eB m l)).trans ft)
  refine EX_pair hw (by rw [hl2]) (by decide) (fun _ => iff_of_true rfl hpv0) (fun c D N B d0 d1 d2 d3 hR => ?_)
  have ow := odE hm hl8 c
  rw [pfx_33, hpg, tt_14, one3]
  exact trn hR (by decide) d1 d3 ow
theorem EX_3_16 {r d z m l : Nat} {N : St} (h : wB 3 r d z m l) (hc : 8 * r + (4 * d + z) = 16) (hw : N 11 0 = wd 3 r d z m l) : EX (wd 3 r d z m l) (f_X3_ofGroupThree N) := by
  obtain ⟨_, hr, hd, hz, hm, hl8⟩ := id h
  have hlg := lg_3 h
  rw [hc] at hlg
  have hpv := pv3 h
  rw [hc] at hpv
  have hpg : ∀ B, f_X11_perform (wd 3 r d z m l) B = f_X11_three (nI 16) (eB m l) B := fun B => by rw [pg_3 h, hc]
  have hcc : (ius (N 11 0) 6) &&& 63 = nI 16 := by rw [hw, (wd_c h).1, hc]
  have hpv0 : f_X11_isPrivileged (wd 3 r d z m l) = 0 := by rw [hpv, if_neg (show ¬ nI 16 = 11 by decide), if_neg (show ¬ nI 16 = 28 by decide)]
  have dcd : f_X3_ofGroupThree N = f_X3_pair 34 (f_X3_operand N) (f_X3_operand N) 0 (f_X9_isOpenData (f_X3_operand N)) N := dd_16 hcc
  rw [dcd, q_op h hw]
  have ft : f_X11_fits (eB m l) 0 9 = f_X9_isOpenData (eB m l) := (fitB ⟨m, hm⟩ ⟨l, hl8⟩ ⟨0, by decide⟩).2.1
  have hl2 : f_X11_isLegal (wd 3 r d z m l) = f_X9_isOpenData (eB m l) := hlg.trans ((ll_16 (e := eB m l)).trans ft)
  refine EX_pair hw (by rw [hl2]) (by decide) (fun _ => iff_of_true rfl hpv0) (fun c D N B d0 d1 d2 d3 hR => ?_)
  have ow := odE hm hl8 c
  rw [pf_34, hpg, tt_16, one4]
  obtain ⟨s1, s2⟩ := src (m := m) (r := l) hR (by decide) ow.e d2 d1
  simp only [xb_l, if_true]
  rw [s1.d, d1]
  exact s1.test (fun e => by rw [(s2 e).2.2.1])
theorem EX_3_17 {r d z m l : Nat} {N : St} (h : wB 3 r d z m l) (hc : 8 * r + (4 * d + z) = 17) (hw : N 11 0 = wd 3 r d z m l) : EX (wd 3 r d z m l) (f_X3_ofGroupThree N) := by
  obtain ⟨_, hr, hd, hz, hm, hl8⟩ := id h
  have hlg := lg_3 h
  rw [hc] at hlg
  have hpv := pv3 h
  rw [hc] at hpv
  have hpg : ∀ B, f_X11_perform (wd 3 r d z m l) B = f_X11_three (nI 17) (eB m l) B := fun B => by rw [pg_3 h, hc]
  have hcc : (ius (N 11 0) 6) &&& 63 = nI 17 := by rw [hw, (wd_c h).1, hc]
  have hpv0 : f_X11_isPrivileged (wd 3 r d z m l) = 0 := by rw [hpv, if_neg (show ¬ nI 17 = 11 by decide), if_neg (show ¬ nI 17 = 28 by decide)]
  have dcd : f_X3_ofGroupThree N = f_X3_pair 34 (f_X3_operand N) (f_X3_operand N) 1 (f_X9_isOpenData (f_X3_operand N)) N := dd_17 hcc
  rw [dcd, q_op h hw]
  have ft : f_X11_fits (eB m l) 1 9 = f_X9_isOpenData (eB m l) := (fitB ⟨m, hm⟩ ⟨l, hl8⟩ ⟨1, by decide⟩).2.1
  have hl2 : f_X11_isLegal (wd 3 r d z m l) = f_X9_isOpenData (eB m l) := hlg.trans ((ll_17 (e := eB m l)).trans ft)
  refine EX_pair hw (by rw [hl2]) (by decide) (fun _ => iff_of_true rfl hpv0) (fun c D N B d0 d1 d2 d3 hR => ?_)
  have ow := odE hm hl8 c
  rw [pf_34, hpg, tt_17, one4]
  obtain ⟨s1, s2⟩ := src (m := m) (r := l) hR (by decide) ow.e d2 d1
  simp only [xb_l, if_true]
  rw [s1.d, d1]
  exact s1.test (fun e => by rw [(s2 e).2.2.1])
theorem EX_3_18 {r d z m l : Nat} {N : St} (h : wB 3 r d z m l) (hc : 8 * r + (4 * d + z) = 18) (hw : N 11 0 = wd 3 r d z m l) : EX (wd 3 r d z m l) (f_X3_ofGroupThree N) := by
  obtain ⟨_, hr, hd, hz, hm, hl8⟩ := id h
  have hlg := lg_3 h
  rw [hc] at hlg
  have hpv := pv3 h
  rw [hc] at hpv
  have hpg : ∀ B, f_X11_perform (wd 3 r d z m l) B = f_X11_three (nI 18) (eB m l) B := fun B => by rw [pg_3 h, hc]
  have hcc : (ius (N 11 0) 6) &&& 63 = nI 18 := by rw [hw, (wd_c h).1, hc]
  have hpv0 : f_X11_isPrivileged (wd 3 r d z m l) = 0 := by rw [hpv, if_neg (show ¬ nI 18 = 11 by decide), if_neg (show ¬ nI 18 = 28 by decide)]
  have dcd : f_X3_ofGroupThree N = f_X3_pair 34 (f_X3_operand N) (f_X3_operand N) 2 (f_X9_isOpenData (f_X3_operand N)) N := dd_18 hcc
  rw [dcd, q_op h hw]
  have ft : f_X11_fits (eB m l) 2 9 = f_X9_isOpenData (eB m l) := (fitB ⟨m, hm⟩ ⟨l, hl8⟩ ⟨2, by decide⟩).2.1
  have hl2 : f_X11_isLegal (wd 3 r d z m l) = f_X9_isOpenData (eB m l) := hlg.trans ((ll_18 (e := eB m l)).trans ft)
  refine EX_pair hw (by rw [hl2]) (by decide) (fun _ => iff_of_true rfl hpv0) (fun c D N B d0 d1 d2 d3 hR => ?_)
  have ow := odE hm hl8 c
  rw [pf_34, hpg, tt_18, one4]
  obtain ⟨s1, s2⟩ := src (m := m) (r := l) hR (by decide) ow.e d2 d1
  simp only [xb_l, if_true]
  rw [s1.d, d1]
  exact s1.test (fun e => by rw [(s2 e).2.2.1])
theorem EX_3_3 {r d z m l : Nat} {N : St} (h : wB 3 r d z m l) (hc : 8 * r + (4 * d + z) = 3) (hw : N 11 0 = wd 3 r d z m l) : EX (wd 3 r d z m l) (f_X3_ofGroupThree N) := by
  obtain ⟨_, hr, hd, hz, hm, hl8⟩ := id h
  have hlg := lg_3 h
  rw [hc] at hlg
  have hpv := pv3 h
  rw [hc] at hpv
  have hpg : ∀ B, f_X11_perform (wd 3 r d z m l) B = f_X11_three (nI 3) (eB m l) B := fun B => by rw [pg_3 h, hc]
  have hcc : (ius (N 11 0) 6) &&& 63 = nI 3 := by rw [hw, (wd_c h).1, hc]
  have hpv0 : f_X11_isPrivileged (wd 3 r d z m l) = 0 := by rw [hpv, if_neg (show ¬ nI 3 = 11 by decide), if_neg (show ¬ nI 3 = 28 by decide)]
  have dcd : f_X3_ofGroupThree N = f_X3_pair 37 (f_X3_operand N) (f_X3_operand N) 1 (f_X9_isOpenData (f_X3_operand N)) N := dd_3 hcc
  rw [dcd, q_op h hw]
  have ft : f_X11_fits (eB m l) 1 9 = f_X9_isOpenData (eB m l) := (fitB ⟨m, hm⟩ ⟨l, hl8⟩ ⟨1, by decide⟩).2.1
  have hl2 : f_X11_isLegal (wd 3 r d z m l) = f_X9_isOpenData (eB m l) := hlg.trans ((ll_3 (e := eB m l)).trans ft)
  refine EX_pair hw (by rw [hl2]) (by decide) (fun _ => iff_of_true rfl hpv0) (fun c D N B d0 d1 d2 d3 hR => ?_)
  rw [pfx_37, hpg, tt_3, g_X11_find rfl]
  refine (ovw hR (by decide) d1 d3 (odE hm hl8 c) (fun e => ?_)).1
  have := (hR.g e).s0
  rw [xup_other (by decide), xup_other (by decide)] at this
  rw [this]; exact eqM.rfl'
theorem EX_3_7 {r d z m l : Nat} {N : St} (h : wB 3 r d z m l) (hc : 8 * r + (4 * d + z) = 7) (hw : N 11 0 = wd 3 r d z m l) : EX (wd 3 r d z m l) (f_X3_ofGroupThree N) := by
  obtain ⟨_, hr, hd, hz, hm, hl8⟩ := id h
  have hlg := lg_3 h
  rw [hc] at hlg
  have hpv := pv3 h
  rw [hc] at hpv
  have hpg : ∀ B, f_X11_perform (wd 3 r d z m l) B = f_X11_three (nI 7) (eB m l) B := fun B => by rw [pg_3 h, hc]
  have hcc : (ius (N 11 0) 6) &&& 63 = nI 7 := by rw [hw, (wd_c h).1, hc]
  have hpv0 : f_X11_isPrivileged (wd 3 r d z m l) = 0 := by rw [hpv, if_neg (show ¬ nI 7 = 11 by decide), if_neg (show ¬ nI 7 = 28 by decide)]
  have dcd : f_X3_ofGroupThree N = f_X3_pair 38 (f_X3_operand N) (f_X3_operand N) 1 (f_X9_isData (f_X3_operand N)) N := dd_7 hcc
  rw [dcd, q_op h hw]
  have ft : f_X11_fits (eB m l) 1 1 = f_X9_isData (eB m l) := (fitB ⟨m, hm⟩ ⟨l, hl8⟩ ⟨1, by decide⟩).1
  have hl2 : f_X11_isLegal (wd 3 r d z m l) = f_X9_isData (eB m l) := hlg.trans ((ll_7 (e := eB m l)).trans ft)
  refine EX_pair hw (by rw [hl2]) (by decide) (fun _ => iff_of_true rfl hpv0) (fun c D N B d0 d1 d2 d3 hR => ?_)
  obtain ⟨s1, s2⟩ := src (m := m) (r := l) hR (by decide) (datE hm hl8 c).1 d2 d1
  rw [pf_38, hpg, tt_7]
  simp only [xb_l, if_true]
  rw [changeFlags_eq, st31]
  exact s1.flags (by decide) (fun e => by rw [(s2 e).2.2.1])
theorem EX_3_11 {r d z m l : Nat} {N : St} (h : wB 3 r d z m l) (hc : 8 * r + (4 * d + z) = 11) (hw : N 11 0 = wd 3 r d z m l) : EX (wd 3 r d z m l) (f_X3_ofGroupThree N) := by
  obtain ⟨_, hr, hd, hz, hm, hl8⟩ := id h
  have hlg := lg_3 h
  rw [hc] at hlg
  have hpv := pv3 h
  rw [hc] at hpv
  have hpg : ∀ B, f_X11_perform (wd 3 r d z m l) B = f_X11_three (nI 11) (eB m l) B := fun B => by rw [pg_3 h, hc]
  have hcc : (ius (N 11 0) 6) &&& 63 = nI 11 := by rw [hw, (wd_c h).1, hc]
  have hpv1 : f_X11_isPrivileged (wd 3 r d z m l) = 1 := by rw [hpv, if_pos (show nI 11 = 11 from rfl)]
  have dcd : f_X3_ofGroupThree N = f_X3_pair 39 (f_X3_operand N) (f_X3_operand N) 1 (f_X9_isData (f_X3_operand N)) N := dd_11 hcc
  rw [dcd, q_op h hw]
  have ft : f_X11_fits (eB m l) 1 1 = f_X9_isData (eB m l) := (fitB ⟨m, hm⟩ ⟨l, hl8⟩ ⟨1, by decide⟩).1
  have hl2 : f_X11_isLegal (wd 3 r d z m l) = f_X9_isData (eB m l) := hlg.trans ((ll_11 (e := eB m l)).trans ft)
  refine EX_pair hw (by rw [hl2]) (by decide) (fun _ => iff_of_false (by decide) (by rw [hpv1]; decide)) (fun c D N B d0 d1 d2 d3 hR => ?_)
  obtain ⟨s1, s2⟩ := src (m := m) (r := l) hR (by decide) (datE hm hl8 c).1 d2 d1
  rw [pf_39, hpg, tt_11]
  simp only [xb_l, if_true]
  exact changeStatus s1 (fun e => by rw [(s2 e).2.2.1])
theorem EX_3_15 {r d z m l : Nat} {N : St} (h : wB 3 r d z m l) (hc : 8 * r + (4 * d + z) = 15) (hw : N 11 0 = wd 3 r d z m l) : EX (wd 3 r d z m l) (f_X3_ofGroupThree N) := by
  obtain ⟨_, hr, hd, hz, hm, hl8⟩ := id h
  have hlg := lg_3 h
  rw [hc] at hlg
  have hpv := pv3 h
  rw [hc] at hpv
  have hpg : ∀ B, f_X11_perform (wd 3 r d z m l) B = f_X11_three (nI 15) (eB m l) B := fun B => by rw [pg_3 h, hc]
  have hcc : (ius (N 11 0) 6) &&& 63 = nI 15 := by rw [hw, (wd_c h).1, hc]
  have hpv0 : f_X11_isPrivileged (wd 3 r d z m l) = 0 := by rw [hpv, if_neg (show ¬ nI 15 = 11 by decide), if_neg (show ¬ nI 15 = 28 by decide)]
  have dcd : f_X3_ofGroupThree N = f_X3_pair 31 (f_X3_operand N) (f_X3_operand N) 0 (f_X9_isOpenData (f_X3_operand N)) N := dd_15 hcc
  rw [dcd, q_op h hw]
  have ft : f_X11_fits (eB m l) 0 9 = f_X9_isOpenData (eB m l) := (fitB ⟨m, hm⟩ ⟨l, hl8⟩ ⟨0, by decide⟩).2.1
  have hl2 : f_X11_isLegal (wd 3 r d z m l) = f_X9_isOpenData (eB m l) := hlg.trans ((ll_15 (e := eB m l)).trans ft)
  refine EX_pair hw (by rw [hl2]) (by decide) (fun _ => iff_of_true rfl hpv0) (fun c D N B d0 d1 d2 d3 hR => ?_)
  rw [pfx_31, hpg, tt_15]
  exact negT hR d1 d3 (odE hm hl8 c)
theorem EX_3_19 {r d z m l : Nat} {N : St} (h : wB 3 r d z m l) (hc : 8 * r + (4 * d + z) = 19) (hw : N 11 0 = wd 3 r d z m l) : EX (wd 3 r d z m l) (f_X3_ofGroupThree N) := by
  obtain ⟨_, hr, hd, hz, hm, hl8⟩ := id h
  have hlg := lg_3 h
  rw [hc] at hlg
  have hpv := pv3 h
  rw [hc] at hpv
  have hpg : ∀ B, f_X11_perform (wd 3 r d z m l) B = f_X11_three (nI 19) (eB m l) B := fun B => by rw [pg_3 h, hc]
  have hcc : (ius (N 11 0) 6) &&& 63 = nI 19 := by rw [hw, (wd_c h).1, hc]
  have hpv0 : f_X11_isPrivileged (wd 3 r d z m l) = 0 := by rw [hpv, if_neg (show ¬ nI 19 = 11 by decide), if_neg (show ¬ nI 19 = 28 by decide)]
  have dcd : f_X3_ofGroupThree N = f_X3_pair 35 (f_X3_operand N) (f_X3_operand N) 0 (f_X9_isOpenData (f_X3_operand N)) N := dd_19 hcc
  rw [dcd, q_op h hw]
  have ft : f_X11_fits (eB m l) 0 9 = f_X9_isOpenData (eB m l) := (fitB ⟨m, hm⟩ ⟨l, hl8⟩ ⟨0, by decide⟩).2.1
  have hl2 : f_X11_isLegal (wd 3 r d z m l) = f_X9_isOpenData (eB m l) := hlg.trans ((ll_19 (e := eB m l)).trans ft)
  refine EX_pair hw (by rw [hl2]) (by decide) (fun _ => iff_of_true rfl hpv0) (fun c D N B d0 d1 d2 d3 hR => ?_)
  rw [pfx_35, hpg, tt_19]
  exact tas hR d3 (odE hm hl8 c)
