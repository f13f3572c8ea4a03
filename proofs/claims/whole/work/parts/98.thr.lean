set_option maxHeartbeats 1000000 in
theorem EX_3_0 {r d z m l : Nat} {N : St} (h : wB 3 r d z m l) (hc : 8 * r + (4 * d + z) = 0) (hw : N 11 0 = wd 3 r d z m l) : EX (wd 3 r d z m l) (f_X3_ofGroupThree N) := by
  obtain ⟨_, hr, hd, hz, hm, hl8⟩ := id h
  have hlg := lg_3 h
  rw [hc] at hlg
  have hpv := pv3 h
  rw [hc] at hpv
  have hpg : ∀ B, f_X11_perform (wd 3 r d z m l) B = f_X11_three (nI 0) (eB m l) B := fun B => by rw [pg_3 h, hc]
  have hcc : (ius (N 11 0) 6) &&& 63 = nI 0 := by rw [hw, (wd_c h).1, hc]
  have hpv0 : f_X11_isPrivileged (wd 3 r d z m l) = 0 := hpv.trans rfl
  have dcd : f_X3_ofGroupThree N = f_X3_pair 30 (f_X3_operand N) (f_X3_operand N) 0 (f_X9_isOpenData (f_X3_operand N)) N := by
    unfold f_X3_ofGroupThree
    rw [hcc]
    rfl
  rw [dcd, q_op h hw]
  have ft : f_X11_fits (eB m l) 0 9 = f_X9_isOpenData (eB m l) := (fitB ⟨m, hm⟩ ⟨l, hl8⟩ ⟨0, by decide⟩).2.1
  have hl2 : f_X11_isLegal (wd 3 r d z m l) = f_X9_isOpenData (eB m l) := hlg.trans ((show f_X11_isLegalThree (nI 0) (eB m l) = f_X11_fits (eB m l) 0 9 from rfl).trans ft)
  refine EX_pair hw (by rw [hl2]) (by decide) (fun _ => iff_of_true rfl hpv0) (fun c D N B d0 d1 d2 d3 hR => ?_)
  have ow := odE hm hl8 c
  rw [pf_30, hpg, show f_X11_three (nI 0) (eB m l) B = f_X11_one 0 0 (eB m l) B from rfl, one0]
  exact neg2 hR (by decide) d1 d3 ow (fun b a M => cb_5 b a _ M) (Or.inr ⟨rfl, rfl⟩)
set_option maxHeartbeats 1000000 in
theorem EX_3_1 {r d z m l : Nat} {N : St} (h : wB 3 r d z m l) (hc : 8 * r + (4 * d + z) = 1) (hw : N 11 0 = wd 3 r d z m l) : EX (wd 3 r d z m l) (f_X3_ofGroupThree N) := by
  obtain ⟨_, hr, hd, hz, hm, hl8⟩ := id h
  have hlg := lg_3 h
  rw [hc] at hlg
  have hpv := pv3 h
  rw [hc] at hpv
  have hpg : ∀ B, f_X11_perform (wd 3 r d z m l) B = f_X11_three (nI 1) (eB m l) B := fun B => by rw [pg_3 h, hc]
  have hcc : (ius (N 11 0) 6) &&& 63 = nI 1 := by rw [hw, (wd_c h).1, hc]
  have hpv0 : f_X11_isPrivileged (wd 3 r d z m l) = 0 := hpv.trans rfl
  have dcd : f_X3_ofGroupThree N = f_X3_pair 30 (f_X3_operand N) (f_X3_operand N) 1 (f_X9_isOpenData (f_X3_operand N)) N := by
    unfold f_X3_ofGroupThree
    rw [hcc]
    rfl
  rw [dcd, q_op h hw]
  have ft : f_X11_fits (eB m l) 1 9 = f_X9_isOpenData (eB m l) := (fitB ⟨m, hm⟩ ⟨l, hl8⟩ ⟨1, by decide⟩).2.1
  have hl2 : f_X11_isLegal (wd 3 r d z m l) = f_X9_isOpenData (eB m l) := hlg.trans ((show f_X11_isLegalThree (nI 1) (eB m l) = f_X11_fits (eB m l) 1 9 from rfl).trans ft)
  refine EX_pair hw (by rw [hl2]) (by decide) (fun _ => iff_of_true rfl hpv0) (fun c D N B d0 d1 d2 d3 hR => ?_)
  have ow := odE hm hl8 c
  rw [pf_30, hpg, show f_X11_three (nI 1) (eB m l) B = f_X11_one 0 1 (eB m l) B from rfl, one0]
  exact neg2 hR (by decide) d1 d3 ow (fun b a M => cb_5 b a _ M) (Or.inr ⟨rfl, rfl⟩)
set_option maxHeartbeats 1000000 in
theorem EX_3_2 {r d z m l : Nat} {N : St} (h : wB 3 r d z m l) (hc : 8 * r + (4 * d + z) = 2) (hw : N 11 0 = wd 3 r d z m l) : EX (wd 3 r d z m l) (f_X3_ofGroupThree N) := by
  obtain ⟨_, hr, hd, hz, hm, hl8⟩ := id h
  have hlg := lg_3 h
  rw [hc] at hlg
  have hpv := pv3 h
  rw [hc] at hpv
  have hpg : ∀ B, f_X11_perform (wd 3 r d z m l) B = f_X11_three (nI 2) (eB m l) B := fun B => by rw [pg_3 h, hc]
  have hcc : (ius (N 11 0) 6) &&& 63 = nI 2 := by rw [hw, (wd_c h).1, hc]
  have hpv0 : f_X11_isPrivileged (wd 3 r d z m l) = 0 := hpv.trans rfl
  have dcd : f_X3_ofGroupThree N = f_X3_pair 30 (f_X3_operand N) (f_X3_operand N) 2 (f_X9_isOpenData (f_X3_operand N)) N := by
    unfold f_X3_ofGroupThree
    rw [hcc]
    rfl
  rw [dcd, q_op h hw]
  have ft : f_X11_fits (eB m l) 2 9 = f_X9_isOpenData (eB m l) := (fitB ⟨m, hm⟩ ⟨l, hl8⟩ ⟨2, by decide⟩).2.1
  have hl2 : f_X11_isLegal (wd 3 r d z m l) = f_X9_isOpenData (eB m l) := hlg.trans ((show f_X11_isLegalThree (nI 2) (eB m l) = f_X11_fits (eB m l) 2 9 from rfl).trans ft)
  refine EX_pair hw (by rw [hl2]) (by decide) (fun _ => iff_of_true rfl hpv0) (fun c D N B d0 d1 d2 d3 hR => ?_)
  have ow := odE hm hl8 c
  rw [pf_30, hpg, show f_X11_three (nI 2) (eB m l) B = f_X11_one 0 2 (eB m l) B from rfl, one0]
  exact neg2 hR (by decide) d1 d3 ow (fun b a M => cb_5 b a _ M) (Or.inr ⟨rfl, rfl⟩)
set_option maxHeartbeats 1000000 in
theorem EX_3_4 {r d z m l : Nat} {N : St} (h : wB 3 r d z m l) (hc : 8 * r + (4 * d + z) = 4) (hw : N 11 0 = wd 3 r d z m l) : EX (wd 3 r d z m l) (f_X3_ofGroupThree N) := by
  obtain ⟨_, hr, hd, hz, hm, hl8⟩ := id h
  have hlg := lg_3 h
  rw [hc] at hlg
  have hpv := pv3 h
  rw [hc] at hpv
  have hpg : ∀ B, f_X11_perform (wd 3 r d z m l) B = f_X11_three (nI 4) (eB m l) B := fun B => by rw [pg_3 h, hc]
  have hcc : (ius (N 11 0) 6) &&& 63 = nI 4 := by rw [hw, (wd_c h).1, hc]
  have hpv0 : f_X11_isPrivileged (wd 3 r d z m l) = 0 := hpv.trans rfl
  have dcd : f_X3_ofGroupThree N = f_X3_pair 32 (f_X3_operand N) (f_X3_operand N) 0 (f_X9_isOpenData (f_X3_operand N)) N := by
    unfold f_X3_ofGroupThree
    rw [hcc]
    rfl
  rw [dcd, q_op h hw]
  have ft : f_X11_fits (eB m l) 0 9 = f_X9_isOpenData (eB m l) := (fitB ⟨m, hm⟩ ⟨l, hl8⟩ ⟨0, by decide⟩).2.1
  have hl2 : f_X11_isLegal (wd 3 r d z m l) = f_X9_isOpenData (eB m l) := hlg.trans ((show f_X11_isLegalThree (nI 4) (eB m l) = f_X11_fits (eB m l) 0 9 from rfl).trans ft)
  refine EX_pair hw (by rw [hl2]) (by decide) (fun _ => iff_of_true rfl hpv0) (fun c D N B d0 d1 d2 d3 hR => ?_)
  have ow := odE hm hl8 c
  rw [pf_32, hpg, show f_X11_three (nI 4) (eB m l) B = f_X11_one 1 0 (eB m l) B from rfl, one1]
  rw [n11 hR, d1]
  exact ovwT hR (by decide) d1 d3 ow (v := 0) (v' := 0) (fun _ => eqM.rfl')
set_option maxHeartbeats 1000000 in
theorem EX_3_5 {r d z m l : Nat} {N : St} (h : wB 3 r d z m l) (hc : 8 * r + (4 * d + z) = 5) (hw : N 11 0 = wd 3 r d z m l) : EX (wd 3 r d z m l) (f_X3_ofGroupThree N) := by
  obtain ⟨_, hr, hd, hz, hm, hl8⟩ := id h
  have hlg := lg_3 h
  rw [hc] at hlg
  have hpv := pv3 h
  rw [hc] at hpv
  have hpg : ∀ B, f_X11_perform (wd 3 r d z m l) B = f_X11_three (nI 5) (eB m l) B := fun B => by rw [pg_3 h, hc]
  have hcc : (ius (N 11 0) 6) &&& 63 = nI 5 := by rw [hw, (wd_c h).1, hc]
  have hpv0 : f_X11_isPrivileged (wd 3 r d z m l) = 0 := hpv.trans rfl
  have dcd : f_X3_ofGroupThree N = f_X3_pair 32 (f_X3_operand N) (f_X3_operand N) 1 (f_X9_isOpenData (f_X3_operand N)) N := by
    unfold f_X3_ofGroupThree
    rw [hcc]
    rfl
  rw [dcd, q_op h hw]
  have ft : f_X11_fits (eB m l) 1 9 = f_X9_isOpenData (eB m l) := (fitB ⟨m, hm⟩ ⟨l, hl8⟩ ⟨1, by decide⟩).2.1
  have hl2 : f_X11_isLegal (wd 3 r d z m l) = f_X9_isOpenData (eB m l) := hlg.trans ((show f_X11_isLegalThree (nI 5) (eB m l) = f_X11_fits (eB m l) 1 9 from rfl).trans ft)
  refine EX_pair hw (by rw [hl2]) (by decide) (fun _ => iff_of_true rfl hpv0) (fun c D N B d0 d1 d2 d3 hR => ?_)
  have ow := odE hm hl8 c
  rw [pf_32, hpg, show f_X11_three (nI 5) (eB m l) B = f_X11_one 1 1 (eB m l) B from rfl, one1]
  rw [n11 hR, d1]
  exact ovwT hR (by decide) d1 d3 ow (v := 0) (v' := 0) (fun _ => eqM.rfl')
set_option maxHeartbeats 1000000 in
theorem EX_3_6 {r d z m l : Nat} {N : St} (h : wB 3 r d z m l) (hc : 8 * r + (4 * d + z) = 6) (hw : N 11 0 = wd 3 r d z m l) : EX (wd 3 r d z m l) (f_X3_ofGroupThree N) := by
  obtain ⟨_, hr, hd, hz, hm, hl8⟩ := id h
  have hlg := lg_3 h
  rw [hc] at hlg
  have hpv := pv3 h
  rw [hc] at hpv
  have hpg : ∀ B, f_X11_perform (wd 3 r d z m l) B = f_X11_three (nI 6) (eB m l) B := fun B => by rw [pg_3 h, hc]
  have hcc : (ius (N 11 0) 6) &&& 63 = nI 6 := by rw [hw, (wd_c h).1, hc]
  have hpv0 : f_X11_isPrivileged (wd 3 r d z m l) = 0 := hpv.trans rfl
  have dcd : f_X3_ofGroupThree N = f_X3_pair 32 (f_X3_operand N) (f_X3_operand N) 2 (f_X9_isOpenData (f_X3_operand N)) N := by
    unfold f_X3_ofGroupThree
    rw [hcc]
    rfl
  rw [dcd, q_op h hw]
  have ft : f_X11_fits (eB m l) 2 9 = f_X9_isOpenData (eB m l) := (fitB ⟨m, hm⟩ ⟨l, hl8⟩ ⟨2, by decide⟩).2.1
  have hl2 : f_X11_isLegal (wd 3 r d z m l) = f_X9_isOpenData (eB m l) := hlg.trans ((show f_X11_isLegalThree (nI 6) (eB m l) = f_X11_fits (eB m l) 2 9 from rfl).trans ft)
  refine EX_pair hw (by rw [hl2]) (by decide) (fun _ => iff_of_true rfl hpv0) (fun c D N B d0 d1 d2 d3 hR => ?_)
  have ow := odE hm hl8 c
  rw [pf_32, hpg, show f_X11_three (nI 6) (eB m l) B = f_X11_one 1 2 (eB m l) B from rfl, one1]
  rw [n11 hR, d1]
  exact ovwT hR (by decide) d1 d3 ow (v := 0) (v' := 0) (fun _ => eqM.rfl')
set_option maxHeartbeats 1000000 in
theorem EX_3_8 {r d z m l : Nat} {N : St} (h : wB 3 r d z m l) (hc : 8 * r + (4 * d + z) = 8) (hw : N 11 0 = wd 3 r d z m l) : EX (wd 3 r d z m l) (f_X3_ofGroupThree N) := by
  obtain ⟨_, hr, hd, hz, hm, hl8⟩ := id h
  have hlg := lg_3 h
  rw [hc] at hlg
  have hpv := pv3 h
  rw [hc] at hpv
  have hpg : ∀ B, f_X11_perform (wd 3 r d z m l) B = f_X11_three (nI 8) (eB m l) B := fun B => by rw [pg_3 h, hc]
  have hcc : (ius (N 11 0) 6) &&& 63 = nI 8 := by rw [hw, (wd_c h).1, hc]
  have hpv0 : f_X11_isPrivileged (wd 3 r d z m l) = 0 := hpv.trans rfl
  have dcd : f_X3_ofGroupThree N = f_X3_pair 29 (f_X3_operand N) (f_X3_operand N) 0 (f_X9_isOpenData (f_X3_operand N)) N := by
    unfold f_X3_ofGroupThree
    rw [hcc]
    rfl
  rw [dcd, q_op h hw]
  have ft : f_X11_fits (eB m l) 0 9 = f_X9_isOpenData (eB m l) := (fitB ⟨m, hm⟩ ⟨l, hl8⟩ ⟨0, by decide⟩).2.1
  have hl2 : f_X11_isLegal (wd 3 r d z m l) = f_X9_isOpenData (eB m l) := hlg.trans ((show f_X11_isLegalThree (nI 8) (eB m l) = f_X11_fits (eB m l) 0 9 from rfl).trans ft)
  refine EX_pair hw (by rw [hl2]) (by decide) (fun _ => iff_of_true rfl hpv0) (fun c D N B d0 d1 d2 d3 hR => ?_)
  have ow := odE hm hl8 c
  rw [pf_29, hpg, show f_X11_three (nI 8) (eB m l) B = f_X11_one 2 0 (eB m l) B from rfl, one2]
  exact neg2 hR (by decide) d1 d3 ow (fun b a M => cb_4 b a _ M) (Or.inl ⟨rfl, rfl⟩)
set_option maxHeartbeats 1000000 in
theorem EX_3_9 {r d z m l : Nat} {N : St} (h : wB 3 r d z m l) (hc : 8 * r + (4 * d + z) = 9) (hw : N 11 0 = wd 3 r d z m l) : EX (wd 3 r d z m l) (f_X3_ofGroupThree N) := by
  obtain ⟨_, hr, hd, hz, hm, hl8⟩ := id h
  have hlg := lg_3 h
  rw [hc] at hlg
  have hpv := pv3 h
  rw [hc] at hpv
  have hpg : ∀ B, f_X11_perform (wd 3 r d z m l) B = f_X11_three (nI 9) (eB m l) B := fun B => by rw [pg_3 h, hc]
  have hcc : (ius (N 11 0) 6) &&& 63 = nI 9 := by rw [hw, (wd_c h).1, hc]
  have hpv0 : f_X11_isPrivileged (wd 3 r d z m l) = 0 := hpv.trans rfl
  have dcd : f_X3_ofGroupThree N = f_X3_pair 29 (f_X3_operand N) (f_X3_operand N) 1 (f_X9_isOpenData (f_X3_operand N)) N := by
    unfold f_X3_ofGroupThree
    rw [hcc]
    rfl
  rw [dcd, q_op h hw]
  have ft : f_X11_fits (eB m l) 1 9 = f_X9_isOpenData (eB m l) := (fitB ⟨m, hm⟩ ⟨l, hl8⟩ ⟨1, by decide⟩).2.1
  have hl2 : f_X11_isLegal (wd 3 r d z m l) = f_X9_isOpenData (eB m l) := hlg.trans ((show f_X11_isLegalThree (nI 9) (eB m l) = f_X11_fits (eB m l) 1 9 from rfl).trans ft)
  refine EX_pair hw (by rw [hl2]) (by decide) (fun _ => iff_of_true rfl hpv0) (fun c D N B d0 d1 d2 d3 hR => ?_)
  have ow := odE hm hl8 c
  rw [pf_29, hpg, show f_X11_three (nI 9) (eB m l) B = f_X11_one 2 1 (eB m l) B from rfl, one2]
  exact neg2 hR (by decide) d1 d3 ow (fun b a M => cb_4 b a _ M) (Or.inl ⟨rfl, rfl⟩)
set_option maxHeartbeats 1000000 in
theorem EX_3_10 {r d z m l : Nat} {N : St} (h : wB 3 r d z m l) (hc : 8 * r + (4 * d + z) = 10) (hw : N 11 0 = wd 3 r d z m l) : EX (wd 3 r d z m l) (f_X3_ofGroupThree N) := by
  obtain ⟨_, hr, hd, hz, hm, hl8⟩ := id h
  have hlg := lg_3 h
  rw [hc] at hlg
  have hpv := pv3 h
  rw [hc] at hpv
  have hpg : ∀ B, f_X11_perform (wd 3 r d z m l) B = f_X11_three (nI 10) (eB m l) B := fun B => by rw [pg_3 h, hc]
  have hcc : (ius (N 11 0) 6) &&& 63 = nI 10 := by rw [hw, (wd_c h).1, hc]
  have hpv0 : f_X11_isPrivileged (wd 3 r d z m l) = 0 := hpv.trans rfl
  have dcd : f_X3_ofGroupThree N = f_X3_pair 29 (f_X3_operand N) (f_X3_operand N) 2 (f_X9_isOpenData (f_X3_operand N)) N := by
    unfold f_X3_ofGroupThree
    rw [hcc]
    rfl
  rw [dcd, q_op h hw]
  have ft : f_X11_fits (eB m l) 2 9 = f_X9_isOpenData (eB m l) := (fitB ⟨m, hm⟩ ⟨l, hl8⟩ ⟨2, by decide⟩).2.1
  have hl2 : f_X11_isLegal (wd 3 r d z m l) = f_X9_isOpenData (eB m l) := hlg.trans ((show f_X11_isLegalThree (nI 10) (eB m l) = f_X11_fits (eB m l) 2 9 from rfl).trans ft)
  refine EX_pair hw (by rw [hl2]) (by decide) (fun _ => iff_of_true rfl hpv0) (fun c D N B d0 d1 d2 d3 hR => ?_)
  have ow := odE hm hl8 c
  rw [pf_29, hpg, show f_X11_three (nI 10) (eB m l) B = f_X11_one 2 2 (eB m l) B from rfl, one2]
  exact neg2 hR (by decide) d1 d3 ow (fun b a M => cb_4 b a _ M) (Or.inl ⟨rfl, rfl⟩)
set_option maxHeartbeats 1000000 in
theorem EX_3_12 {r d z m l : Nat} {N : St} (h : wB 3 r d z m l) (hc : 8 * r + (4 * d + z) = 12) (hw : N 11 0 = wd 3 r d z m l) : EX (wd 3 r d z m l) (f_X3_ofGroupThree N) := by
  obtain ⟨_, hr, hd, hz, hm, hl8⟩ := id h
  have hlg := lg_3 h
  rw [hc] at hlg
  have hpv := pv3 h
  rw [hc] at hpv
  have hpg : ∀ B, f_X11_perform (wd 3 r d z m l) B = f_X11_three (nI 12) (eB m l) B := fun B => by rw [pg_3 h, hc]
  have hcc : (ius (N 11 0) 6) &&& 63 = nI 12 := by rw [hw, (wd_c h).1, hc]
  have hpv0 : f_X11_isPrivileged (wd 3 r d z m l) = 0 := hpv.trans rfl
  have dcd : f_X3_ofGroupThree N = f_X3_pair 33 (f_X3_operand N) (f_X3_operand N) 0 (f_X9_isOpenData (f_X3_operand N)) N := by
    unfold f_X3_ofGroupThree
    rw [hcc]
    rfl
  rw [dcd, q_op h hw]
  have ft : f_X11_fits (eB m l) 0 9 = f_X9_isOpenData (eB m l) := (fitB ⟨m, hm⟩ ⟨l, hl8⟩ ⟨0, by decide⟩).2.1
  have hl2 : f_X11_isLegal (wd 3 r d z m l) = f_X9_isOpenData (eB m l) := hlg.trans ((show f_X11_isLegalThree (nI 12) (eB m l) = f_X11_fits (eB m l) 0 9 from rfl).trans ft)
  refine EX_pair hw (by rw [hl2]) (by decide) (fun _ => iff_of_true rfl hpv0) (fun c D N B d0 d1 d2 d3 hR => ?_)
  have ow := odE hm hl8 c
  rw [pf_33, hpg, show f_X11_three (nI 12) (eB m l) B = f_X11_one 3 0 (eB m l) B from rfl, one3]
  exact trn hR (by decide) d1 d3 ow
set_option maxHeartbeats 1000000 in
theorem EX_3_13 {r d z m l : Nat} {N : St} (h : wB 3 r d z m l) (hc : 8 * r + (4 * d + z) = 13) (hw : N 11 0 = wd 3 r d z m l) : EX (wd 3 r d z m l) (f_X3_ofGroupThree N) := by
  obtain ⟨_, hr, hd, hz, hm, hl8⟩ := id h
  have hlg := lg_3 h
  rw [hc] at hlg
  have hpv := pv3 h
  rw [hc] at hpv
  have hpg : ∀ B, f_X11_perform (wd 3 r d z m l) B = f_X11_three (nI 13) (eB m l) B := fun B => by rw [pg_3 h, hc]
  have hcc : (ius (N 11 0) 6) &&& 63 = nI 13 := by rw [hw, (wd_c h).1, hc]
  have hpv0 : f_X11_isPrivileged (wd 3 r d z m l) = 0 := hpv.trans rfl
  have dcd : f_X3_ofGroupThree N = f_X3_pair 33 (f_X3_operand N) (f_X3_operand N) 1 (f_X9_isOpenData (f_X3_operand N)) N := by
    unfold f_X3_ofGroupThree
    rw [hcc]
    rfl
  rw [dcd, q_op h hw]
  have ft : f_X11_fits (eB m l) 1 9 = f_X9_isOpenData (eB m l) := (fitB ⟨m, hm⟩ ⟨l, hl8⟩ ⟨1, by decide⟩).2.1
  have hl2 : f_X11_isLegal (wd 3 r d z m l) = f_X9_isOpenData (eB m l) := hlg.trans ((show f_X11_isLegalThree (nI 13) (eB m l) = f_X11_fits (eB m l) 1 9 from rfl).trans ft)
  refine EX_pair hw (by rw [hl2]) (by decide) (fun _ => iff_of_true rfl hpv0) (fun c D N B d0 d1 d2 d3 hR => ?_)
  have ow := odE hm hl8 c
  rw [pf_33, hpg, show f_X11_three (nI 13) (eB m l) B = f_X11_one 3 1 (eB m l) B from rfl, one3]
  exact trn hR (by decide) d1 d3 ow
set_option maxHeartbeats 1000000 in
theorem EX_3_14 {r d z m l : Nat} {N : St} (h : wB 3 r d z m l) (hc : 8 * r + (4 * d + z) = 14) (hw : N 11 0 = wd 3 r d z m l) : EX (wd 3 r d z m l) (f_X3_ofGroupThree N) := by
  obtain ⟨_, hr, hd, hz, hm, hl8⟩ := id h
  have hlg := lg_3 h
  rw [hc] at hlg
  have hpv := pv3 h
  rw [hc] at hpv
  have hpg : ∀ B, f_X11_perform (wd 3 r d z m l) B = f_X11_three (nI 14) (eB m l) B := fun B => by rw [pg_3 h, hc]
  have hcc : (ius (N 11 0) 6) &&& 63 = nI 14 := by rw [hw, (wd_c h).1, hc]
  have hpv0 : f_X11_isPrivileged (wd 3 r d z m l) = 0 := hpv.trans rfl
  have dcd : f_X3_ofGroupThree N = f_X3_pair 33 (f_X3_operand N) (f_X3_operand N) 2 (f_X9_isOpenData (f_X3_operand N)) N := by
    unfold f_X3_ofGroupThree
    rw [hcc]
    rfl
  rw [dcd, q_op h hw]
  have ft : f_X11_fits (eB m l) 2 9 = f_X9_isOpenData (eB m l) := (fitB ⟨m, hm⟩ ⟨l, hl8⟩ ⟨2, by decide⟩).2.1
  have hl2 : f_X11_isLegal (wd 3 r d z m l) = f_X9_isOpenData (eB m l) := hlg.trans ((show f_X11_isLegalThree (nI 14) (eB m l) = f_X11_fits (eB m l) 2 9 from rfl).trans ft)
  refine EX_pair hw (by rw [hl2]) (by decide) (fun _ => iff_of_true rfl hpv0) (fun c D N B d0 d1 d2 d3 hR => ?_)
  have ow := odE hm hl8 c
  rw [pf_33, hpg, show f_X11_three (nI 14) (eB m l) B = f_X11_one 3 2 (eB m l) B from rfl, one3]
  exact trn hR (by decide) d1 d3 ow
set_option maxHeartbeats 1000000 in
theorem EX_3_16 {r d z m l : Nat} {N : St} (h : wB 3 r d z m l) (hc : 8 * r + (4 * d + z) = 16) (hw : N 11 0 = wd 3 r d z m l) : EX (wd 3 r d z m l) (f_X3_ofGroupThree N) := by
  obtain ⟨_, hr, hd, hz, hm, hl8⟩ := id h
  have hlg := lg_3 h
  rw [hc] at hlg
  have hpv := pv3 h
  rw [hc] at hpv
  have hpg : ∀ B, f_X11_perform (wd 3 r d z m l) B = f_X11_three (nI 16) (eB m l) B := fun B => by rw [pg_3 h, hc]
  have hcc : (ius (N 11 0) 6) &&& 63 = nI 16 := by rw [hw, (wd_c h).1, hc]
  have hpv0 : f_X11_isPrivileged (wd 3 r d z m l) = 0 := hpv.trans rfl
  have dcd : f_X3_ofGroupThree N = f_X3_pair 34 (f_X3_operand N) (f_X3_operand N) 0 (f_X9_isOpenData (f_X3_operand N)) N := by
    unfold f_X3_ofGroupThree
    rw [hcc]
    rfl
  rw [dcd, q_op h hw]
  have ft : f_X11_fits (eB m l) 0 9 = f_X9_isOpenData (eB m l) := (fitB ⟨m, hm⟩ ⟨l, hl8⟩ ⟨0, by decide⟩).2.1
  have hl2 : f_X11_isLegal (wd 3 r d z m l) = f_X9_isOpenData (eB m l) := hlg.trans ((show f_X11_isLegalThree (nI 16) (eB m l) = f_X11_fits (eB m l) 0 9 from rfl).trans ft)
  refine EX_pair hw (by rw [hl2]) (by decide) (fun _ => iff_of_true rfl hpv0) (fun c D N B d0 d1 d2 d3 hR => ?_)
  have ow := odE hm hl8 c
  rw [pf_34, hpg, show f_X11_three (nI 16) (eB m l) B = f_X11_one 4 0 (eB m l) B from rfl, one4]
  obtain ⟨s1, s2⟩ := src (m := m) (r := l) hR (by decide) ow.e d2 d1
  simp only [xb_l, if_true]
  rw [s1.d, d1]
  exact s1.test (fun e => by rw [(s2 e).2.2.1])
set_option maxHeartbeats 1000000 in
theorem EX_3_17 {r d z m l : Nat} {N : St} (h : wB 3 r d z m l) (hc : 8 * r + (4 * d + z) = 17) (hw : N 11 0 = wd 3 r d z m l) : EX (wd 3 r d z m l) (f_X3_ofGroupThree N) := by
  obtain ⟨_, hr, hd, hz, hm, hl8⟩ := id h
  have hlg := lg_3 h
  rw [hc] at hlg
  have hpv := pv3 h
  rw [hc] at hpv
  have hpg : ∀ B, f_X11_perform (wd 3 r d z m l) B = f_X11_three (nI 17) (eB m l) B := fun B => by rw [pg_3 h, hc]
  have hcc : (ius (N 11 0) 6) &&& 63 = nI 17 := by rw [hw, (wd_c h).1, hc]
  have hpv0 : f_X11_isPrivileged (wd 3 r d z m l) = 0 := hpv.trans rfl
  have dcd : f_X3_ofGroupThree N = f_X3_pair 34 (f_X3_operand N) (f_X3_operand N) 1 (f_X9_isOpenData (f_X3_operand N)) N := by
    unfold f_X3_ofGroupThree
    rw [hcc]
    rfl
  rw [dcd, q_op h hw]
  have ft : f_X11_fits (eB m l) 1 9 = f_X9_isOpenData (eB m l) := (fitB ⟨m, hm⟩ ⟨l, hl8⟩ ⟨1, by decide⟩).2.1
  have hl2 : f_X11_isLegal (wd 3 r d z m l) = f_X9_isOpenData (eB m l) := hlg.trans ((show f_X11_isLegalThree (nI 17) (eB m l) = f_X11_fits (eB m l) 1 9 from rfl).trans ft)
  refine EX_pair hw (by rw [hl2]) (by decide) (fun _ => iff_of_true rfl hpv0) (fun c D N B d0 d1 d2 d3 hR => ?_)
  have ow := odE hm hl8 c
  rw [pf_34, hpg, show f_X11_three (nI 17) (eB m l) B = f_X11_one 4 1 (eB m l) B from rfl, one4]
  obtain ⟨s1, s2⟩ := src (m := m) (r := l) hR (by decide) ow.e d2 d1
  simp only [xb_l, if_true]
  rw [s1.d, d1]
  exact s1.test (fun e => by rw [(s2 e).2.2.1])
set_option maxHeartbeats 1000000 in
theorem EX_3_18 {r d z m l : Nat} {N : St} (h : wB 3 r d z m l) (hc : 8 * r + (4 * d + z) = 18) (hw : N 11 0 = wd 3 r d z m l) : EX (wd 3 r d z m l) (f_X3_ofGroupThree N) := by
  obtain ⟨_, hr, hd, hz, hm, hl8⟩ := id h
  have hlg := lg_3 h
  rw [hc] at hlg
  have hpv := pv3 h
  rw [hc] at hpv
  have hpg : ∀ B, f_X11_perform (wd 3 r d z m l) B = f_X11_three (nI 18) (eB m l) B := fun B => by rw [pg_3 h, hc]
  have hcc : (ius (N 11 0) 6) &&& 63 = nI 18 := by rw [hw, (wd_c h).1, hc]
  have hpv0 : f_X11_isPrivileged (wd 3 r d z m l) = 0 := hpv.trans rfl
  have dcd : f_X3_ofGroupThree N = f_X3_pair 34 (f_X3_operand N) (f_X3_operand N) 2 (f_X9_isOpenData (f_X3_operand N)) N := by
    unfold f_X3_ofGroupThree
    rw [hcc]
    rfl
  rw [dcd, q_op h hw]
  have ft : f_X11_fits (eB m l) 2 9 = f_X9_isOpenData (eB m l) := (fitB ⟨m, hm⟩ ⟨l, hl8⟩ ⟨2, by decide⟩).2.1
  have hl2 : f_X11_isLegal (wd 3 r d z m l) = f_X9_isOpenData (eB m l) := hlg.trans ((show f_X11_isLegalThree (nI 18) (eB m l) = f_X11_fits (eB m l) 2 9 from rfl).trans ft)
  refine EX_pair hw (by rw [hl2]) (by decide) (fun _ => iff_of_true rfl hpv0) (fun c D N B d0 d1 d2 d3 hR => ?_)
  have ow := odE hm hl8 c
  rw [pf_34, hpg, show f_X11_three (nI 18) (eB m l) B = f_X11_one 4 2 (eB m l) B from rfl, one4]
  obtain ⟨s1, s2⟩ := src (m := m) (r := l) hR (by decide) ow.e d2 d1
  simp only [xb_l, if_true]
  rw [s1.d, d1]
  exact s1.test (fun e => by rw [(s2 e).2.2.1])
set_option maxHeartbeats 1000000 in
theorem EX_3_3 {r d z m l : Nat} {N : St} (h : wB 3 r d z m l) (hc : 8 * r + (4 * d + z) = 3) (hw : N 11 0 = wd 3 r d z m l) : EX (wd 3 r d z m l) (f_X3_ofGroupThree N) := by
  obtain ⟨_, hr, hd, hz, hm, hl8⟩ := id h
  have hlg := lg_3 h
  rw [hc] at hlg
  have hpv := pv3 h
  rw [hc] at hpv
  have hpg : ∀ B, f_X11_perform (wd 3 r d z m l) B = f_X11_three (nI 3) (eB m l) B := fun B => by rw [pg_3 h, hc]
  have hcc : (ius (N 11 0) 6) &&& 63 = nI 3 := by rw [hw, (wd_c h).1, hc]
  have hpv0 : f_X11_isPrivileged (wd 3 r d z m l) = 0 := hpv.trans rfl
  have dcd : f_X3_ofGroupThree N = f_X3_pair 37 (f_X3_operand N) (f_X3_operand N) 1 (f_X9_isOpenData (f_X3_operand N)) N := by
    unfold f_X3_ofGroupThree
    rw [hcc]
    rfl
  rw [dcd, q_op h hw]
  have ft : f_X11_fits (eB m l) 1 9 = f_X9_isOpenData (eB m l) := (fitB ⟨m, hm⟩ ⟨l, hl8⟩ ⟨1, by decide⟩).2.1
  have hl2 : f_X11_isLegal (wd 3 r d z m l) = f_X9_isOpenData (eB m l) := hlg.trans ((show f_X11_isLegalThree (nI 3) (eB m l) = f_X11_fits (eB m l) 1 9 from rfl).trans ft)
  refine EX_pair hw (by rw [hl2]) (by decide) (fun _ => iff_of_true rfl hpv0) (fun c D N B d0 d1 d2 d3 hR => ?_)
  rw [pf_37, hpg, show f_X11_three (nI 3) (eB m l) B = f_X11_store 1 ((f_X11_find (eB m l) 1 B) 14 2) (f_X11_find (eB m l) 1 B) from rfl, g_X11_find rfl]
  refine (ovw hR (by decide) d1 d3 (odE hm hl8 c) (fun e => ?_)).1
  have := (hR.g e).s0
  rw [xup_other (by decide), xup_other (by decide)] at this
  rw [this]; exact eqM.rfl'
set_option maxHeartbeats 1000000 in
theorem EX_3_7 {r d z m l : Nat} {N : St} (h : wB 3 r d z m l) (hc : 8 * r + (4 * d + z) = 7) (hw : N 11 0 = wd 3 r d z m l) : EX (wd 3 r d z m l) (f_X3_ofGroupThree N) := by
  obtain ⟨_, hr, hd, hz, hm, hl8⟩ := id h
  have hlg := lg_3 h
  rw [hc] at hlg
  have hpv := pv3 h
  rw [hc] at hpv
  have hpg : ∀ B, f_X11_perform (wd 3 r d z m l) B = f_X11_three (nI 7) (eB m l) B := fun B => by rw [pg_3 h, hc]
  have hcc : (ius (N 11 0) 6) &&& 63 = nI 7 := by rw [hw, (wd_c h).1, hc]
  have hpv0 : f_X11_isPrivileged (wd 3 r d z m l) = 0 := hpv.trans rfl
  have dcd : f_X3_ofGroupThree N = f_X3_pair 38 (f_X3_operand N) (f_X3_operand N) 1 (f_X9_isData (f_X3_operand N)) N := by
    unfold f_X3_ofGroupThree
    rw [hcc]
    rfl
  rw [dcd, q_op h hw]
  have ft : f_X11_fits (eB m l) 1 1 = f_X9_isData (eB m l) := (fitB ⟨m, hm⟩ ⟨l, hl8⟩ ⟨1, by decide⟩).1
  have hl2 : f_X11_isLegal (wd 3 r d z m l) = f_X9_isData (eB m l) := hlg.trans ((show f_X11_isLegalThree (nI 7) (eB m l) = f_X11_fits (eB m l) 1 1 from rfl).trans ft)
  refine EX_pair hw (by rw [hl2]) (by decide) (fun _ => iff_of_true rfl hpv0) (fun c D N B d0 d1 d2 d3 hR => ?_)
  obtain ⟨s1, s2⟩ := src (m := m) (r := l) hR (by decide) (datE hm hl8 c).1 d2 d1
  rw [pf_38, hpg, show f_X11_three (nI 7) (eB m l) B = xup (f_X11_loadAt (eB m l) 1 B).2 14 2 ((((f_X11_loadAt (eB m l) 1 B).2 14 2) &&& (-32)) ||| ((f_X11_loadAt (eB m l) 1 B).1 &&& 31)) from rfl]
  simp only [xb_l, if_true]
  rw [changeFlags_eq, st31]
  exact s1.flags (by decide) (fun e => by rw [(s2 e).2.2.1])
set_option maxHeartbeats 1000000 in
theorem EX_3_11 {r d z m l : Nat} {N : St} (h : wB 3 r d z m l) (hc : 8 * r + (4 * d + z) = 11) (hw : N 11 0 = wd 3 r d z m l) : EX (wd 3 r d z m l) (f_X3_ofGroupThree N) := by
  obtain ⟨_, hr, hd, hz, hm, hl8⟩ := id h
  have hlg := lg_3 h
  rw [hc] at hlg
  have hpv := pv3 h
  rw [hc] at hpv
  have hpg : ∀ B, f_X11_perform (wd 3 r d z m l) B = f_X11_three (nI 11) (eB m l) B := fun B => by rw [pg_3 h, hc]
  have hcc : (ius (N 11 0) 6) &&& 63 = nI 11 := by rw [hw, (wd_c h).1, hc]
  have hpv1 : f_X11_isPrivileged (wd 3 r d z m l) = 1 := hpv.trans rfl
  have dcd : f_X3_ofGroupThree N = f_X3_pair 39 (f_X3_operand N) (f_X3_operand N) 1 (f_X9_isData (f_X3_operand N)) N := by
    unfold f_X3_ofGroupThree
    rw [hcc]
    rfl
  rw [dcd, q_op h hw]
  have ft : f_X11_fits (eB m l) 1 1 = f_X9_isData (eB m l) := (fitB ⟨m, hm⟩ ⟨l, hl8⟩ ⟨1, by decide⟩).1
  have hl2 : f_X11_isLegal (wd 3 r d z m l) = f_X9_isData (eB m l) := hlg.trans ((show f_X11_isLegalThree (nI 11) (eB m l) = f_X11_fits (eB m l) 1 1 from rfl).trans ft)
  refine EX_pair hw (by rw [hl2]) (by decide) (fun _ => iff_of_false (by decide) (by rw [hpv1]; decide)) (fun c D N B d0 d1 d2 d3 hR => ?_)
  obtain ⟨s1, s2⟩ := src (m := m) (r := l) hR (by decide) (datE hm hl8 c).1 d2 d1
  rw [pf_39, hpg, show f_X11_three (nI 11) (eB m l) B = f_X11_setStatus (f_X11_loadAt (eB m l) 1 B).1 (f_X11_loadAt (eB m l) 1 B).2 from rfl]
  simp only [xb_l, if_true]
  exact changeStatus s1 (fun e => by rw [(s2 e).2.2.1])
set_option maxHeartbeats 1000000 in
theorem EX_3_15 {r d z m l : Nat} {N : St} (h : wB 3 r d z m l) (hc : 8 * r + (4 * d + z) = 15) (hw : N 11 0 = wd 3 r d z m l) : EX (wd 3 r d z m l) (f_X3_ofGroupThree N) := by
  obtain ⟨_, hr, hd, hz, hm, hl8⟩ := id h
  have hlg := lg_3 h
  rw [hc] at hlg
  have hpv := pv3 h
  rw [hc] at hpv
  have hpg : ∀ B, f_X11_perform (wd 3 r d z m l) B = f_X11_three (nI 15) (eB m l) B := fun B => by rw [pg_3 h, hc]
  have hcc : (ius (N 11 0) 6) &&& 63 = nI 15 := by rw [hw, (wd_c h).1, hc]
  have hpv0 : f_X11_isPrivileged (wd 3 r d z m l) = 0 := hpv.trans rfl
  have dcd : f_X3_ofGroupThree N = f_X3_pair 31 (f_X3_operand N) (f_X3_operand N) 0 (f_X9_isOpenData (f_X3_operand N)) N := by
    unfold f_X3_ofGroupThree
    rw [hcc]
    rfl
  rw [dcd, q_op h hw]
  have ft : f_X11_fits (eB m l) 0 9 = f_X9_isOpenData (eB m l) := (fitB ⟨m, hm⟩ ⟨l, hl8⟩ ⟨0, by decide⟩).2.1
  have hl2 : f_X11_isLegal (wd 3 r d z m l) = f_X9_isOpenData (eB m l) := hlg.trans ((show f_X11_isLegalThree (nI 15) (eB m l) = f_X11_fits (eB m l) 0 9 from rfl).trans ft)
  refine EX_pair hw (by rw [hl2]) (by decide) (fun _ => iff_of_true rfl hpv0) (fun c D N B d0 d1 d2 d3 hR => ?_)
  rw [pf_31, hpg, show f_X11_three (nI 15) (eB m l) B = f_X11_store 0 (f_X11_tens (f_X11_loadAt (eB m l) 0 B).1 0 1 (f_X11_loadAt (eB m l) 0 B).2).1 (f_X11_tens (f_X11_loadAt (eB m l) 0 B).1 0 1 (f_X11_loadAt (eB m l) 0 B).2).2 from rfl]
  exact negT hR d1 d3 (odE hm hl8 c)
set_option maxHeartbeats 1000000 in
theorem EX_3_19 {r d z m l : Nat} {N : St} (h : wB 3 r d z m l) (hc : 8 * r + (4 * d + z) = 19) (hw : N 11 0 = wd 3 r d z m l) : EX (wd 3 r d z m l) (f_X3_ofGroupThree N) := by
  obtain ⟨_, hr, hd, hz, hm, hl8⟩ := id h
  have hlg := lg_3 h
  rw [hc] at hlg
  have hpv := pv3 h
  rw [hc] at hpv
  have hpg : ∀ B, f_X11_perform (wd 3 r d z m l) B = f_X11_three (nI 19) (eB m l) B := fun B => by rw [pg_3 h, hc]
  have hcc : (ius (N 11 0) 6) &&& 63 = nI 19 := by rw [hw, (wd_c h).1, hc]
  have hpv0 : f_X11_isPrivileged (wd 3 r d z m l) = 0 := hpv.trans rfl
  have dcd : f_X3_ofGroupThree N = f_X3_pair 35 (f_X3_operand N) (f_X3_operand N) 0 (f_X9_isOpenData (f_X3_operand N)) N := by
    unfold f_X3_ofGroupThree
    rw [hcc]
    rfl
  rw [dcd, q_op h hw]
  have ft : f_X11_fits (eB m l) 0 9 = f_X9_isOpenData (eB m l) := (fitB ⟨m, hm⟩ ⟨l, hl8⟩ ⟨0, by decide⟩).2.1
  have hl2 : f_X11_isLegal (wd 3 r d z m l) = f_X9_isOpenData (eB m l) := hlg.trans ((show f_X11_isLegalThree (nI 19) (eB m l) = f_X11_fits (eB m l) 0 9 from rfl).trans ft)
  refine EX_pair hw (by rw [hl2]) (by decide) (fun _ => iff_of_true rfl hpv0) (fun c D N B d0 d1 d2 d3 hR => ?_)
  rw [pf_35, hpg, show f_X11_three (nI 19) (eB m l) B = f_X11_store 0 ((f_X11_loadAt (eB m l) 0 B).1 ||| 128) (f_X11_test 0 (f_X11_loadAt (eB m l) 0 B).1 (f_X11_loadAt (eB m l) 0 B).2) from rfl]
  exact tas hR d3 (odE hm hl8 c)
set_option maxHeartbeats 1000000 in
theorem EX_3_20 {r d z m l : Nat} {N : St} (h : wB 3 r d z m l) (hc : 8 * r + (4 * d + z) = 20) (hw : N 11 0 = wd 3 r d z m l) : EX (wd 3 r d z m l) (f_X3_ofGroupThree N) := by
  obtain ⟨_, hr, hd, hz, hm, hl8⟩ := id h
  have hlg := lg_3 h
  rw [hc] at hlg
  have hpv := pv3 h
  rw [hc] at hpv
  have hpg : ∀ B, f_X11_perform (wd 3 r d z m l) B = f_X11_three (nI 20) (eB m l) B := fun B => by rw [pg_3 h, hc]
  have hcc : (ius (N 11 0) 6) &&& 63 = nI 20 := by rw [hw, (wd_c h).1, hc]
  have hpv0 : f_X11_isPrivileged (wd 3 r d z m l) = 0 := hpv.trans rfl
  have dcd : f_X3_ofGroupThree N = (if (f_X3_mode N) = 0 then f_X3_pair 40 (f_X3_operand N) (f_X3_operand N) 2 1 N else f_X3_pair 45 (f_X3_operand N) (f_X3_operand N) 2 (f_X9_isControl (f_X3_operand N)) N) := by
    unfold f_X3_ofGroupThree
    rw [hcc]
    rfl
  rw [dcd, q_op h hw, q_m h hw]
  have ft : f_X11_fits (eB m l) 2 4 = f_X9_isControl (eB m l) := (fitC ⟨m, hm⟩ ⟨l, hl8⟩).1
  have hl2 : f_X11_isLegal (wd 3 r d z m l) = (if nI m = 0 then 1 else (if f_X9_isControl (eB m l) = 0 then 0 else 1)) := by
    rw [hlg, ← ft, ← eBm hm hl8]
    rfl
  have h20 : ∀ B, f_X11_three (nI 20) (eB m l) B = (xb (f_X11_find (eB m l) 2 B) fun q62 => (if (q62 14 25) = 16 then (xb (f_X11_push 2 (q62 14 26) q62) fun q71 => q71) else (xb (f_X11_test 2 ((xup q62 15 (q62 14 25).toNatClampNeg (((q62 15 (q62 14 25).toNatClampNeg) <<< ((16 : Int32) &&& 31)) ||| (ius (q62 15 (q62 14 25).toNatClampNeg) 16))) 15 (q62 14 25).toNatClampNeg) (xup q62 15 (q62 14 25).toNatClampNeg (((q62 15 (q62 14 25).toNatClampNeg) <<< ((16 : Int32) &&& 31)) ||| (ius (q62 15 (q62 14 25).toNatClampNeg) 16)))) fun q67 => q67))) := fun B => rfl
  by_cases m0 : m = 0
  · subst m0
    rw [if_pos (show nI 0 = 0 from rfl)] at hl2 ⊢
    refine EX_pair hw (iff_of_false (by rw [hl2]; decide) (by decide)) (by decide) (fun _ => iff_of_true rfl hpv0) (fun c D N B d0 d1 d2 d3 hR => ?_)
    have hX : (xup (xup N 12 6 0) 12 7 0) 11 0 = wd 3 r d z 0 l := by rw [hR.d, d0]
    rw [pf_40, hpg, h20]
    unfold f_X4_swap
    simp only [xb_l, if_true]
    rw [q_l h hX, nIl hl8, find35 (by decide) hl8, fmo0, xo4 rfl, xs4, if_neg (nq_16 (by omega) (by omega)), nIl hl8, xs4, xo4 rfl, xo4 rfl]
    have h2 := hR.set25 (v := nI l) |>.set26 (v := B 15 (nI (8 + l)).toNatClampNeg)
    refine tst_set h2 (by omega) (fun e => ?_)
    rw [(hR.g e).reg l (by omega)]
  · rw [if_neg (nzi m0 hm)] at hl2 ⊢
    refine EX_pair hw ?_ (by decide) (fun _ => iff_of_true rfl hpv0) (fun c D N B d0 d1 d2 d3 hR => ?_)
    · rw [hl2]
      by_cases c : f_X9_isControl (eB m l) = 0
      · rw [if_pos c, c]
      · rw [if_neg c]; exact iff_of_false (by decide) c
    · have ct := ctE hm hl8 c
      obtain ⟨a1, a2⟩ := adrs hR d2 hl8 ct
      rw [pf_45, hpg, h20]
      simp only [xb_l, if_true]
      rw [f25W (by decide) (by unfold okW; omega), if_neg m0, if_pos (show (16 : Int32) = 16 from rfl)]
      exact push a1 (by decide) (fun e => by rw [(a2 e).2])
set_option maxHeartbeats 1000000 in
theorem EX_3_21 {r d z m l : Nat} {N : St} (h : wB 3 r d z m l) (hc : 8 * r + (4 * d + z) = 21) (hw : N 11 0 = wd 3 r d z m l) : EX (wd 3 r d z m l) (f_X3_ofGroupThree N) := by
  obtain ⟨_, hr, hd, hz, hm, hl8⟩ := id h
  have hlg := lg_3 h
  rw [hc] at hlg
  have hpv := pv3 h
  rw [hc] at hpv
  have hpg : ∀ B, f_X11_perform (wd 3 r d z m l) B = f_X11_three (nI 21) (eB m l) B := fun B => by rw [pg_3 h, hc]
  have hcc : (ius (N 11 0) 6) &&& 63 = nI 21 := by rw [hw, (wd_c h).1, hc]
  have hpv0 : f_X11_isPrivileged (wd 3 r d z m l) = 0 := hpv.trans rfl
  have dcd : f_X3_ofGroupThree N = (if (f_X3_mode N) = 0 then f_X3_pair 41 (f_X3_operand N) (f_X3_operand N) 1 1 N else f_X3_pair 42 (f_X3_operand N) (f_X3_operand N) 1 (f_X3_isRowToStore N) N) := by
    unfold f_X3_ofGroupThree
    rw [hcc]
    rfl
  rw [dcd]
  unfold f_X3_isRowToStore
  rw [q_op h hw, q_m h hw]
  have ft : f_X11_fits (eB m l) 1 12 = (if f_X9_isOpen (eB m l) = 0 then 0 else f_X9_isControl (eB m l)) := (fitC ⟨m, hm⟩ ⟨l, hl8⟩).2.2
  have hl2 : f_X11_isLegal (wd 3 r d z m l) = (if nI m = 0 then 1 else (if nI m = 4 then 1 else (if (f_X11_fits (eB m l) 1 12) = 0 then 0 else 1))) := by
    rw [hlg, ← eBm hm hl8]
    rfl
  rw [ft] at hl2
  have h2x : ∀ B, f_X11_three (nI 21) (eB m l) B = f_X11_extendOrStore 1 (eB m l) B := fun B => rfl
  by_cases m0 : m = 0
  · subst m0
    rw [if_pos (show nI 0 = 0 from rfl)] at hl2 ⊢
    refine EX_pair hw (iff_of_false (by rw [hl2]; decide) (by decide)) (by decide) (fun _ => iff_of_true rfl hpv0) (fun c D N B d0 d1 d2 d3 hR => ?_)
    rw [eB0] at d3
    have ex := extd (s := 1) (t := 0) hR (by decide) hl8 d1 d3
    rw [pf_41, hpg, h2x]
    unfold f_X11_extendOrStore
    rw [eBm (by decide) hl8, if_pos (show nI 0 = 0 from rfl), eBr (by decide) hl8, nIl hl8]
    exact ex
  · rw [if_neg (nzi m0 hm)] at hl2 ⊢
    refine EX_pair hw ?_ (by decide) (fun _ => iff_of_true rfl hpv0) (fun c D N B d0 d1 d2 d3 hR => ?_)
    · rw [hl2]
      by_cases c4 : nI m = 4
      · rw [if_pos c4, if_pos c4]
      · rw [if_neg c4, if_neg c4]
        by_cases c1 : f_X9_isOpen (eB m l) = 0
        · rw [if_pos c1, if_pos c1, if_pos (show (0 : Int32) = 0 from rfl)]
        · rw [if_neg c1, if_neg c1]
    · have ct : m = 4 ∨ m = 2 ∨ m = 5 ∨ m = 6 ∨ (m = 7 ∧ l ≤ 3) := by
        by_cases c4 : m = 4
        · exact Or.inl c4
        · rw [if_neg (nq_4 c4 (by omega))] at c
          by_cases c1 : f_X9_isOpen (eB m l) = 0
          · rw [if_pos c1] at c; exact absurd rfl c
          · rw [if_neg c1] at c
            by_cases c2 : f_X9_isControl (eB m l) = 0
            · rw [if_pos c2] at c; exact absurd rfl c
            · exact Or.inr (ctE hm hl8 c2)
      rw [pf_42, hpg, h2x]
      exact stM hR (by decide) hl8 d1 d3 ct
set_option maxHeartbeats 1000000 in
theorem EX_3_22 {r d z m l : Nat} {N : St} (h : wB 3 r d z m l) (hc : 8 * r + (4 * d + z) = 22) (hw : N 11 0 = wd 3 r d z m l) : EX (wd 3 r d z m l) (f_X3_ofGroupThree N) := by
  obtain ⟨_, hr, hd, hz, hm, hl8⟩ := id h
  have hlg := lg_3 h
  rw [hc] at hlg
  have hpv := pv3 h
  rw [hc] at hpv
  have hpg : ∀ B, f_X11_perform (wd 3 r d z m l) B = f_X11_three (nI 22) (eB m l) B := fun B => by rw [pg_3 h, hc]
  have hcc : (ius (N 11 0) 6) &&& 63 = nI 22 := by rw [hw, (wd_c h).1, hc]
  have hpv0 : f_X11_isPrivileged (wd 3 r d z m l) = 0 := hpv.trans rfl
  have dcd : f_X3_ofGroupThree N = (if (f_X3_mode N) = 0 then f_X3_pair 41 (f_X3_operand N) (f_X3_operand N) 2 1 N else f_X3_pair 42 (f_X3_operand N) (f_X3_operand N) 2 (f_X3_isRowToStore N) N) := by
    unfold f_X3_ofGroupThree
    rw [hcc]
    rfl
  rw [dcd]
  unfold f_X3_isRowToStore
  rw [q_op h hw, q_m h hw]
  have ft : f_X11_fits (eB m l) 1 12 = (if f_X9_isOpen (eB m l) = 0 then 0 else f_X9_isControl (eB m l)) := (fitC ⟨m, hm⟩ ⟨l, hl8⟩).2.2
  have hl2 : f_X11_isLegal (wd 3 r d z m l) = (if nI m = 0 then 1 else (if nI m = 4 then 1 else (if (f_X11_fits (eB m l) 1 12) = 0 then 0 else 1))) := by
    rw [hlg, ← eBm hm hl8]
    rfl
  rw [ft] at hl2
  have h2x : ∀ B, f_X11_three (nI 22) (eB m l) B = f_X11_extendOrStore 2 (eB m l) B := fun B => rfl
  by_cases m0 : m = 0
  · subst m0
    rw [if_pos (show nI 0 = 0 from rfl)] at hl2 ⊢
    refine EX_pair hw (iff_of_false (by rw [hl2]; decide) (by decide)) (by decide) (fun _ => iff_of_true rfl hpv0) (fun c D N B d0 d1 d2 d3 hR => ?_)
    rw [eB0] at d3
    have ex := extd (s := 2) (t := 1) hR (by decide) hl8 d1 d3
    rw [pf_41, hpg, h2x]
    unfold f_X11_extendOrStore
    rw [eBm (by decide) hl8, if_pos (show nI 0 = 0 from rfl), eBr (by decide) hl8, nIl hl8]
    exact ex
  · rw [if_neg (nzi m0 hm)] at hl2 ⊢
    refine EX_pair hw ?_ (by decide) (fun _ => iff_of_true rfl hpv0) (fun c D N B d0 d1 d2 d3 hR => ?_)
    · rw [hl2]
      by_cases c4 : nI m = 4
      · rw [if_pos c4, if_pos c4]
      · rw [if_neg c4, if_neg c4]
        by_cases c1 : f_X9_isOpen (eB m l) = 0
        · rw [if_pos c1, if_pos c1, if_pos (show (0 : Int32) = 0 from rfl)]
        · rw [if_neg c1, if_neg c1]
    · have ct : m = 4 ∨ m = 2 ∨ m = 5 ∨ m = 6 ∨ (m = 7 ∧ l ≤ 3) := by
        by_cases c4 : m = 4
        · exact Or.inl c4
        · rw [if_neg (nq_4 c4 (by omega))] at c
          by_cases c1 : f_X9_isOpen (eB m l) = 0
          · rw [if_pos c1] at c; exact absurd rfl c
          · rw [if_neg c1] at c
            by_cases c2 : f_X9_isControl (eB m l) = 0
            · rw [if_pos c2] at c; exact absurd rfl c
            · exact Or.inr (ctE hm hl8 c2)
      rw [pf_42, hpg, h2x]
      exact stM hR (by decide) hl8 d1 d3 ct
set_option maxHeartbeats 1000000 in
theorem EX_3_24 {r d z m l : Nat} {N : St} (h : wB 3 r d z m l) (hc : 8 * r + (4 * d + z) = 24) (hw : N 11 0 = wd 3 r d z m l) : EX (wd 3 r d z m l) (f_X3_ofGroupThree N) := by
  obtain ⟨_, hr, hd, hz, hm, hl8⟩ := id h
  have hlg := lg_3 h
  rw [hc] at hlg
  have hpv := pv3 h
  rw [hc] at hpv
  have hpg : ∀ B, f_X11_perform (wd 3 r d z m l) B = f_X11_three (nI 24) (eB m l) B := fun B => by rw [pg_3 h, hc]
  have hcc : (ius (N 11 0) 6) &&& 63 = nI 24 := by rw [hw, (wd_c h).1, hc]
  have hpv0 : f_X11_isPrivileged (wd 3 r d z m l) = 0 := hpv.trans rfl
  have dcd : f_X3_ofGroupThree N = f_X3_pair 43 (f_X3_operand N) (f_X3_operand N) 1 (f_X3_isRowToLoad N) N := by
    unfold f_X3_ofGroupThree
    rw [hcc]
    rfl
  rw [dcd]
  unfold f_X3_isRowToLoad
  rw [q_op h hw, q_m h hw]
  have ft : f_X11_fits (eB m l) 1 4 = f_X9_isControl (eB m l) := (fitC ⟨m, hm⟩ ⟨l, hl8⟩).2.1
  have hl2 : f_X11_isLegal (wd 3 r d z m l) = (if nI m = 3 then 1 else (if (f_X11_fits (eB m l) 1 4) = 0 then 0 else 1)) := by
    rw [hlg, ← eBm hm hl8]
    rfl
  rw [ft] at hl2
  refine EX_pair hw (by rw [hl2]) (by decide) (fun _ => iff_of_true rfl hpv0) (fun c D N B d0 d1 d2 d3 hR => ?_)
  have ct : m = 3 ∨ m = 2 ∨ m = 5 ∨ m = 6 ∨ (m = 7 ∧ l ≤ 3) := by
    by_cases c3 : m = 3
    · exact Or.inl c3
    · rw [if_neg (nq_3 c3 (by omega))] at c
      by_cases c2 : f_X9_isControl (eB m l) = 0
      · rw [if_pos c2] at c; exact absurd rfl c
      · exact Or.inr (ctE hm hl8 c2)
  rw [pf_43, hpg, show f_X11_three (nI 24) (eB m l) B = f_X11_loadMany 1 (eB m l) B from rfl]
  exact ldM hR (by decide) hl8 d1 d2 ct
set_option maxHeartbeats 1000000 in
theorem EX_3_25 {r d z m l : Nat} {N : St} (h : wB 3 r d z m l) (hc : 8 * r + (4 * d + z) = 25) (hw : N 11 0 = wd 3 r d z m l) : EX (wd 3 r d z m l) (f_X3_ofGroupThree N) := by
  obtain ⟨_, hr, hd, hz, hm, hl8⟩ := id h
  have hlg := lg_3 h
  rw [hc] at hlg
  have hpv := pv3 h
  rw [hc] at hpv
  have hpg : ∀ B, f_X11_perform (wd 3 r d z m l) B = f_X11_three (nI 25) (eB m l) B := fun B => by rw [pg_3 h, hc]
  have hcc : (ius (N 11 0) 6) &&& 63 = nI 25 := by rw [hw, (wd_c h).1, hc]
  have hpv0 : f_X11_isPrivileged (wd 3 r d z m l) = 0 := hpv.trans rfl
  have dcd : f_X3_ofGroupThree N = f_X3_pair 43 (f_X3_operand N) (f_X3_operand N) 2 (f_X3_isRowToLoad N) N := by
    unfold f_X3_ofGroupThree
    rw [hcc]
    rfl
  rw [dcd]
  unfold f_X3_isRowToLoad
  rw [q_op h hw, q_m h hw]
  have ft : f_X11_fits (eB m l) 1 4 = f_X9_isControl (eB m l) := (fitC ⟨m, hm⟩ ⟨l, hl8⟩).2.1
  have hl2 : f_X11_isLegal (wd 3 r d z m l) = (if nI m = 3 then 1 else (if (f_X11_fits (eB m l) 1 4) = 0 then 0 else 1)) := by
    rw [hlg, ← eBm hm hl8]
    rfl
  rw [ft] at hl2
  refine EX_pair hw (by rw [hl2]) (by decide) (fun _ => iff_of_true rfl hpv0) (fun c D N B d0 d1 d2 d3 hR => ?_)
  have ct : m = 3 ∨ m = 2 ∨ m = 5 ∨ m = 6 ∨ (m = 7 ∧ l ≤ 3) := by
    by_cases c3 : m = 3
    · exact Or.inl c3
    · rw [if_neg (nq_3 c3 (by omega))] at c
      by_cases c2 : f_X9_isControl (eB m l) = 0
      · rw [if_pos c2] at c; exact absurd rfl c
      · exact Or.inr (ctE hm hl8 c2)
  rw [pf_43, hpg, show f_X11_three (nI 25) (eB m l) B = f_X11_loadMany 2 (eB m l) B from rfl]
  exact ldM hR (by decide) hl8 d1 d2 ct
set_option maxHeartbeats 1000000 in
theorem EX_3_26 {r d z m l : Nat} {N : St} (h : wB 3 r d z m l) (hc : 8 * r + (4 * d + z) = 26) (hw : N 11 0 = wd 3 r d z m l) : EX (wd 3 r d z m l) (f_X3_ofGroupThree N) := by
  obtain ⟨_, hr, hd, hz, hm, hl8⟩ := id h
  have hlg := lg_3 h
  rw [hc] at hlg
  have hpv := pv3 h
  rw [hc] at hpv
  have hpg : ∀ B, f_X11_perform (wd 3 r d z m l) B = f_X11_three (nI 26) (eB m l) B := fun B => by rw [pg_3 h, hc]
  have hcc : (ius (N 11 0) 6) &&& 63 = nI 26 := by rw [hw, (wd_c h).1, hc]
  have hpv0 : f_X11_isPrivileged (wd 3 r d z m l) = 0 := hpv.trans rfl
  have dcd : f_X3_ofGroupThree N = f_X3_pair 46 (f_X3_operand N) (f_X3_operand N) 2 (f_X9_isControl (f_X3_operand N)) N := by
    unfold f_X3_ofGroupThree
    rw [hcc]
    rfl
  rw [dcd, q_op h hw]
  have ft : f_X11_fits (eB m l) 2 4 = f_X9_isControl (eB m l) := (fitC ⟨m, hm⟩ ⟨l, hl8⟩).1
  have hl2 : f_X11_isLegal (wd 3 r d z m l) = f_X9_isControl (eB m l) := hlg.trans ((show f_X11_isLegalThree (nI 26) (eB m l) = f_X11_fits (eB m l) 2 4 from rfl).trans ft)
  refine EX_pair hw (by rw [hl2]) (by decide) (fun _ => iff_of_true rfl hpv0) (fun c D N B d0 d1 d2 d3 hR => ?_)
  obtain ⟨a1, a2⟩ := adrs hR d2 hl8 (ctE hm hl8 c)
  rw [pf_46, hpg, show f_X11_three (nI 26) (eB m l) B = xup (f_X11_push 2 ((f_X11_find (eB m l) 2 B) 15 17) (f_X11_find (eB m l) 2 B)) 15 17 ((f_X11_push 2 ((f_X11_find (eB m l) 2 B) 15 17) (f_X11_find (eB m l) 2 B)) 14 26) from rfl]
  unfold f_X4_call
  simp only [xb_l, if_true]
  rw [g_X11_push rfl]
  have p := push (s := 2) (v := (f_X4_address (xup (xup N 12 6 0) 12 7 0)).2 2 17) (v' := (f_X11_find (eB m l) 2 B) 15 17) a1 (by decide) (fun e => by rw [(a1.g e).reg 17 (by decide)])
  exact p.setr (by decide) (fun e => (a2 (stk_push e)).2)
set_option maxHeartbeats 1000000 in
theorem EX_3_27 {r d z m l : Nat} {N : St} (h : wB 3 r d z m l) (hc : 8 * r + (4 * d + z) = 27) (hw : N 11 0 = wd 3 r d z m l) : EX (wd 3 r d z m l) (f_X3_ofGroupThree N) := by
  obtain ⟨_, hr, hd, hz, hm, hl8⟩ := id h
  have hlg := lg_3 h
  rw [hc] at hlg
  have hpv := pv3 h
  rw [hc] at hpv
  have hpg : ∀ B, f_X11_perform (wd 3 r d z m l) B = f_X11_three (nI 27) (eB m l) B := fun B => by rw [pg_3 h, hc]
  have hcc : (ius (N 11 0) 6) &&& 63 = nI 27 := by rw [hw, (wd_c h).1, hc]
  have hpv0 : f_X11_isPrivileged (wd 3 r d z m l) = 0 := hpv.trans rfl
  have dcd : f_X3_ofGroupThree N = f_X3_pair 47 (f_X3_operand N) (f_X3_operand N) 2 (f_X9_isControl (f_X3_operand N)) N := by
    unfold f_X3_ofGroupThree
    rw [hcc]
    rfl
  rw [dcd, q_op h hw]
  have ft : f_X11_fits (eB m l) 2 4 = f_X9_isControl (eB m l) := (fitC ⟨m, hm⟩ ⟨l, hl8⟩).1
  have hl2 : f_X11_isLegal (wd 3 r d z m l) = f_X9_isControl (eB m l) := hlg.trans ((show f_X11_isLegalThree (nI 27) (eB m l) = f_X11_fits (eB m l) 2 4 from rfl).trans ft)
  refine EX_pair hw (by rw [hl2]) (by decide) (fun _ => iff_of_true rfl hpv0) (fun c D N B d0 d1 d2 d3 hR => ?_)
  obtain ⟨a1, a2⟩ := adrs hR d2 hl8 (ctE hm hl8 c)
  rw [pf_47, hpg, show f_X11_three (nI 27) (eB m l) B = xup (f_X11_find (eB m l) 2 B) 15 17 ((f_X11_find (eB m l) 2 B) 14 26) from rfl]
  exact a1.setr (by decide) (fun e => (a2 e).2)
set_option maxHeartbeats 1000000 in
theorem EX_3_28 {r d z m l : Nat} {N : St} (h : wB 3 r d z m l) (hc : 8 * r + (4 * d + z) = 28) (hw : N 11 0 = wd 3 r d z m l) : EX (wd 3 r d z m l) (f_X3_ofGroupThree N) := by
  obtain ⟨_, hr, hd, hz, hm, hl8⟩ := id h
  have hlg := lg_3 h
  rw [hc] at hlg
  have hpv := pv3 h
  rw [hc] at hpv
  have hpg : ∀ B, f_X11_perform (wd 3 r d z m l) B = f_X11_three (nI 28) (eB m l) B := fun B => by rw [pg_3 h, hc]
  have hcc : (ius (N 11 0) 6) &&& 63 = nI 28 := by rw [hw, (wd_c h).1, hc]
  have dcd : f_X3_ofGroupThree N = (f_X3_withoutOperands N, N) := by
    unfold f_X3_ofGroupThree
    rw [hcc]
    rfl
  have hl2 : f_X11_isLegal (wd 3 r d z m l) = (if m = 7 ∨ (m = 6 ∧ l = 4) then 0 else 1) := hlg.trans (leg28 ⟨m, hm⟩ ⟨l, hl8⟩)
  have hp2 : f_X11_isPrivileged (wd 3 r d z m l) = (if m = 4 ∨ m = 5 ∨ (m = 6 ∧ (l = 0 ∨ l = 2 ∨ l = 3)) then 1 else 0) := hpv.trans (prv28 ⟨m, hm⟩ ⟨l, hl8⟩)
  have h28 : ∀ B, f_X11_three (nI 28) (eB m l) B = f_X11_system (eB m l) B := fun B => rfl
  rw [dcd]
  unfold f_X3_withoutOperands f_X3_ofLastEight
  rw [q_m h hw, q_l h hw]
  rcases (show m = 0 ∨ m = 1 ∨ m = 2 ∨ m = 3 ∨ m = 4 ∨ m = 5 ∨ m = 6 ∨ m = 7 by omega) with rfl | rfl | rfl | rfl | rfl | rfl | rfl | rfl
  · rw [if_pos (show nI 0 = 0 from rfl)]
    refine EX_lit hw (by rw [hl2, if_neg (by omega)]; decide) (by decide) (iff_of_true rfl (by rw [hp2, if_neg (by omega)])) (fun D N B d0 hR => ?_)
    have hX : (xup (xup N 12 6 0) 12 7 0) 11 0 = wd 3 r d z 0 l := by rw [hR.d, d0]
    rw [pf_53, hpg, h28]
    unfold f_X11_system
    rw [eBm (by decide) hl8, if_pos (show nI 0 = 0 from rfl)]
    unfold f_X11_system_52
    rw [hX, w15 h (by decide)]
    exact hR.trap (fun _ => rfl)
  · rw [if_neg (show ¬ nI 1 = 0 by decide), if_pos (show nI 1 = 1 from rfl)]
    refine EX_lit hw (by rw [hl2, if_neg (by omega)]; decide) (by decide) (iff_of_true rfl (by rw [hp2, if_neg (by omega)])) (fun D N B d0 hR => ?_)
    have hX : (xup (xup N 12 6 0) 12 7 0) 11 0 = wd 3 r d z 1 l := by rw [hR.d, d0]
    rw [pf_53, hpg, h28]
    unfold f_X11_system
    rw [eBm (by decide) hl8, if_neg (show ¬ nI 1 = 0 by decide), if_pos (show nI 1 = 1 from rfl)]
    unfold f_X11_system_52
    rw [hX, w15 h (by decide)]
    exact hR.trap (fun _ => rfl)
  · rw [if_neg (show ¬ nI 2 = 0 by decide), if_neg (show ¬ nI 2 = 1 by decide), if_pos (show nI 2 = 2 from rfl)]
    refine EX_lit hw (by rw [hl2, if_neg (by omega)]; decide) (by decide) (iff_of_true rfl (by rw [hp2, if_neg (by omega)])) (fun D N B d0 hR => ?_)
    have hX : (xup (xup N 12 6 0) 12 7 0) 11 0 = wd 3 r d z 2 l := by rw [hR.d, d0]
    rw [pf_55, hpg, h28]
    unfold f_X11_system
    rw [eBm (by decide) hl8, if_neg (show ¬ nI 2 = 0 by decide), if_neg (show ¬ nI 2 = 1 by decide), if_pos (show nI 2 = 2 from rfl)]
    rw [eBr (by decide) hl8, n8r, nI_clamp (show 8 + l < 2 ^ 31 by omega)]
    exact lnk hR hl8 (fun A' hA => q_l h (by rw [hA, d0]))
  · rw [if_neg (show ¬ nI 3 = 0 by decide), if_neg (show ¬ nI 3 = 1 by decide), if_neg (show ¬ nI 3 = 2 by decide), if_pos (show nI 3 = 3 from rfl)]
    refine EX_lit hw (by rw [hl2, if_neg (by omega)]; decide) (by decide) (iff_of_true rfl (by rw [hp2, if_neg (by omega)])) (fun D N B d0 hR => ?_)
    have hX : (xup (xup N 12 6 0) 12 7 0) 11 0 = wd 3 r d z 3 l := by rw [hR.d, d0]
    rw [pf_56, hpg, h28]
    unfold f_X11_system
    rw [eBm (by decide) hl8, if_neg (show ¬ nI 3 = 0 by decide), if_neg (show ¬ nI 3 = 1 by decide), if_neg (show ¬ nI 3 = 2 by decide), if_pos (show nI 3 = 3 from rfl)]
    rw [eBr (by decide) hl8, n8r, nI_clamp (show 8 + l < 2 ^ 31 by omega)]
    exact unl hR hl8 (q_l h hX)
  · rw [if_neg (show ¬ nI 4 = 0 by decide), if_neg (show ¬ nI 4 = 1 by decide), if_neg (show ¬ nI 4 = 2 by decide), if_neg (show ¬ nI 4 = 3 by decide), if_pos (show nI 4 = 4 from rfl)]
    refine EX_lit hw (by rw [hl2, if_neg (by omega)]; decide) (by decide) (iff_of_false (by decide) (by rw [hp2, if_pos (by omega)]; decide)) (fun D N B d0 hR => ?_)
    have hX : (xup (xup N 12 6 0) 12 7 0) 11 0 = wd 3 r d z 4 l := by rw [hR.d, d0]
    rw [pf_57, hpg, h28]
    unfold f_X11_system
    rw [eBm (by decide) hl8, if_neg (show ¬ nI 4 = 0 by decide), if_neg (show ¬ nI 4 = 1 by decide), if_neg (show ¬ nI 4 = 2 by decide), if_neg (show ¬ nI 4 = 3 by decide), if_pos (show nI 4 = 4 from rfl)]
    rw [eBr (by decide) hl8, n8r, nI_clamp (show 8 + l < 2 ^ 31 by omega)]
    rw [q_l h hX, n8r, nI_clamp (show 8 + l < 2 ^ 31 by omega)]
    exact hR.setr (by decide) (fun e => (hR.g e).reg (8 + l) (by omega))
  · rw [if_neg (show ¬ nI 5 = 0 by decide), if_neg (show ¬ nI 5 = 1 by decide), if_neg (show ¬ nI 5 = 2 by decide), if_neg (show ¬ nI 5 = 3 by decide), if_neg (show ¬ nI 5 = 4 by decide), if_pos (show nI 5 = 5 from rfl)]
    refine EX_lit hw (by rw [hl2, if_neg (by omega)]; decide) (by decide) (iff_of_false (by decide) (by rw [hp2, if_pos (by omega)]; decide)) (fun D N B d0 hR => ?_)
    have hX : (xup (xup N 12 6 0) 12 7 0) 11 0 = wd 3 r d z 5 l := by rw [hR.d, d0]
    rw [pf_58, hpg, h28]
    unfold f_X11_system
    rw [eBm (by decide) hl8, if_neg (show ¬ nI 5 = 0 by decide), if_neg (show ¬ nI 5 = 1 by decide), if_neg (show ¬ nI 5 = 2 by decide), if_neg (show ¬ nI 5 = 3 by decide), if_neg (show ¬ nI 5 = 4 by decide), if_pos (show nI 5 = 5 from rfl)]
    rw [eBr (by decide) hl8, n8r, nI_clamp (show 8 + l < 2 ^ 31 by omega)]
    rw [q_l h hX, n8r, nI_clamp (show 8 + l < 2 ^ 31 by omega)]
    exact hR.setr (by omega) (fun e => (hR.g e).reg 16 (by decide))
  · rw [if_neg (show ¬ nI 6 = 0 by decide), if_neg (show ¬ nI 6 = 1 by decide), if_neg (show ¬ nI 6 = 2 by decide), if_neg (show ¬ nI 6 = 3 by decide), if_neg (show ¬ nI 6 = 4 by decide), if_neg (show ¬ nI 6 = 5 by decide), if_pos (show nI 6 = 6 from rfl)]
    rcases (show l = 0 ∨ l = 1 ∨ l = 2 ∨ l = 3 ∨ l = 4 ∨ l = 5 ∨ l = 6 ∨ l = 7 by omega) with rfl | rfl | rfl | rfl | rfl | rfl | rfl | rfl
    · rw [if_pos (show nI 0 = 0 from rfl)]
      refine EX_lit hw (by rw [hl2, if_neg (by omega)]; decide) (by decide) (iff_of_false (by decide) (by rw [hp2, if_pos (by omega)]; decide)) (fun D N B d0 hR => ?_)
      rw [pf_59, hpg, h28, show f_X11_system (eB 6 0) B = xup (xup (xup B 14 9 0) 14 10 0) 14 11 0 from rfl]
      exact hR.quiet
    · rw [if_neg (show ¬ nI 1 = 0 by decide), if_pos (show nI 1 = 1 from rfl)]
      refine EX_lit hw (by rw [hl2, if_neg (by omega)]; decide) (by decide) (iff_of_true rfl (by rw [hp2, if_neg (by omega)])) (fun D N B d0 hR => ?_)
      rw [pf_60, hpg, h28, show f_X11_system (eB 6 1) B = B from rfl]
      exact hR
    · rw [if_neg (show ¬ nI 2 = 0 by decide), if_neg (show ¬ nI 2 = 1 by decide), if_pos (show nI 2 = 2 from rfl)]
      refine EX_lit hw (by rw [hl2, if_neg (by omega)]; decide) (by decide) (iff_of_false (by decide) (by rw [hp2, if_pos (by omega)]; decide)) (fun D N B d0 hR => ?_)
      rw [pf_61, hpg, h28, show f_X11_system (eB 6 2) B = (xb (f_X11_fetch B) fun q6 => xup (f_X11_setStatus q6.1 q6.2) 14 24 1) from rfl]
      exact stp hR
    · rw [if_neg (show ¬ nI 3 = 0 by decide), if_neg (show ¬ nI 3 = 1 by decide), if_neg (show ¬ nI 3 = 2 by decide), if_pos (show nI 3 = 3 from rfl)]
      refine EX_lit hw (by rw [hl2, if_neg (by omega)]; decide) (by decide) (iff_of_false (by decide) (by rw [hp2, if_pos (by omega)]; decide)) (fun D N B d0 hR => ?_)
      rw [pf_52, hpg, h28, show f_X11_system (eB 6 3) B = (xb (f_X11_pull 1 B) fun q17 => xb (f_X11_pull 2 q17.2) fun q20 => xup (f_X11_setStatus q17.1 q20.2) 15 17 q20.1) from rfl]
      exact rte hR
    · rw [if_neg (show ¬ nI 4 = 0 by decide), if_neg (show ¬ nI 4 = 1 by decide), if_neg (show ¬ nI 4 = 2 by decide), if_neg (show ¬ nI 4 = 3 by decide), if_pos (show nI 4 = 4 from rfl)]
      exact EX_not (by rw [hl2, if_pos (by omega)])
    · rw [if_neg (show ¬ nI 5 = 0 by decide), if_neg (show ¬ nI 5 = 1 by decide), if_neg (show ¬ nI 5 = 2 by decide), if_neg (show ¬ nI 5 = 3 by decide), if_neg (show ¬ nI 5 = 4 by decide), if_pos (show nI 5 = 5 from rfl)]
      refine EX_lit hw (by rw [hl2, if_neg (by omega)]; decide) (by decide) (iff_of_true rfl (by rw [hp2, if_neg (by omega)])) (fun D N B d0 hR => ?_)
      rw [pf_50, hpg, h28, show f_X11_system (eB 6 5) B = (xb (f_X11_pull 2 B) fun q => xup q.2 15 17 q.1) from rfl]
      exact rts hR
    · rw [if_neg (show ¬ nI 6 = 0 by decide), if_neg (show ¬ nI 6 = 1 by decide), if_neg (show ¬ nI 6 = 2 by decide), if_neg (show ¬ nI 6 = 3 by decide), if_neg (show ¬ nI 6 = 4 by decide), if_neg (show ¬ nI 6 = 5 by decide), if_pos (show nI 6 = 6 from rfl)]
      refine EX_lit hw (by rw [hl2, if_neg (by omega)]; decide) (by decide) (iff_of_true rfl (by rw [hp2, if_neg (by omega)])) (fun D N B d0 hR => ?_)
      rw [pf_54, hpg, h28, show f_X11_system (eB 6 6) B = (if (f_X11_has 2 B) = 0 then B else (xup B 14 23 7)) from rfl]
      unfold f_X4_performRest_225
      have xz : xup (xup (xup N 12 6 0) 12 7 0) 12 6 0 = xup (xup N 12 6 0) 12 7 0 := by
        rw [xup_comm (show ¬ (12 = 12 ∧ 7 = 6) by decide), xup_xup]
      rw [xz]
      by_cases e : (xup (xup N 12 6 0) 12 7 0) 4 10 = 0
      · rw [has_eq 2 (hR.g e).s0]
        split
        · exact hR
        · exact hR.trap (fun _ => rfl)
      · exact hR.bad e (FA.i FA.r FA.r.x12) (FB.i FB.r FB.r.x23)
    · rw [if_neg (show ¬ nI 7 = 0 by decide), if_neg (show ¬ nI 7 = 1 by decide), if_neg (show ¬ nI 7 = 2 by decide), if_neg (show ¬ nI 7 = 3 by decide), if_neg (show ¬ nI 7 = 4 by decide), if_neg (show ¬ nI 7 = 5 by decide), if_neg (show ¬ nI 7 = 6 by decide), if_pos (show nI 7 = 7 from rfl)]
      refine EX_lit hw (by rw [hl2, if_neg (by omega)]; decide) (by decide) (iff_of_true rfl (by rw [hp2, if_neg (by omega)])) (fun D N B d0 hR => ?_)
      rw [pf_51, hpg, h28, show f_X11_system (eB 6 7) B = (xb (f_X11_pull 1 B) fun q17 => xb (f_X11_pull 2 q17.2) fun q20 => xup (xup q20.2 14 2 (((q20.2 14 2) &&& (-32)) ||| (q17.1 &&& 31))) 15 17 q20.1) from rfl]
      exact rtr hR
  · rw [if_neg (show ¬ nI 7 = 0 by decide), if_neg (show ¬ nI 7 = 1 by decide), if_neg (show ¬ nI 7 = 2 by decide), if_neg (show ¬ nI 7 = 3 by decide), if_neg (show ¬ nI 7 = 4 by decide), if_neg (show ¬ nI 7 = 5 by decide), if_neg (show ¬ nI 7 = 6 by decide)]
    exact EX_not (by rw [hl2, if_pos (by omega)])
theorem EX_3_no {r d z m l c : Nat} {N : St} (h : wB 3 r d z m l) (hc : 8 * r + (4 * d + z) = c) (hn : c = 23 ∨ 29 ≤ c) (hw : N 11 0 = wd 3 r d z m l) : EX (wd 3 r d z m l) (f_X3_ofGroupThree N) := by
  obtain ⟨_, hr, hd, hz, hm, hl8⟩ := id h
  have hlg := lg_3 h
  rw [hc] at hlg
  have c64 : c < 64 := by omega
  have hcc : (ius (N 11 0) 6) &&& 63 = nI c := by rw [hw, (wd_c h).1, hc]
  have g19 : (19 : Int32) ≤ nI c := (nI_leI (a := 19) (b := c) (by decide) (by omega)).mpr (by omega)
  have hl2 : f_X11_isLegal (wd 3 r d z m l) = 0 := by
    rw [hlg]
    unfold f_X11_isLegalThree f_X11_isLegalThree_27 f_X11_isLegalThree_238
    rw [if_pos g19, if_neg (nq_3 (n := c) (by omega) (by omega)), if_neg (nq_4 (n := c) (by omega) (by omega)), if_neg (nq_5 (n := c) (by omega) (by omega)), if_neg (nq_6 (n := c) (by omega) (by omega)), if_neg (nq_7 (n := c) (by omega) (by omega)), if_neg (nq_8 (n := c) (by omega) (by omega)), if_neg (nq_9 (n := c) (by omega) (by omega)), if_neg (nq_10 (n := c) (by omega) (by omega)), if_neg (nq_11 (n := c) (by omega) (by omega)), if_neg (nq_12 (n := c) (by omega) (by omega)), if_neg (nq_13 (n := c) (by omega) (by omega)), if_neg (nq_14 (n := c) (by omega) (by omega)), if_neg (nq_15 (n := c) (by omega) (by omega)), if_neg (nq_16 (n := c) (by omega) (by omega)), if_neg (nq_17 (n := c) (by omega) (by omega)), if_neg (nq_18 (n := c) (by omega) (by omega)), if_neg (nq_19 (n := c) (by omega) (by omega)), if_neg (nq_20 (n := c) (by omega) (by omega)), if_neg (nq_21 (n := c) (by omega) (by omega)), if_neg (nq_22 (n := c) (by omega) (by omega))]
    rcases hn with rfl | hn
    · rfl
    · rw [if_neg (nq_23 (n := c) (by omega) (by omega)), if_neg (nq_24 (n := c) (by omega) (by omega)), if_neg (nq_25 (n := c) (by omega) (by omega)), if_neg (nq_26 (n := c) (by omega) (by omega)), if_neg (nq_27 (n := c) (by omega) (by omega)), if_neg (nq_28 (n := c) (by omega) (by omega))]
  refine (?_ : f_X3_ofGroupThree N = (65, N)) ▸ EX_not hl2
  unfold f_X3_ofGroupThree
  rw [hcc, if_neg (nq_0 (n := c) (by omega) (by omega)), if_neg (nq_1 (n := c) (by omega) (by omega)), if_neg (nq_2 (n := c) (by omega) (by omega)), if_neg (nq_3 (n := c) (by omega) (by omega)), if_neg (nq_4 (n := c) (by omega) (by omega)), if_neg (nq_5 (n := c) (by omega) (by omega)), if_neg (nq_6 (n := c) (by omega) (by omega)), if_neg (nq_7 (n := c) (by omega) (by omega)), if_neg (nq_8 (n := c) (by omega) (by omega)), if_neg (nq_9 (n := c) (by omega) (by omega)), if_neg (nq_10 (n := c) (by omega) (by omega)), if_neg (nq_11 (n := c) (by omega) (by omega)), if_neg (nq_12 (n := c) (by omega) (by omega)), if_neg (nq_13 (n := c) (by omega) (by omega)), if_neg (nq_14 (n := c) (by omega) (by omega)), if_neg (nq_15 (n := c) (by omega) (by omega)), if_neg (nq_16 (n := c) (by omega) (by omega)), if_neg (nq_17 (n := c) (by omega) (by omega)), if_neg (nq_18 (n := c) (by omega) (by omega)), if_neg (nq_19 (n := c) (by omega) (by omega)), if_neg (nq_20 (n := c) (by omega) (by omega)), if_neg (nq_21 (n := c) (by omega) (by omega)), if_neg (nq_22 (n := c) (by omega) (by omega))]
  rcases hn with rfl | hn
  · rfl
  · rw [if_neg (nq_23 (n := c) (by omega) (by omega)), if_neg (nq_24 (n := c) (by omega) (by omega)), if_neg (nq_25 (n := c) (by omega) (by omega)), if_neg (nq_26 (n := c) (by omega) (by omega)), if_neg (nq_27 (n := c) (by omega) (by omega)), if_neg (nq_28 (n := c) (by omega) (by omega))]
theorem EX_3 {r d z m l : Nat} {M : St} (h : wB 3 r d z m l) : EX (wd 3 r d z m l) (f_X3_decode (wd 3 r d z m l) M) := by
  have hw : (xup M 11 0 (wd 3 r d z m l)) 11 0 = wd 3 r d z m l := w11
  rw [dc_3 h]
  have hb := h
  unfold wB at hb
  by_cases hn : 8 * r + (4 * d + z) = 23 ∨ 29 ≤ 8 * r + (4 * d + z)
  · exact EX_3_no h rfl hn hw
  by_cases c0 : 8 * r + (4 * d + z) = 0
  · exact EX_3_0 h c0 hw
  by_cases c1 : 8 * r + (4 * d + z) = 1
  · exact EX_3_1 h c1 hw
  by_cases c2 : 8 * r + (4 * d + z) = 2
  · exact EX_3_2 h c2 hw
  by_cases c3 : 8 * r + (4 * d + z) = 3
  · exact EX_3_3 h c3 hw
  by_cases c4 : 8 * r + (4 * d + z) = 4
  · exact EX_3_4 h c4 hw
  by_cases c5 : 8 * r + (4 * d + z) = 5
  · exact EX_3_5 h c5 hw
  by_cases c6 : 8 * r + (4 * d + z) = 6
  · exact EX_3_6 h c6 hw
  by_cases c7 : 8 * r + (4 * d + z) = 7
  · exact EX_3_7 h c7 hw
  by_cases c8 : 8 * r + (4 * d + z) = 8
  · exact EX_3_8 h c8 hw
  by_cases c9 : 8 * r + (4 * d + z) = 9
  · exact EX_3_9 h c9 hw
  by_cases c10 : 8 * r + (4 * d + z) = 10
  · exact EX_3_10 h c10 hw
  by_cases c11 : 8 * r + (4 * d + z) = 11
  · exact EX_3_11 h c11 hw
  by_cases c12 : 8 * r + (4 * d + z) = 12
  · exact EX_3_12 h c12 hw
  by_cases c13 : 8 * r + (4 * d + z) = 13
  · exact EX_3_13 h c13 hw
  by_cases c14 : 8 * r + (4 * d + z) = 14
  · exact EX_3_14 h c14 hw
  by_cases c15 : 8 * r + (4 * d + z) = 15
  · exact EX_3_15 h c15 hw
  by_cases c16 : 8 * r + (4 * d + z) = 16
  · exact EX_3_16 h c16 hw
  by_cases c17 : 8 * r + (4 * d + z) = 17
  · exact EX_3_17 h c17 hw
  by_cases c18 : 8 * r + (4 * d + z) = 18
  · exact EX_3_18 h c18 hw
  by_cases c19 : 8 * r + (4 * d + z) = 19
  · exact EX_3_19 h c19 hw
  by_cases c20 : 8 * r + (4 * d + z) = 20
  · exact EX_3_20 h c20 hw
  by_cases c21 : 8 * r + (4 * d + z) = 21
  · exact EX_3_21 h c21 hw
  by_cases c22 : 8 * r + (4 * d + z) = 22
  · exact EX_3_22 h c22 hw
  by_cases c24 : 8 * r + (4 * d + z) = 24
  · exact EX_3_24 h c24 hw
  by_cases c25 : 8 * r + (4 * d + z) = 25
  · exact EX_3_25 h c25 hw
  by_cases c26 : 8 * r + (4 * d + z) = 26
  · exact EX_3_26 h c26 hw
  by_cases c27 : 8 * r + (4 * d + z) = 27
  · exact EX_3_27 h c27 hw
  by_cases c28 : 8 * r + (4 * d + z) = 28
  · exact EX_3_28 h c28 hw
  omega
