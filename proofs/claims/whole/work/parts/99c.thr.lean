/-! group 3 -/
theorem EX_3_24 {r d z m l : Nat} {N : St} (h : wB 3 r d z m l) (hc : 8 * r + (4 * d + z) = 24) (hw : N 11 0 = wd 3 r d z m l) : EX (wd 3 r d z m l) (f_X3_ofGroupThree N) := by
  obtain ⟨_, hr, hd, hz, hm, hl8⟩ := id h
  have hlg := lg_3 h
  rw [hc] at hlg
  have hpv := pv3 h
  rw [hc] at hpv
  have hpg : ∀ B, f_X11_perform (wd 3 r d z m l) B = f_X11_three (nI 24) (eB m l) B := fun B => by rw [pg_3 h, hc]
  have hcc : (ius (N 11 0) 6) &&& 63 = nI 24 := by rw [hw, (wd_c h).1, hc]
  have hpv0 : f_X11_isPrivileged (wd 3 r d z m l) = 0 := by rw [hpv, if_neg (show ¬ nI 24 = 11 by decide), if_neg (show ¬ nI 24 = 28 by decide)]
  have dcd : f_X3_ofGroupThree N = f_X3_pair 43 (f_X3_operand N) (f_X3_operand N) 1 (f_X3_isRowToLoad N) N := dd_24 hcc
  rw [dcd]
  unfold f_X3_isRowToLoad
  rw [q_op h hw, q_m h hw]
  have ft : f_X11_fits (eB m l) 1 4 = f_X9_isControl (eB m l) := (fitC ⟨m, hm⟩ ⟨l, hl8⟩).2.1
  have hl2 : f_X11_isLegal (wd 3 r d z m l) = (if nI m = 3 then 1 else (if (f_X11_fits (eB m l) 1 4) = 0 then 0 else 1)) := by
    rw [hlg, ll_24, eBm hm hl8]
  rw [ft] at hl2
  refine EX_pair hw (by rw [hl2]) (by decide) (fun _ => iff_of_true rfl hpv0) (fun c D N B d0 d1 d2 d3 hR => ?_)
  have ct : m = 3 ∨ m = 2 ∨ m = 5 ∨ m = 6 ∨ (m = 7 ∧ l ≤ 3) := by
    by_cases c3 : m = 3
    · exact Or.inl c3
    · rw [if_neg (nq_3 c3 (by omega))] at c
      by_cases c2 : f_X9_isControl (eB m l) = 0
      · rw [if_pos c2] at c; exact absurd rfl c
      · exact Or.inr (ctE hm hl8 c2)
  rw [pfx_43, hpg, tt_24]
  exact ldM hR (by decide) hl8 d1 d2 ct
theorem EX_3_25 {r d z m l : Nat} {N : St} (h : wB 3 r d z m l) (hc : 8 * r + (4 * d + z) = 25) (hw : N 11 0 = wd 3 r d z m l) : EX (wd 3 r d z m l) (f_X3_ofGroupThree N) := by
  obtain ⟨_, hr, hd, hz, hm, hl8⟩ := id h
  have hlg := lg_3 h
  rw [hc] at hlg
  have hpv := pv3 h
  rw [hc] at hpv
  have hpg : ∀ B, f_X11_perform (wd 3 r d z m l) B = f_X11_three (nI 25) (eB m l) B := fun B => by rw [pg_3 h, hc]
  have hcc : (ius (N 11 0) 6) &&& 63 = nI 25 := by rw [hw, (wd_c h).1, hc]
  have hpv0 : f_X11_isPrivileged (wd 3 r d z m l) = 0 := by rw [hpv, if_neg (show ¬ nI 25 = 11 by decide), if_neg (show ¬ nI 25 = 28 by decide)]
  have dcd : f_X3_ofGroupThree N = f_X3_pair 43 (f_X3_operand N) (f_X3_operand N) 2 (f_X3_isRowToLoad N) N := dd_25 hcc
  rw [dcd]
  unfold f_X3_isRowToLoad
  rw [q_op h hw, q_m h hw]
  have ft : f_X11_fits (eB m l) 1 4 = f_X9_isControl (eB m l) := (fitC ⟨m, hm⟩ ⟨l, hl8⟩).2.1
  have hl2 : f_X11_isLegal (wd 3 r d z m l) = (if nI m = 3 then 1 else (if (f_X11_fits (eB m l) 1 4) = 0 then 0 else 1)) := by
    rw [hlg, ll_25, eBm hm hl8]
  rw [ft] at hl2
  refine EX_pair hw (by rw [hl2]) (by decide) (fun _ => iff_of_true rfl hpv0) (fun c D N B d0 d1 d2 d3 hR => ?_)
  have ct : m = 3 ∨ m = 2 ∨ m = 5 ∨ m = 6 ∨ (m = 7 ∧ l ≤ 3) := by
    by_cases c3 : m = 3
    · exact Or.inl c3
    · rw [if_neg (nq_3 c3 (by omega))] at c
      by_cases c2 : f_X9_isControl (eB m l) = 0
      · rw [if_pos c2] at c; exact absurd rfl c
      · exact Or.inr (ctE hm hl8 c2)
  rw [pfx_43, hpg, tt_25]
  exact ldM hR (by decide) hl8 d1 d2 ct
theorem EX_3_26 {r d z m l : Nat} {N : St} (h : wB 3 r d z m l) (hc : 8 * r + (4 * d + z) = 26) (hw : N 11 0 = wd 3 r d z m l) : EX (wd 3 r d z m l) (f_X3_ofGroupThree N) := by
  obtain ⟨_, hr, hd, hz, hm, hl8⟩ := id h
  have hlg := lg_3 h
  rw [hc] at hlg
  have hpv := pv3 h
  rw [hc] at hpv
  have hpg : ∀ B, f_X11_perform (wd 3 r d z m l) B = f_X11_three (nI 26) (eB m l) B := fun B => by rw [pg_3 h, hc]
  have hcc : (ius (N 11 0) 6) &&& 63 = nI 26 := by rw [hw, (wd_c h).1, hc]
  have hpv0 : f_X11_isPrivileged (wd 3 r d z m l) = 0 := by rw [hpv, if_neg (show ¬ nI 26 = 11 by decide), if_neg (show ¬ nI 26 = 28 by decide)]
  have dcd : f_X3_ofGroupThree N = f_X3_pair 46 (f_X3_operand N) (f_X3_operand N) 2 (f_X9_isControl (f_X3_operand N)) N := dd_26 hcc
  rw [dcd, q_op h hw]
  have ft : f_X11_fits (eB m l) 2 4 = f_X9_isControl (eB m l) := (fitC ⟨m, hm⟩ ⟨l, hl8⟩).1
  have hl2 : f_X11_isLegal (wd 3 r d z m l) = f_X9_isControl (eB m l) := hlg.trans ((ll_26 (e := eB m l)).trans ft)
  refine EX_pair hw (by rw [hl2]) (by decide) (fun _ => iff_of_true rfl hpv0) (fun c D N B d0 d1 d2 d3 hR => ?_)
  obtain ⟨a1, a2⟩ := adrs hR d2 hl8 (ctE hm hl8 c)
  rw [pf_46, hpg, tt_26]
  unfold f_X4_call
  simp only [xb_l, if_true]
  rw [g_X11_push rfl]
  have p := push (s := 2) (v := (f_X4_address (xup (xup N 12 6 0) 12 7 0)).2 2 17) (v' := (f_X11_find (eB m l) 2 B) 15 17) a1 (by decide) (fun e => by rw [(a1.g e).reg 17 (by decide)])
  exact p.setr (by decide) (fun e => (a2 (stk_push e)).2)
theorem EX_3_27 {r d z m l : Nat} {N : St} (h : wB 3 r d z m l) (hc : 8 * r + (4 * d + z) = 27) (hw : N 11 0 = wd 3 r d z m l) : EX (wd 3 r d z m l) (f_X3_ofGroupThree N) := by
  obtain ⟨_, hr, hd, hz, hm, hl8⟩ := id h
  have hlg := lg_3 h
  rw [hc] at hlg
  have hpv := pv3 h
  rw [hc] at hpv
  have hpg : ∀ B, f_X11_perform (wd 3 r d z m l) B = f_X11_three (nI 27) (eB m l) B := fun B => by rw [pg_3 h, hc]
  have hcc : (ius (N 11 0) 6) &&& 63 = nI 27 := by rw [hw, (wd_c h).1, hc]
  have hpv0 : f_X11_isPrivileged (wd 3 r d z m l) = 0 := by rw [hpv, if_neg (show ¬ nI 27 = 11 by decide), if_neg (show ¬ nI 27 = 28 by decide)]
  have dcd : f_X3_ofGroupThree N = f_X3_pair 47 (f_X3_operand N) (f_X3_operand N) 2 (f_X9_isControl (f_X3_operand N)) N := dd_27 hcc
  rw [dcd, q_op h hw]
  have ft : f_X11_fits (eB m l) 2 4 = f_X9_isControl (eB m l) := (fitC ⟨m, hm⟩ ⟨l, hl8⟩).1
  have hl2 : f_X11_isLegal (wd 3 r d z m l) = f_X9_isControl (eB m l) := hlg.trans ((ll_27 (e := eB m l)).trans ft)
  refine EX_pair hw (by rw [hl2]) (by decide) (fun _ => iff_of_true rfl hpv0) (fun c D N B d0 d1 d2 d3 hR => ?_)
  obtain ⟨a1, a2⟩ := adrs hR d2 hl8 (ctE hm hl8 c)
  rw [pf_47, hpg, tt_27]
  exact a1.setr (by decide) (fun e => (a2 e).2)
