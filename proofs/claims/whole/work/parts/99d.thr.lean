/-! group 3 -/
theorem EX_3_28 {r d z m l : Nat} {N : St} (h : wB 3 r d z m l) (hc : 8 * r + (4 * d + z) = 28) (hw : N 11 0 = wd 3 r d z m l) : EX (wd 3 r d z m l) (f_X3_ofGroupThree N) := by
  obtain ⟨_, hr, hd, hz, hm, hl8⟩ := id h
  have hlg := lg_3 h
  rw [hc] at hlg
  have hpv := pv3 h
  rw [hc] at hpv
  have hpg : ∀ B, f_X11_perform (wd 3 r d z m l) B = f_X11_three (nI 28) (eB m l) B := fun B => by rw [pg_3 h, hc]
  have hcc : (ius (N 11 0) 6) &&& 63 = nI 28 := by rw [hw, (wd_c h).1, hc]
  have dcd : f_X3_ofGroupThree N = (f_X3_withoutOperands N, N) := dd_28 hcc
  have hl2 : f_X11_isLegal (wd 3 r d z m l) = (if m = 7 ∨ (m = 6 ∧ l = 4) then 0 else 1) := hlg.trans (leg28 ⟨m, hm⟩ ⟨l, hl8⟩)
  have hp2 : f_X11_isPrivileged (wd 3 r d z m l) = (if m = 4 ∨ m = 5 ∨ (m = 6 ∧ (l = 0 ∨ l = 2 ∨ l = 3)) then 1 else 0) := hpv.trans (prv28 ⟨m, hm⟩ ⟨l, hl8⟩)
  have h28 : ∀ B, f_X11_three (nI 28) (eB m l) B = f_X11_system (eB m l) B := fun B => tt_28
  rw [dcd]
  unfold f_X3_withoutOperands f_X3_ofLastEight
  rw [q_m h hw, q_l h hw]
  rcases (show m = 0 ∨ m = 1 ∨ m = 2 ∨ m = 3 ∨ m = 4 ∨ m = 5 ∨ m = 6 ∨ m = 7 by omega) with rfl | rfl | rfl | rfl | rfl | rfl | rfl | rfl
  · rw [if_pos (show nI 0 = 0 from rfl)]
    refine EX_lit hw (by rw [hl2, if_neg (by omega)]; decide) (by decide) (iff_of_true rfl (by rw [hp2, if_neg (by omega)])) (fun D N B d0 hR => ?_)
    have hX : (xup (xup N 12 6 0) 12 7 0) 11 0 = wd 3 r d z 0 l := by rw [hR.d, d0]
    rw [pf_53, hpg, h28]
    unfold f_X11_system
    rw [eBm (by decide) hl8, if_pos (show nI 0 = 0 from rfl)]
    unfold f_X11_system_52
    rw [hX, w15 h (by decide)]
    exact hR.trap (fun _ => rfl)
  · rw [if_neg (show ¬ nI 1 = 0 by decide), if_pos (show nI 1 = 1 from rfl)]
    refine EX_lit hw (by rw [hl2, if_neg (by omega)]; decide) (by decide) (iff_of_true rfl (by rw [hp2, if_neg (by omega)])) (fun D N B d0 hR => ?_)
    have hX : (xup (xup N 12 6 0) 12 7 0) 11 0 = wd 3 r d z 1 l := by rw [hR.d, d0]
    rw [pf_53, hpg, h28]
    unfold f_X11_system
    rw [eBm (by decide) hl8, if_neg (show ¬ nI 1 = 0 by decide), if_pos (show nI 1 = 1 from rfl)]
    unfold f_X11_system_52
    rw [hX, w15 h (by decide)]
    exact hR.trap (fun _ => rfl)
  · rw [if_neg (show ¬ nI 2 = 0 by decide), if_neg (show ¬ nI 2 = 1 by decide), if_pos (show nI 2 = 2 from rfl)]
    refine EX_lit hw (by rw [hl2, if_neg (by omega)]; decide) (by decide) (iff_of_true rfl (by rw [hp2, if_neg (by omega)])) (fun D N B d0 hR => ?_)
    have hX : (xup (xup N 12 6 0) 12 7 0) 11 0 = wd 3 r d z 2 l := by rw [hR.d, d0]
    rw [pfx_55, hpg, h28]
    unfold f_X11_system
    rw [eBm (by decide) hl8, if_neg (show ¬ nI 2 = 0 by decide), if_neg (show ¬ nI 2 = 1 by decide), if_pos (show nI 2 = 2 from rfl)]
    rw [eBr (by decide) hl8, n8r, nI_clamp (show 8 + l < 2 ^ 31 by omega)]
    exact lnk hR hl8 (fun A' hA => q_l h (by rw [hA, d0]))
  · rw [if_neg (show ¬ nI 3 = 0 by decide), if_neg (show ¬ nI 3 = 1 by decide), if_neg (show ¬ nI 3 = 2 by decide), if_pos (show nI 3 = 3 from rfl)]
    refine EX_lit hw (by rw [hl2, if_neg (by omega)]; decide) (by decide) (iff_of_true rfl (by rw [hp2, if_neg (by omega)])) (fun D N B d0 hR => ?_)
    have hX : (xup (xup N 12 6 0) 12 7 0) 11 0 = wd 3 r d z 3 l := by rw [hR.d, d0]
    rw [pfx_56, hpg, h28]
    unfold f_X11_system
    rw [eBm (by decide) hl8, if_neg (show ¬ nI 3 = 0 by decide), if_neg (show ¬ nI 3 = 1 by decide), if_neg (show ¬ nI 3 = 2 by decide), if_pos (show nI 3 = 3 from rfl)]
    rw [eBr (by decide) hl8, n8r, nI_clamp (show 8 + l < 2 ^ 31 by omega)]
    exact unl hR hl8 (q_l h hX)
  · rw [if_neg (show ¬ nI 4 = 0 by decide), if_neg (show ¬ nI 4 = 1 by decide), if_neg (show ¬ nI 4 = 2 by decide), if_neg (show ¬ nI 4 = 3 by decide), if_pos (show nI 4 = 4 from rfl)]
    refine EX_lit hw (by rw [hl2, if_neg (by omega)]; decide) (by decide) (iff_of_false (by decide) (by rw [hp2, if_pos (by omega)]; decide)) (fun D N B d0 hR => ?_)
    have hX : (xup (xup N 12 6 0) 12 7 0) 11 0 = wd 3 r d z 4 l := by rw [hR.d, d0]
    rw [pf_57, hpg, h28]
    unfold f_X11_system
    rw [eBm (by decide) hl8, if_neg (show ¬ nI 4 = 0 by decide), if_neg (show ¬ nI 4 = 1 by decide), if_neg (show ¬ nI 4 = 2 by decide), if_neg (show ¬ nI 4 = 3 by decide), if_pos (show nI 4 = 4 from rfl)]
    rw [eBr (by decide) hl8, n8r, nI_clamp (show 8 + l < 2 ^ 31 by omega)]
    rw [q_l h hX, n8r, nI_clamp (show 8 + l < 2 ^ 31 by omega)]
    exact hR.setr (by decide) (fun e => (hR.g e).reg (8 + l) (by omega))
  · rw [if_neg (show ¬ nI 5 = 0 by decide), if_neg (show ¬ nI 5 = 1 by decide), if_neg (show ¬ nI 5 = 2 by decide), if_neg (show ¬ nI 5 = 3 by decide), if_neg (show ¬ nI 5 = 4 by decide), if_pos (show nI 5 = 5 from rfl)]
    refine EX_lit hw (by rw [hl2, if_neg (by omega)]; decide) (by decide) (iff_of_false (by decide) (by rw [hp2, if_pos (by omega)]; decide)) (fun D N B d0 hR => ?_)
    have hX : (xup (xup N 12 6 0) 12 7 0) 11 0 = wd 3 r d z 5 l := by rw [hR.d, d0]
    rw [pf_58, hpg, h28]
    unfold f_X11_system
    rw [eBm (by decide) hl8, if_neg (show ¬ nI 5 = 0 by decide), if_neg (show ¬ nI 5 = 1 by decide), if_neg (show ¬ nI 5 = 2 by decide), if_neg (show ¬ nI 5 = 3 by decide), if_neg (show ¬ nI 5 = 4 by decide), if_pos (show nI 5 = 5 from rfl)]
    rw [eBr (by decide) hl8, n8r, nI_clamp (show 8 + l < 2 ^ 31 by omega)]
    rw [q_l h hX, n8r, nI_clamp (show 8 + l < 2 ^ 31 by omega)]
    exact hR.setr (by omega) (fun e => (hR.g e).reg 16 (by decide))
  · rw [if_neg (show ¬ nI 6 = 0 by decide), if_neg (show ¬ nI 6 = 1 by decide), if_neg (show ¬ nI 6 = 2 by decide), if_neg (show ¬ nI 6 = 3 by decide), if_neg (show ¬ nI 6 = 4 by decide), if_neg (show ¬ nI 6 = 5 by decide), if_pos (show nI 6 = 6 from rfl)]
    rcases (show l = 0 ∨ l = 1 ∨ l = 2 ∨ l = 3 ∨ l = 4 ∨ l = 5 ∨ l = 6 ∨ l = 7 by omega) with rfl | rfl | rfl | rfl | rfl | rfl | rfl | rfl
    · rw [if_pos (show nI 0 = 0 from rfl)]
      refine EX_lit hw (by rw [hl2, if_neg (by omega)]; decide) (by decide) (iff_of_false (by decide) (by rw [hp2, if_pos (by omega)]; decide)) (fun D N B d0 hR => ?_)
      rw [pfx_59, hpg, h28, sy6 (by decide), rs_0]
      exact hR.quiet
    · rw [if_neg (show ¬ nI 1 = 0 by decide), if_pos (show nI 1 = 1 from rfl)]
      refine EX_lit hw (by rw [hl2, if_neg (by omega)]; decide) (by decide) (iff_of_true rfl (by rw [hp2, if_neg (by omega)])) (fun D N B d0 hR => ?_)
      rw [pf_60, hpg, h28, sy6 (by decide), rs_1]
      exact hR
    · rw [if_neg (show ¬ nI 2 = 0 by decide), if_neg (show ¬ nI 2 = 1 by decide), if_pos (show nI 2 = 2 from rfl)]
      refine EX_lit hw (by rw [hl2, if_neg (by omega)]; decide) (by decide) (iff_of_false (by decide) (by rw [hp2, if_pos (by omega)]; decide)) (fun D N B d0 hR => ?_)
      rw [pfx_61, hpg, h28, sy6 (by decide), rs_2]
      exact stp hR
    · rw [if_neg (show ¬ nI 3 = 0 by decide), if_neg (show ¬ nI 3 = 1 by decide), if_neg (show ¬ nI 3 = 2 by decide), if_pos (show nI 3 = 3 from rfl)]
      refine EX_lit hw (by rw [hl2, if_neg (by omega)]; decide) (by decide) (iff_of_false (by decide) (by rw [hp2, if_pos (by omega)]; decide)) (fun D N B d0 hR => ?_)
      rw [pfx_52, hpg, h28, sy6 (by decide), rs_3]
      exact rte hR
    · rw [if_neg (show ¬ nI 4 = 0 by decide), if_neg (show ¬ nI 4 = 1 by decide), if_neg (show ¬ nI 4 = 2 by decide), if_neg (show ¬ nI 4 = 3 by decide), if_pos (show nI 4 = 4 from rfl)]
      exact EX_not (by rw [hl2, if_pos (by omega)])
    · rw [if_neg (show ¬ nI 5 = 0 by decide), if_neg (show ¬ nI 5 = 1 by decide), if_neg (show ¬ nI 5 = 2 by decide), if_neg (show ¬ nI 5 = 3 by decide), if_neg (show ¬ nI 5 = 4 by decide), if_pos (show nI 5 = 5 from rfl)]
      refine EX_lit hw (by rw [hl2, if_neg (by omega)]; decide) (by decide) (iff_of_true rfl (by rw [hp2, if_neg (by omega)])) (fun D N B d0 hR => ?_)
      rw [pf_50, hpg, h28, sy6 (by decide), rs_5]
      exact rts hR
    · rw [if_neg (show ¬ nI 6 = 0 by decide), if_neg (show ¬ nI 6 = 1 by decide), if_neg (show ¬ nI 6 = 2 by decide), if_neg (show ¬ nI 6 = 3 by decide), if_neg (show ¬ nI 6 = 4 by decide), if_neg (show ¬ nI 6 = 5 by decide), if_pos (show nI 6 = 6 from rfl)]
      refine EX_lit hw (by rw [hl2, if_neg (by omega)]; decide) (by decide) (iff_of_true rfl (by rw [hp2, if_neg (by omega)])) (fun D N B d0 hR => ?_)
      rw [pf_54, hpg, h28, sy6 (by decide), rs_6]
      unfold f_X4_performRest_225
      have xz : xup (xup (xup N 12 6 0) 12 7 0) 12 6 0 = xup (xup N 12 6 0) 12 7 0 := by
        rw [xup_comm (show ¬ (12 = 12 ∧ 7 = 6) by decide), xup_xup]
      rw [xz]
      by_cases e : (xup (xup N 12 6 0) 12 7 0) 4 10 = 0
      · rw [has_eq 2 (hR.g e).s0]
        split
        · exact hR
        · exact hR.trap (fun _ => rfl)
      · exact hR.bad e (FA.i FA.r FA.r.x12) (FB.i FB.r FB.r.x23)
    · rw [if_neg (show ¬ nI 7 = 0 by decide), if_neg (show ¬ nI 7 = 1 by decide), if_neg (show ¬ nI 7 = 2 by decide), if_neg (show ¬ nI 7 = 3 by decide), if_neg (show ¬ nI 7 = 4 by decide), if_neg (show ¬ nI 7 = 5 by decide), if_neg (show ¬ nI 7 = 6 by decide), if_pos (show nI 7 = 7 from rfl)]
      refine EX_lit hw (by rw [hl2, if_neg (by omega)]; decide) (by decide) (iff_of_true rfl (by rw [hp2, if_neg (by omega)])) (fun D N B d0 hR => ?_)
      rw [pfx_51, hpg, h28, sy6 (by decide), rs_7]
      exact rtr hR
  · rw [if_neg (show ¬ nI 7 = 0 by decide), if_neg (show ¬ nI 7 = 1 by decide), if_neg (show ¬ nI 7 = 2 by decide), if_neg (show ¬ nI 7 = 3 by decide), if_neg (show ¬ nI 7 = 4 by decide), if_neg (show ¬ nI 7 = 5 by decide), if_neg (show ¬ nI 7 = 6 by decide)]
    exact EX_not (by rw [hl2, if_pos (by omega)])
