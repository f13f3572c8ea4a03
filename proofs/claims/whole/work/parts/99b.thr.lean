/-! group 3 -/
theorem EX_3_20 {r d z m l : Nat} {N : St} (h : wB 3 r d z m l) (hc : 8 * r + (4 * d + z) = 20) (hw : N 11 0 = wd 3 r d z m l) : EX (wd 3 r d z m l) (f_X3_ofGroupThree N) := by
  obtain ⟨_, hr, hd, hz, hm, hl8⟩ := id h
  have hlg := lg_3 h
  rw [hc] at hlg
  have hpv := pv3 h
  rw [hc] at hpv
  have hpg : ∀ B, f_X11_perform (wd 3 r d z m l) B = f_X11_three (nI 20) (eB m l) B := fun B => by rw [pg_3 h, hc]
  have hcc : (ius (N 11 0) 6) &&& 63 = nI 20 := by rw [hw, (wd_c h).1, hc]
  have hpv0 : f_X11_isPrivileged (wd 3 r d z m l) = 0 := by rw [hpv, if_neg (show ¬ nI 20 = 11 by decide), if_neg (show ¬ nI 20 = 28 by decide)]
  have dcd : f_X3_ofGroupThree N = (if (f_X3_mode N) = 0 then f_X3_pair 40 (f_X3_operand N) (f_X3_operand N) 2 1 N else f_X3_pair 45 (f_X3_operand N) (f_X3_operand N) 2 (f_X9_isControl (f_X3_operand N)) N) := dd_20 hcc
  rw [dcd, q_op h hw, q_m h hw]
  have ft : f_X11_fits (eB m l) 2 4 = f_X9_isControl (eB m l) := (fitC ⟨m, hm⟩ ⟨l, hl8⟩).1
  have hl2 : f_X11_isLegal (wd 3 r d z m l) = (if nI m = 0 then 1 else (if f_X9_isControl (eB m l) = 0 then 0 else 1)) := by
    rw [hlg, ll_20, eBm hm hl8, ft]
  have h20 : ∀ B, f_X11_three (nI 20) (eB m l) B = (xb (f_X11_find (eB m l) 2 B) fun q62 => (if (q62 14 25) = 16 then (xb (f_X11_push 2 (q62 14 26) q62) fun q71 => q71) else (xb (f_X11_test 2 ((xup q62 15 (q62 14 25).toNatClampNeg (((q62 15 (q62 14 25).toNatClampNeg) <<< ((16 : Int32) &&& 31)) ||| (ius (q62 15 (q62 14 25).toNatClampNeg) 16))) 15 (q62 14 25).toNatClampNeg) (xup q62 15 (q62 14 25).toNatClampNeg (((q62 15 (q62 14 25).toNatClampNeg) <<< ((16 : Int32) &&& 31)) ||| (ius (q62 15 (q62 14 25).toNatClampNeg) 16)))) fun q67 => q67))) := fun B => tt_20
  by_cases m0 : m = 0
  · subst m0
    rw [if_pos (show nI 0 = 0 from rfl)] at hl2 ⊢
    refine EX_pair hw (iff_of_false (by rw [hl2]; decide) (by decide)) (by decide) (fun _ => iff_of_true rfl hpv0) (fun c D N B d0 d1 d2 d3 hR => ?_)
    have hX : (xup (xup N 12 6 0) 12 7 0) 11 0 = wd 3 r d z 0 l := by rw [hR.d, d0]
    rw [pfx_40, hpg, h20]
    have hQ : R id D (xup (xup N 12 6 0) 12 7 0) (f_X11_find (eB 0 l) 2 B) := by
      rw [find35 (by decide) hl8, fmo0]
      exact hR.set25.set26
    have h25 : (f_X11_find (eB 0 l) 2 B) 14 25 = nI l := (f25W (by decide) (by unfold okW; omega)).trans (if_pos rfl)
    unfold f_X4_swap
    simp only [xb_l]
    rw [q_l h hX, nIl hl8]
    generalize f_X11_find (eB 0 l) 2 B = Q at hQ h25 ⊢
    rw [h25, if_neg (nq_16 (n := l) (by omega) (by omega)), nIl hl8, xs4]
    exact tst_set hQ (by omega) (fun e => by rw [(hQ.g e).reg l (by omega)])
  · rw [if_neg (nzi m0 hm)] at hl2 ⊢
    refine EX_pair hw ?_ (by decide) (fun _ => iff_of_true rfl hpv0) (fun c D N B d0 d1 d2 d3 hR => ?_)
    · rw [hl2]
      by_cases c : f_X9_isControl (eB m l) = 0
      · rw [if_pos c, c]
      · rw [if_neg c]; exact iff_of_false (by decide) c
    · have ct := ctE hm hl8 c
      obtain ⟨a1, a2⟩ := adrs hR d2 hl8 ct
      rw [pf_45, hpg, h20]
      simp only [xb_l, if_true]
      rw [f25W (by decide) (by unfold okW; omega), if_neg m0, if_pos (show (16 : Int32) = 16 from rfl)]
      exact push a1 (by decide) (fun e => by rw [(a2 e).2])
theorem EX_3_21 {r d z m l : Nat} {N : St} (h : wB 3 r d z m l) (hc : 8 * r + (4 * d + z) = 21) (hw : N 11 0 = wd 3 r d z m l) : EX (wd 3 r d z m l) (f_X3_ofGroupThree N) := by
  obtain ⟨_, hr, hd, hz, hm, hl8⟩ := id h
  have hlg := lg_3 h
  rw [hc] at hlg
  have hpv := pv3 h
  rw [hc] at hpv
  have hpg : ∀ B, f_X11_perform (wd 3 r d z m l) B = f_X11_three (nI 21) (eB m l) B := fun B => by rw [pg_3 h, hc]
  have hcc : (ius (N 11 0) 6) &&& 63 = nI 21 := by rw [hw, (wd_c h).1, hc]
  have hpv0 : f_X11_isPrivileged (wd 3 r d z m l) = 0 := by rw [hpv, if_neg (show ¬ nI 21 = 11 by decide), if_neg (show ¬ nI 21 = 28 by decide)]
  have dcd : f_X3_ofGroupThree N = (if (f_X3_mode N) = 0 then f_X3_pair 41 (f_X3_operand N) (f_X3_operand N) 1 1 N else f_X3_pair 42 (f_X3_operand N) (f_X3_operand N) 1 (f_X3_isRowToStore N) N) := dd_21 hcc
  rw [dcd]
  unfold f_X3_isRowToStore
  rw [q_op h hw, q_m h hw]
  have ft : f_X11_fits (eB m l) 1 12 = (if f_X9_isOpen (eB m l) = 0 then 0 else f_X9_isControl (eB m l)) := (fitC ⟨m, hm⟩ ⟨l, hl8⟩).2.2
  have hl2 : f_X11_isLegal (wd 3 r d z m l) = (if nI m = 0 then 1 else (if nI m = 4 then 1 else (if (f_X11_fits (eB m l) 1 12) = 0 then 0 else 1))) := by
    rw [hlg, ll_21, eBm hm hl8]
  rw [ft] at hl2
  have h2x : ∀ B, f_X11_three (nI 21) (eB m l) B = f_X11_extendOrStore 1 (eB m l) B := fun B => tt_21
  by_cases m0 : m = 0
  · subst m0
    rw [if_pos (show nI 0 = 0 from rfl)] at hl2 ⊢
    refine EX_pair hw (iff_of_false (by rw [hl2]; decide) (by decide)) (by decide) (fun _ => iff_of_true rfl hpv0) (fun c D N B d0 d1 d2 d3 hR => ?_)
    rw [eB0] at d3
    have ex := extd (s := 1) (t := 0) hR (by decide) hl8 d1 d3
    rw [pfx_41, hpg, h2x]
    unfold f_X11_extendOrStore
    rw [eBm (by decide) hl8, if_pos (show nI 0 = 0 from rfl), eBr (by decide) hl8, nIl hl8]
    exact ex
  · rw [if_neg (nzi m0 hm)] at hl2 ⊢
    refine EX_pair hw ?_ (by decide) (fun _ => iff_of_true rfl hpv0) (fun c D N B d0 d1 d2 d3 hR => ?_)
    · rw [hl2]
      by_cases c4 : nI m = 4
      · rw [if_pos c4, if_pos c4]
      · rw [if_neg c4, if_neg c4]
        by_cases c1 : f_X9_isOpen (eB m l) = 0
        · rw [if_pos c1, if_pos c1, if_pos (show (0 : Int32) = 0 from rfl)]
        · rw [if_neg c1, if_neg c1]
    · have ct : m = 4 ∨ m = 2 ∨ m = 5 ∨ m = 6 ∨ (m = 7 ∧ l ≤ 3) := by
        by_cases c4 : m = 4
        · exact Or.inl c4
        · rw [if_neg (nq_4 c4 (by omega))] at c
          by_cases c1 : f_X9_isOpen (eB m l) = 0
          · rw [if_pos c1] at c; exact absurd rfl c
          · rw [if_neg c1] at c
            by_cases c2 : f_X9_isControl (eB m l) = 0
            · rw [if_pos c2] at c; exact absurd rfl c
            · exact Or.inr (ctE hm hl8 c2)
      rw [pfx_42, hpg, h2x]
      exact stM hR (by decide) hl8 d1 d3 ct
theorem EX_3_22 {r d z m l : Nat} {N : St} (h : wB 3 r d z m l) (hc : 8 * r + (4 * d + z) = 22) (hw : N 11 0 = wd 3 r d z m l) : EX (wd 3 r d z m l) (f_X3_ofGroupThree N) := by
  obtain ⟨_, hr, hd, hz, hm, hl8⟩ := id h
  have hlg := lg_3 h
  rw [hc] at hlg
  have hpv := pv3 h
  rw [hc] at hpv
  have hpg : ∀ B, f_X11_perform (wd 3 r d z m l) B = f_X11_three (nI 22) (eB m l) B := fun B => by rw [pg_3 h, hc]
  have hcc : (ius (N 11 0) 6) &&& 63 = nI 22 := by rw [hw, (wd_c h).1, hc]
  have hpv0 : f_X11_isPrivileged (wd 3 r d z m l) = 0 := by rw [hpv, if_neg (show ¬ nI 22 = 11 by decide), if_neg (show ¬ nI 22 = 28 by decide)]
  have dcd : f_X3_ofGroupThree N = (if (f_X3_mode N) = 0 then f_X3_pair 41 (f_X3_operand N) (f_X3_operand N) 2 1 N else f_X3_pair 42 (f_X3_operand N) (f_X3_operand N) 2 (f_X3_isRowToStore N) N) := dd_22 hcc
  rw [dcd]
  unfold f_X3_isRowToStore
  rw [q_op h hw, q_m h hw]
  have ft : f_X11_fits (eB m l) 1 12 = (if f_X9_isOpen (eB m l) = 0 then 0 else f_X9_isControl (eB m l)) := (fitC ⟨m, hm⟩ ⟨l, hl8⟩).2.2
  have hl2 : f_X11_isLegal (wd 3 r d z m l) = (if nI m = 0 then 1 else (if nI m = 4 then 1 else (if (f_X11_fits (eB m l) 1 12) = 0 then 0 else 1))) := by
    rw [hlg, ll_22, eBm hm hl8]
  rw [ft] at hl2
  have h2x : ∀ B, f_X11_three (nI 22) (eB m l) B = f_X11_extendOrStore 2 (eB m l) B := fun B => tt_22
  by_cases m0 : m = 0
  · subst m0
    rw [if_pos (show nI 0 = 0 from rfl)] at hl2 ⊢
    refine EX_pair hw (iff_of_false (by rw [hl2]; decide) (by decide)) (by decide) (fun _ => iff_of_true rfl hpv0) (fun c D N B d0 d1 d2 d3 hR => ?_)
    rw [eB0] at d3
    have ex := extd (s := 2) (t := 1) hR (by decide) hl8 d1 d3
    rw [pfx_41, hpg, h2x]
    unfold f_X11_extendOrStore
    rw [eBm (by decide) hl8, if_pos (show nI 0 = 0 from rfl), eBr (by decide) hl8, nIl hl8]
    exact ex
  · rw [if_neg (nzi m0 hm)] at hl2 ⊢
    refine EX_pair hw ?_ (by decide) (fun _ => iff_of_true rfl hpv0) (fun c D N B d0 d1 d2 d3 hR => ?_)
    · rw [hl2]
      by_cases c4 : nI m = 4
      · rw [if_pos c4, if_pos c4]
      · rw [if_neg c4, if_neg c4]
        by_cases c1 : f_X9_isOpen (eB m l) = 0
        · rw [if_pos c1, if_pos c1, if_pos (show (0 : Int32) = 0 from rfl)]
        · rw [if_neg c1, if_neg c1]
    · have ct : m = 4 ∨ m = 2 ∨ m = 5 ∨ m = 6 ∨ (m = 7 ∧ l ≤ 3) := by
        by_cases c4 : m = 4
        · exact Or.inl c4
        · rw [if_neg (nq_4 c4 (by omega))] at c
          by_cases c1 : f_X9_isOpen (eB m l) = 0
          · rw [if_pos c1] at c; exact absurd rfl c
          · rw [if_neg c1] at c
            by_cases c2 : f_X9_isControl (eB m l) = 0
            · rw [if_pos c2] at c; exact absurd rfl c
            · exact Or.inr (ctE hm hl8 c2)
      rw [pfx_42, hpg, h2x]
      exact stM hR (by decide) hl8 d1 d3 ct
