set_option maxHeartbeats 1000000 in
theorem EX_7 {r d z m l : Nat} {M : St} (h : wB 7 r d z m l) : EX (wd 7 r d z m l) (f_X3_decode (wd 7 r d z m l) M) := by
  have hw : (xup M 11 0 (wd 7 r d z m l)) 11 0 = wd 7 r d z m l := w11
  obtain ⟨_, hr, hd, hz, hm, hl8⟩ := id h
  have hpv : f_X11_isPrivileged (wd 7 r d z m l) = 0 := pvm h (by decide) (by decide)
  rw [dc_7 h]
  unfold f_X3_joining f_X3_joining_123 f_X3_exchanging f_X3_exchanging_26 f_X3_exchanging_30 f_X3_exchanging_57 f_X3_exchanging_62
  simp only [xb_eta, q_op h hw, q_r h hw, q_z h hw, q_d h hw, q_m h hw, q_l h hw, n8r, if_true]
  by_cases z3 : z = 3
  · subst z3
    rw [if_pos (show nI 3 = 3 from rfl)]
    have ft : f_X11_fits (eB m l) 1 1 = f_X9_isData (eB m l) := (fitB ⟨m, hm⟩ ⟨l, hl8⟩ ⟨1, by decide⟩).1
    refine EX_pair hw ?_ (by decide) (fun _ => iff_of_true rfl hpv) (fun c D N B d0 d1 d2 d3 hR => ?_)
    · rw [lg_7 h]
      unfold f_X11_isLegal_283 f_X11_isLegal_293 f_X11_isLegal_304
      rw [if_pos (show nI 3 = 3 from rfl), if_pos (show nI 3 = 3 from rfl), ft]
    · obtain ⟨s1, s2⟩ := src (m := m) (r := l) hR (by decide) (datE hm hl8 c).1 d2 d1
      have hX : (f_X4_readSource (xup (xup N 12 6 0) 12 7 0)).2 11 0 = wd 7 r d 3 m l := by rw [s1.d, d0]
      rw [pf_16, pg_7 h]
      unfold f_X4_multiply f_X4_multiply_46 f_X11_logic f_X11_logic_54
      simp only [xb_l, if_true]
      rw [if_pos (show nI 3 = 3 from rfl), if_neg (show ¬ (1 : Int32) = 0 by decide), q_d h hX, q_r h hX, nIl hr]
      rcases (show d = 0 ∨ d = 1 by omega) with rfl | rfl
      · rw [if_pos (show nI 0 = 0 from rfl), if_pos (show nI 0 = 0 from rfl), xs4]
        exact tst_set s1 (by omega) (fun e => by rw [(s1.g e).reg r (by omega), (s2 e).2.2.1])
      · rw [if_neg (show ¬ nI 1 = 0 by decide), if_neg (show ¬ nI 1 = 0 by decide), xs4]
        refine tst_set s1 (by omega) (fun e => ?_)
        rw [(s1.g e).reg r (by omega), (s2 e).2.2.1]
        show f_X10_extended (_ &&& f_X10_maskOf 1) 1 * _ = _
        rw [ext_mask (Or.inr (Or.inl rfl))]
        rfl
  · have hz3 : z < 3 := by omega
    rw [if_neg (nz3 hz3)]
    rcases (show d = 0 ∨ d = 1 by omega) with rfl | rfl
    · rw [if_pos (show nI 0 = 0 from rfl)]
      have ft : f_X11_fits (eB m l) (nI z) 1 = f_X9_isData (eB m l) := (fitB ⟨m, hm⟩ ⟨l, hl8⟩ ⟨z, hz⟩).1
      refine EX_pair hw ?_ (by decide) (fun _ => iff_of_true rfl hpv) (fun c D N B d0 d1 d2 d3 hR => ?_)
      · rw [lg_7 h]
        unfold f_X11_isLegal_283 f_X11_isLegal_293 f_X11_isLegal_304
        rw [if_neg (nz3 hz3), if_pos (show nI 0 = 0 from rfl), if_neg (nz3 hz3), ft]
      · obtain ⟨s1, s2⟩ := src (m := m) (r := l) hR (sz3 hz3) (datE hm hl8 c).1 d2 d1
        rw [pf_8, pg_7 h]
        unfold f_X4_perform_237 f_X11_logic f_X11_logic_205 f_X11_logic_239 f_X11_logic_264
        simp only [xb_l, if_true]
        rw [if_neg (nz3 hz3), if_pos (show nI 0 = 0 from rfl), if_neg (show ¬ (1 : Int32) = 0 by decide), if_pos (show nI 0 = 0 from rfl), nIl hr]
        exact chgL1 (gg := fun b a => b &&& a) s1 (sz3 hz3) d1 d3 hr (fun b M => cb_8 b _ _ M) (fun e => by rw [(s2 e).2.2.1]; exact mma')
    · rw [if_neg (show ¬ nI 1 = 0 by decide)]
      by_cases mm : m ≤ 1
      · have mi : nI m ≤ 1 := (nI_leI (a := m) (b := 1) (by omega) (by decide)).mpr mm
        rw [if_pos mi]
        rcases (show z = 0 ∨ z = 1 ∨ z = 2 by omega) with rfl | rfl | rfl
        · rw [if_pos (show nI 0 = 0 from rfl)]
          rcases (show m = 0 ∨ m = 1 by omega) with rfl | rfl
          · rw [if_pos (show nI 0 = 0 from rfl)]
            refine EX_pair hw ?_ (by decide) (fun _ => iff_of_true rfl hpv) (fun c D N B d0 d1 d2 d3 hR => ?_)
            · rw [lg_7 h]
              unfold f_X11_isLegal_283
              rw [if_neg (show ¬ nI 0 = 3 by decide), if_neg (show ¬ nI 1 = 0 by decide), if_pos mi, if_pos (show nI 0 = 0 from rfl)]
            · obtain ⟨s1, s2, s3⟩ := srcR hR hl8 d2 d1
              rw [pf_3, pg_7 h]
              unfold f_X4_perform_237 f_X11_logic f_X11_logic_144 f_X11_inTens
              simp only [xb_l, if_true]
              rw [if_neg (show ¬ nI 0 = 3 by decide), if_neg (show ¬ nI 1 = 0 by decide), if_neg (fun e => by have := (e16 (by decide) hl8).mp e; omega), if_pos (show nI 0 = 0 from rfl), if_neg (show ¬ (1 : Int32) = 0 by decide), if_neg (fun e => by have := (e8 (by decide) hl8).mp e; omega), eB0, nIl hr, nIl hl8]
              exact chgT1 s1 d1 d3 hr (Or.inl ⟨rfl, rfl⟩) (fun e => by rw [s3 (s2 ▸ e)]; rfl)
          · rw [if_neg (show ¬ nI 1 = 0 by decide), if_pos (show nI 0 = 0 from rfl)]
            refine EX_pair hw ?_ (by decide) (fun _ => iff_of_true rfl hpv) (fun c D N B d0 d1 d2 d3 hR => ?_)
            · rw [lg_7 h]
              unfold f_X11_isLegal_283
              rw [if_neg (show ¬ nI 0 = 3 by decide), if_neg (show ¬ nI 1 = 0 by decide), if_pos mi, if_pos (show nI 0 = 0 from rfl)]
            · obtain ⟨s1, s2⟩ := src (m := 4) (r := l) hR (by decide) (okE4 hl8) (d2.trans (bef4 ⟨l, hl8⟩)) d1
              rw [pf_3, pg_7 h]
              unfold f_X4_perform_237 f_X11_logic f_X11_logic_144 f_X11_inTens
              simp only [xb_l, if_true]
              rw [if_neg (show ¬ nI 0 = 3 by decide), if_neg (show ¬ nI 1 = 0 by decide), if_neg (fun e => by have := (e16 (by decide) hl8).mp e; omega), if_pos (show nI 0 = 0 from rfl), if_neg (show ¬ (1 : Int32) = 0 by decide), if_pos ((e8 (by decide) hl8).mpr (by decide)), eBr (by decide) hl8, bef hl8, bef hr]
              exact chgT2 s1 d1 (d3.trans (bef4 ⟨r, hr⟩)) (okW4 hr) (Or.inl ⟨rfl, rfl⟩) (fun e => (s2 e).2.2.1)
        · rw [if_neg (show ¬ nI 1 = 0 by decide)]
          rw [if_neg (show ¬ nI 1 = 0 by decide)]
          have hlg : f_X11_isLegal (wd 7 r 1 1 m l) = 1 := by
            rw [lg_7 h]
            unfold f_X11_isLegal_283
            rw [if_neg (show ¬ nI 1 = 3 by decide), if_neg (show ¬ nI 1 = 0 by decide), if_pos mi, if_neg (show ¬ nI 1 = 0 by decide), (wd_g h).2, if_pos (show nI 7 = 7 from rfl), if_pos (show nI 1 = 1 from rfl)]
          rcases (show m = 0 ∨ m = 1 by omega) with rfl | rfl
          · rw [if_pos (show nI 1 = 1 from rfl), if_neg (show ¬ nI 0 = 1 by decide), if_pos (show nI 1 = 1 from rfl)]
            refine EX_pair hw (iff_of_false (by rw [hlg]; decide) (by decide)) (by decide) (fun _ => iff_of_true rfl hpv) (fun c D N B d0 d1 d2 d3 hR => ?_)
            rw [eB0] at d2
            rw [pf_15, pg_7 h]
            unfold f_X4_exchange f_X11_logic f_X11_logic_166 f_X11_logic_179 f_X11_logic_194 f_X11_logic_201 f_X11_exchange
            simp only [xb_l, if_true]
            rw [if_neg (show ¬ nI 1 = 3 by decide), if_neg (show ¬ nI 1 = 0 by decide), if_neg (fun e => by have := (e16 (by decide) hl8).mp e; omega), if_neg (show ¬ nI 1 = 0 by decide)]
            rw [if_pos (show nI 1 = 1 from rfl), if_neg (fun e => by have := (e8 (by decide) hl8).mp e; omega), if_pos (show nI 1 = 1 from rfl), if_neg (fun e => by have := (e8 (by decide) hl8).mp e; omega), hR.d, d2, d3, a15 (by omega), a15 (by omega), eB0, nIl hr, nIl hl8]
            exact xch hR (by omega) (by omega)
          · rw [if_pos (show nI 1 = 1 from rfl), if_pos (show nI 1 = 1 from rfl), if_pos (show nI 1 = 1 from rfl)]
            refine EX_pair hw (iff_of_false (by rw [hlg]; decide) (by decide)) (by decide) (fun _ => iff_of_true rfl hpv) (fun c D N B d0 d1 d2 d3 hR => ?_)
            rw [eB1] at d2
            rw [pf_15, pg_7 h]
            unfold f_X4_exchange f_X11_logic f_X11_logic_166 f_X11_logic_179 f_X11_logic_194 f_X11_logic_201 f_X11_exchange
            simp only [xb_l, if_true]
            rw [if_neg (show ¬ nI 1 = 3 by decide), if_neg (show ¬ nI 1 = 0 by decide), if_neg (fun e => by have := (e16 (by decide) hl8).mp e; omega), if_neg (show ¬ nI 1 = 0 by decide)]
            rw [if_pos (show nI 1 = 1 from rfl), if_pos ((e8 (by decide) hl8).mpr (by decide)), if_pos (show nI 1 = 1 from rfl), if_pos (show nI 1 = 1 from rfl), if_pos ((e8 (by decide) hl8).mpr (by decide)), hR.d, d2, d3, a15 (by omega), a15 (by omega), eBr (by decide) hl8, n8r, n8r, nI_clamp (show 8 + r < 2 ^ 31 by omega), nI_clamp (show 8 + l < 2 ^ 31 by omega)]
            exact xch hR (by omega) (by omega)
        · rw [if_neg (show ¬ nI 2 = 0 by decide)]
          rw [if_neg (show ¬ nI 2 = 0 by decide)]
          have hlg : f_X11_isLegal (wd 7 r 1 2 m l) = (if nI m = 1 then 1 else 0) := by
            rw [lg_7 h]
            unfold f_X11_isLegal_283
            rw [if_neg (show ¬ nI 2 = 3 by decide), if_neg (show ¬ nI 1 = 0 by decide), if_pos mi, if_neg (show ¬ nI 2 = 0 by decide), (wd_g h).2, if_pos (show nI 7 = 7 from rfl), if_neg (show ¬ nI 2 = 1 by decide)]
          rcases (show m = 0 ∨ m = 1 by omega) with rfl | rfl
          · rw [if_neg (show ¬ nI 2 = 1 by decide), if_neg (show ¬ nI 2 = 1 by decide), if_neg (show ¬ nI 0 = 1 by decide)]
            exact EX_bad hlg
          · rw [if_neg (show ¬ nI 2 = 1 by decide), if_neg (show ¬ nI 2 = 1 by decide), if_pos (show nI 1 = 1 from rfl)]
            refine EX_pair hw (iff_of_false (by rw [hlg]; decide) (by decide)) (by decide) (fun _ => iff_of_true rfl hpv) (fun c D N B d0 d1 d2 d3 hR => ?_)
            rw [eB1] at d2
            rw [pf_15, pg_7 h]
            unfold f_X4_exchange f_X11_logic f_X11_logic_166 f_X11_logic_179 f_X11_logic_194 f_X11_logic_201 f_X11_exchange
            simp only [xb_l, if_true]
            rw [if_neg (show ¬ nI 2 = 3 by decide), if_neg (show ¬ nI 1 = 0 by decide), if_neg (fun e => by have := (e16 (by decide) hl8).mp e; omega), if_neg (show ¬ nI 2 = 0 by decide)]
            rw [if_neg (show ¬ nI 2 = 1 by decide), if_neg (show ¬ nI 2 = 1 by decide), if_neg (show ¬ nI 2 = 1 by decide), hR.d, d2, d3, a15 (by omega), a15 (by omega), eBr (by decide) hl8, n8r, nIl hr, nI_clamp (show 8 + l < 2 ^ 31 by omega)]
            exact xch hR (by omega) (by omega)
      · have mi : ¬ nI m ≤ 1 := fun e => mm ((nI_leI (a := m) (b := 1) (by omega) (by decide)).mp e)
        rw [if_neg mi]
        have ft : f_X11_fits (eB m l) (nI z) 10 = f_X9_isOpenMemory (eB m l) := (fitB ⟨m, hm⟩ ⟨l, hl8⟩ ⟨z, hz⟩).2.2
        refine EX_pair hw ?_ (by decide) (fun _ => iff_of_true rfl hpv) (fun c D N B d0 d1 d2 d3 hR => ?_)
        · rw [lg_7 h]
          unfold f_X11_isLegal_283
          rw [if_neg (nz3 hz3), if_neg (show ¬ nI 1 = 0 by decide), if_neg mi, ft]
        · obtain ⟨s1, s2, s3⟩ := srcR hR hr d2 d1
          obtain ⟨ok, m2⟩ := omE hm hl8 c
          rw [pf_8, pg_7 h]
          unfold f_X4_perform_237 f_X11_logic f_X11_logic_205 f_X11_logic_239 f_X11_logic_264
          simp only [xb_l, if_true]
          rw [if_neg (nz3 hz3), if_neg (show ¬ nI 1 = 0 by decide), if_pos ((e16 hm hl8).mpr m2), if_neg (show ¬ (1 : Int32) = 0 by decide), if_neg (show ¬ nI 1 = 0 by decide), nIl hr]
          refine chgL2 (gg := fun b a => b &&& a) s1 (sz3 hz3) d1 d3 ok (fun b M => cb_8 b _ _ M) (fun A2 r2 e2 e1 hk _ => ?_)
          rw [← (r2.g e2).reg r (by omega), hk r hr, (s1.g e1).reg r (by omega), s3 (s2 ▸ e1)]
          exact mma
set_option maxHeartbeats 1000000 in
theorem EX_8 {r d z m l : Nat} {M : St} (h : wB 8 r d z m l) : EX (wd 8 r d z m l) (f_X3_decode (wd 8 r d z m l) M) := by
  have hw : (xup M 11 0 (wd 8 r d z m l)) 11 0 = wd 8 r d z m l := w11
  obtain ⟨_, hr, hd, hz, hm, hl8⟩ := id h
  have hpv : f_X11_isPrivileged (wd 8 r d z m l) = 0 := pvm h (by decide) (by decide)
  rw [dc_8 h]
  unfold f_X3_joining f_X3_joining_123 f_X3_exchanging f_X3_exchanging_26 f_X3_exchanging_30 f_X3_exchanging_57 f_X3_exchanging_62
  simp only [xb_eta, q_op h hw, q_r h hw, q_z h hw, q_d h hw, q_m h hw, q_l h hw, n8r, if_true]
  by_cases z3 : z = 3
  · subst z3
    rw [if_pos (show nI 3 = 3 from rfl)]
    have ft : f_X11_fits (eB m l) 1 1 = f_X9_isData (eB m l) := (fitB ⟨m, hm⟩ ⟨l, hl8⟩ ⟨1, by decide⟩).1
    refine EX_pair hw ?_ (by decide) (fun _ => iff_of_true rfl hpv) (fun c D N B d0 d1 d2 d3 hR => ?_)
    · rw [lg_8 h]
      unfold f_X11_isLegal_283 f_X11_isLegal_293 f_X11_isLegal_304
      rw [if_pos (show nI 3 = 3 from rfl), if_pos (show nI 3 = 3 from rfl), ft]
    · obtain ⟨s1, s2⟩ := src (m := m) (r := l) hR (by decide) (datE hm hl8 c).1 d2 d1
      have hX : (f_X4_readSource (xup (xup N 12 6 0) 12 7 0)).2 11 0 = wd 8 r d 3 m l := by rw [s1.d, d0]
      have dv := dvd (a := (f_X4_readSource (xup (xup N 12 6 0) 12 7 0)).1) (a' := (f_X11_loadAt (eB m l) 1 B).1) s1 hr hd (q_d h hX) (q_r h hX) (fun e => (s2 e).2.2)
      rw [pf_17, pg_8 h]
      unfold f_X11_logic f_X11_logic_97 f_X11_logic_110
      simp only [xb_l, if_true]
      rw [if_pos (show nI 3 = 3 from rfl), nIl hr]
      rcases (show d = 0 ∨ d = 1 by omega) with rfl | rfl
      · rw [if_pos (show nI 0 = 0 from rfl), if_pos (show nI 0 = 0 from rfl)]
        exact dv
      · rw [if_neg (show ¬ nI 1 = 0 by decide), if_neg (show ¬ nI 1 = 0 by decide)]
        exact dv
  · have hz3 : z < 3 := by omega
    rw [if_neg (nz3 hz3)]
    rcases (show d = 0 ∨ d = 1 by omega) with rfl | rfl
    · rw [if_pos (show nI 0 = 0 from rfl)]
      have ft : f_X11_fits (eB m l) (nI z) 1 = f_X9_isData (eB m l) := (fitB ⟨m, hm⟩ ⟨l, hl8⟩ ⟨z, hz⟩).1
      refine EX_pair hw ?_ (by decide) (fun _ => iff_of_true rfl hpv) (fun c D N B d0 d1 d2 d3 hR => ?_)
      · rw [lg_8 h]
        unfold f_X11_isLegal_283 f_X11_isLegal_293 f_X11_isLegal_304
        rw [if_neg (nz3 hz3), if_pos (show nI 0 = 0 from rfl), if_neg (nz3 hz3), ft]
      · obtain ⟨s1, s2⟩ := src (m := m) (r := l) hR (sz3 hz3) (datE hm hl8 c).1 d2 d1
        rw [pf_9, pg_8 h]
        unfold f_X4_perform_237 f_X11_logic f_X11_logic_205 f_X11_logic_239 f_X11_logic_264
        simp only [xb_l, if_true]
        rw [if_neg (nz3 hz3), if_pos (show nI 0 = 0 from rfl), if_pos (show nI 0 = 0 from rfl), nIl hr]
        exact chgL1 (gg := fun b a => b ||| a) s1 (sz3 hz3) d1 d3 hr (fun b M => cb_9 b _ _ M) (fun e => by rw [(s2 e).2.2.1]; exact mmo')
    · rw [if_neg (show ¬ nI 1 = 0 by decide)]
      by_cases mm : m ≤ 1
      · have mi : nI m ≤ 1 := (nI_leI (a := m) (b := 1) (by omega) (by decide)).mpr mm
        rw [if_pos mi]
        rcases (show z = 0 ∨ z = 1 ∨ z = 2 by omega) with rfl | rfl | rfl
        · rw [if_pos (show nI 0 = 0 from rfl)]
          rcases (show m = 0 ∨ m = 1 by omega) with rfl | rfl
          · rw [if_pos (show nI 0 = 0 from rfl)]
            refine EX_pair hw ?_ (by decide) (fun _ => iff_of_true rfl hpv) (fun c D N B d0 d1 d2 d3 hR => ?_)
            · rw [lg_8 h]
              unfold f_X11_isLegal_283
              rw [if_neg (show ¬ nI 0 = 3 by decide), if_neg (show ¬ nI 1 = 0 by decide), if_pos mi, if_pos (show nI 0 = 0 from rfl)]
            · obtain ⟨s1, s2, s3⟩ := srcR hR hl8 d2 d1
              rw [pf_6, pg_8 h]
              unfold f_X4_perform_237 f_X11_logic f_X11_logic_144 f_X11_inTens
              simp only [xb_l, if_true]
              rw [if_neg (show ¬ nI 0 = 3 by decide), if_neg (show ¬ nI 1 = 0 by decide), if_neg (fun e => by have := (e16 (by decide) hl8).mp e; omega), if_pos (show nI 0 = 0 from rfl), if_neg (fun e => by have := (e8 (by decide) hl8).mp e; omega), eB0, nIl hr, nIl hl8]
              exact chgT1 s1 d1 d3 hr (Or.inr ⟨rfl, rfl⟩) (fun e => by rw [s3 (s2 ▸ e)]; rfl)
          · rw [if_neg (show ¬ nI 1 = 0 by decide), if_pos (show nI 0 = 0 from rfl)]
            refine EX_pair hw ?_ (by decide) (fun _ => iff_of_true rfl hpv) (fun c D N B d0 d1 d2 d3 hR => ?_)
            · rw [lg_8 h]
              unfold f_X11_isLegal_283
              rw [if_neg (show ¬ nI 0 = 3 by decide), if_neg (show ¬ nI 1 = 0 by decide), if_pos mi, if_pos (show nI 0 = 0 from rfl)]
            · obtain ⟨s1, s2⟩ := src (m := 4) (r := l) hR (by decide) (okE4 hl8) (d2.trans (bef4 ⟨l, hl8⟩)) d1
              rw [pf_6, pg_8 h]
              unfold f_X4_perform_237 f_X11_logic f_X11_logic_144 f_X11_inTens
              simp only [xb_l, if_true]
              rw [if_neg (show ¬ nI 0 = 3 by decide), if_neg (show ¬ nI 1 = 0 by decide), if_neg (fun e => by have := (e16 (by decide) hl8).mp e; omega), if_pos (show nI 0 = 0 from rfl), if_pos ((e8 (by decide) hl8).mpr (by decide)), eBr (by decide) hl8, bef hl8, bef hr]
              exact chgT2 s1 d1 (d3.trans (bef4 ⟨r, hr⟩)) (okW4 hr) (Or.inr ⟨rfl, rfl⟩) (fun e => (s2 e).2.2.1)
        · rw [if_neg (show ¬ nI 1 = 0 by decide)]
          rw [if_neg (show ¬ nI 1 = 0 by decide), if_neg (show ¬ (9 : Nat) = 8 by decide)]
          refine EX_not ?_
          rw [lg_8 h]
          unfold f_X11_isLegal_283
          rw [if_neg (show ¬ nI 1 = 3 by decide), if_neg (show ¬ nI 1 = 0 by decide), if_pos mi, if_neg (show ¬ nI 1 = 0 by decide), (wd_g h).2, if_neg (show ¬ nI 8 = 7 by decide)]
        · rw [if_neg (show ¬ nI 2 = 0 by decide)]
          rw [if_neg (show ¬ nI 2 = 0 by decide), if_neg (show ¬ (9 : Nat) = 8 by decide)]
          refine EX_not ?_
          rw [lg_8 h]
          unfold f_X11_isLegal_283
          rw [if_neg (show ¬ nI 2 = 3 by decide), if_neg (show ¬ nI 1 = 0 by decide), if_pos mi, if_neg (show ¬ nI 2 = 0 by decide), (wd_g h).2, if_neg (show ¬ nI 8 = 7 by decide)]
      · have mi : ¬ nI m ≤ 1 := fun e => mm ((nI_leI (a := m) (b := 1) (by omega) (by decide)).mp e)
        rw [if_neg mi]
        have ft : f_X11_fits (eB m l) (nI z) 10 = f_X9_isOpenMemory (eB m l) := (fitB ⟨m, hm⟩ ⟨l, hl8⟩ ⟨z, hz⟩).2.2
        refine EX_pair hw ?_ (by decide) (fun _ => iff_of_true rfl hpv) (fun c D N B d0 d1 d2 d3 hR => ?_)
        · rw [lg_8 h]
          unfold f_X11_isLegal_283
          rw [if_neg (nz3 hz3), if_neg (show ¬ nI 1 = 0 by decide), if_neg mi, ft]
        · obtain ⟨s1, s2, s3⟩ := srcR hR hr d2 d1
          obtain ⟨ok, m2⟩ := omE hm hl8 c
          rw [pf_9, pg_8 h]
          unfold f_X4_perform_237 f_X11_logic f_X11_logic_205 f_X11_logic_239 f_X11_logic_264
          simp only [xb_l, if_true]
          rw [if_neg (nz3 hz3), if_neg (show ¬ nI 1 = 0 by decide), if_pos ((e16 hm hl8).mpr m2), if_neg (show ¬ nI 1 = 0 by decide), nIl hr]
          refine chgL2 (gg := fun b a => b ||| a) s1 (sz3 hz3) d1 d3 ok (fun b M => cb_9 b _ _ M) (fun A2 r2 e2 e1 hk _ => ?_)
          rw [← (r2.g e2).reg r (by omega), hk r hr, (s1.g e1).reg r (by omega), s3 (s2 ▸ e1)]
          exact mmo
