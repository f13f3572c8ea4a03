/-! counting down, conditions, branches -/
theorem cc20 {r : Nat} (h : r < 8) : (2 : Int32) * nI r + 0 = nI (2 * r + 0) := by
  have := (show ∀ r : Fin 8, (2 : Int32) * nI r.val + 0 = nI (2 * r.val + 0) by decide) ⟨r, h⟩
  exact this
theorem cc21 {r : Nat} (h : r < 8) : (2 : Int32) * nI r + 1 = nI (2 * r + 1) := by
  have := (show ∀ r : Fin 8, (2 : Int32) * nI r.val + 1 = nI (2 * r.val + 1) by decide) ⟨r, h⟩
  exact this
theorem low16 (x y : Int32) : (x &&& (f_X10_maskOf 1 ^^^ (-1))) ||| ((y &&& 65535) &&& f_X10_maskOf 1) = (x &&& (-65536)) ||| (y &&& 65535) := by
  rw [show f_X10_maskOf 1 = 65535 from rfl, show (65535 : Int32) ^^^ (-1) = -65536 by decide, mm2]
theorem cntd {D : Nat → Int32} {A B : St} {k l : Nat} (h : R id D A B) (hk : k < 16) (hl : l < 8) (hc : ∀ A' : St, A' 11 = D → f_X3_condition A' = nI k ∧ f_X3_lowerRegister A' = nI l) : R id D (f_X4_countDown A) (xb (f_X11_fetch B) fun q30 => if f_X11_holds (nI k) B = 0 then (xb (f_X11_keepIn (nI l) 1 (((q30.2 15 (nI l).toNatClampNeg) - 1) &&& 65535) q30.2) fun q35 => (if (((q30.2 15 (nI l).toNatClampNeg) - 1) &&& 65535) = 65535 then q35 else (xup q35 15 17 ((B 15 17) + q30.1.toInt16.toInt32)))) else q30.2) := by
  obtain ⟨f1, f2⟩ := fetch1 h
  unfold f_X4_countDown
  simp only [xb_l, if_true]
  rw [(hc _ f1.d).1, (hc _ f1.d).2, keepIn_eq hl, nIl hl, low16]
  by_cases e : (f_X6_fetch 1 A).2 4 10 = 0
  · have e0 := stk_f1 e
    have st : (f_X6_fetch 1 A).2 2 18 = B 14 2 := by rw [fetch_reg (by decide)]; exact (h.g e0).s0
    rw [holds_eq hk st, (f1.g e).reg l (by omega)]
    split
    · have s1 := f1.setr (j := l) (v := ((f_X11_fetch B).2 15 l &&& (-65536)) ||| (((f_X11_fetch B).2 15 l - 1) &&& 65535)) (v' := ((f_X11_fetch B).2 15 l &&& (-65536)) ||| (((f_X11_fetch B).2 15 l - 1) &&& 65535)) (by omega) (fun _ => rfl)
      split
      · exact s1
      · refine s1.setr (by decide) (fun _ => ?_)
        rw [(h.g e0).reg 17 (by decide), (f2 e).1]
        rfl
    · exact f1
  · exact f1.bad e (FA.i (FA.i FA.r.x2 FA.r.x2.x2) FA.r) (FB.i (FB.i FB.r.x15 FB.r.x15.x15) FB.r)
theorem sbc {D : Nat → Int32} {A B : St} {k m l : Nat} (h : R id D A B) (hk : k < 16) (hc : f_X3_condition A = nI k) (d1 : D 1 = 0) (d3 : D 3 = eB m l) (ok : okW m l) : R id D (if f_X8_holds (f_X3_condition A) A = 0 then f_X4_overwrite 0 A else f_X4_overwrite 255 A) (if f_X11_holds (nI k) B = 0 then f_X11_store 0 0 (f_X11_find (eB m l) 0 B) else f_X11_store 0 255 (f_X11_find (eB m l) 0 B)) := by
  have hh : A 4 10 = 0 → f_X8_holds (nI k) A = f_X11_holds (nI k) B := fun e => holds_eq hk (h.g e).s0
  rw [hc]
  by_cases c : f_X8_holds (nI k) A = 0
  · by_cases c' : f_X11_holds (nI k) B = 0
    · rw [if_pos c, if_pos c']
      exact (ovw h (Or.inl rfl) d1 d3 ok (fun _ => eqM.rfl')).1
    · rw [if_pos c, if_neg c']
      exact (ovw h (Or.inl rfl) d1 d3 ok (fun e => absurd ((hh e).symm.trans c) c')).1
  · by_cases c' : f_X11_holds (nI k) B = 0
    · rw [if_neg c, if_pos c']
      exact (ovw h (Or.inl rfl) d1 d3 ok (fun e => absurd ((hh e).trans c') c)).1
    · rw [if_neg c, if_neg c']
      exact (ovw h (Or.inl rfl) d1 d3 ok (fun _ => eqM.rfl')).1
theorem br37 {D : Nat → Int32} {A B : St} {k : Nat} {x1 x2 y1 y2 w : Int32} (h : R id D A B) (hk : k < 16) (hc : f_X3_condition A = nI k) (hw : (w >>> ((8 : Int32) &&& 31)) &&& 15 = nI k) (hx : A 4 10 = 0 → x1 = y1 ∧ x2 = y2) : R id D (f_X4_branch_37 x1 x2 A) (f_X11_branch_26 w y1 y2 B) := by
  unfold f_X4_branch_37 f_X11_branch_26 f_X11_branch_54 f_X11_branch_69 f_X4_call
  simp only [xb_l, if_true]
  rw [hc, hw]
  by_cases k1 : k = 1
  · subst k1
    rw [if_pos (show nI 1 = 1 from rfl), if_pos (show nI 1 = 1 from rfl), if_pos (show nI 1 = 1 from rfl)]
    have p := push (s := 2) (v := A 2 17) (v' := B 15 17) h (by decide) (fun e => by rw [(h.g e).reg 17 (by decide)])
    refine p.setr (by decide) (fun e => ?_)
    rw [(hx (stk_push e)).1, (hx (stk_push e)).2]
  · have n1 : ¬ nI k = 1 := nq_1 k1 (by omega)
    rw [if_neg n1, if_neg n1, if_neg n1]
    by_cases e : A 4 10 = 0
    · rw [holds_eq hk (h.g e).s0]
      split
      · exact h
      · exact h.setr (by decide) (fun _ => by rw [(hx e).1, (hx e).2])
    · exact h.bad e (FA.i FA.r FA.r.x2) (FB.i FB.r FB.r.x15)
theorem xrg1 : xrg 0 63 1 := ⟨by decide, by decide⟩
theorem fr24 {D : Nat → Int32} {A B : St} {x y a b : Int32} (h : R id D A B) (hxy : A 4 10 = 0 → x = y ∧ a = b) : R id D (if x < 0 then f_X4_checkBounds_26 x A else if x ≤ a then A else f_X4_checkBounds_26 x A) (if y < 0 then f_X11_fourteen_84 y B else if b < y then f_X11_fourteen_84 y B else B) := by
  have fc : ∀ v, f_X4_checkBounds_26 v A = if 0 ≤ v then xup (xup A 2 18 (fl (A 2 18) 8 0)) 12 6 6 else xup (xup A 2 18 (fl (A 2 18) 8 8)) 12 6 6 := fun v => rfl
  have fm : ∀ v, f_X11_fourteen_84 v B = if 0 ≤ v then xup (xup B 14 2 (fl (B 14 2) 8 0)) 14 23 6 else xup (xup B 14 2 (fl (B 14 2) 8 8)) 14 23 6 := by
    intro v
    unfold f_X11_fourteen_84 f_X11_fourteen_97
    simp only [xb_l, if_true]
    rw [flag_eq, flag_eq, if_pos (show (0 : Int32) = 0 from rfl), if_neg (show ¬ (1 : Int32) = 0 by decide)]
  rw [fc, fm]
  by_cases e : A 4 10 = 0
  · obtain ⟨rfl, rfl⟩ := hxy e
    have t : R id D (if 0 ≤ x then xup (xup A 2 18 (fl (A 2 18) 8 0)) 12 6 6 else xup (xup A 2 18 (fl (A 2 18) 8 8)) 12 6 6) (if 0 ≤ x then xup (xup B 14 2 (fl (B 14 2) 8 0)) 14 23 6 else xup (xup B 14 2 (fl (B 14 2) 8 8)) 14 23 6) := by
      split
      · exact (h.flags (by decide) (fun _ => rfl)).trap (fun _ => rfl)
      · exact (h.flags (by decide) (fun _ => rfl)).trap (fun _ => rfl)
    by_cases c : x < 0
    · rw [if_pos c, if_pos c]; exact t
    · rw [if_neg c, if_neg c]
      by_cases c2 : x ≤ a
      · rw [if_pos c2, if_neg (Int32.not_lt.mpr c2)]; exact h
      · rw [if_neg c2, if_pos (Int32.not_le.mp c2)]; exact t
  · exact h.bad e (FA.i (FA.i FA.r.x2.x12 FA.r.x2.x12) (FA.i FA.r (FA.i FA.r.x2.x12 FA.r.x2.x12))) (FB.i (FB.i FB.r.x2.x23 FB.r.x2.x23) (FB.i (FB.i FB.r.x2.x23 FB.r.x2.x23) FB.r))
/-- an address is found -/
theorem adrs {F : Int32 → Int32} {D : Nat → Int32} {A B : St} {m l : Nat} (h : R F D A B) (d2 : D 2 = eB m l) (hl : l < 8) (ct : m = 2 ∨ m = 5 ∨ m = 6 ∨ (m = 7 ∧ l ≤ 3)) : R F D (f_X4_address A).2 (f_X11_find (eB m l) 2 B) ∧ ((f_X4_address A).2 4 10 = 0 → A 4 10 = 0 ∧ (f_X4_address A).1 = (f_X11_find (eB m l) 2 B) 14 26) := by
  have f := find (m := m) (r := l) (s := 2) h (by decide) (by unfold okE; omega)
  unfold f_X4_address
  simp only [xb_l, if_true]
  rw [h.d, d2]
  refine ⟨f.1, fun e => ⟨(f.2 e).1, ?_⟩⟩
  have ro := (f.2 e).2
  unfold RO at ro
  rw [if_neg (by omega), if_neg (by omega)] at ro
  exact ro.2.2.2
theorem x_and63 (x : Int32) : xrg 0 63 (x &&& 63) := by
  have e : (x &&& 63).toBitVec.toNat = x.toBitVec.toNat % 64 := by
    rw [Int32.toBitVec_and, BitVec.toNat_and]
    exact Nat.and_two_pow_sub_one_eq_mod _ 6
  have e2 : (x &&& 63) = nI (x.toBitVec.toNat % 64) := by
    apply Int32.toBitVec_inj.mp
    apply BitVec.eq_of_toNat_eq
    rw [e, pk_tn (by omega)]
  rw [e2]
  exact xrg_nI (by omega) (by omega)
set_option maxHeartbeats 1000000 in
theorem EX_9 {r d z m l : Nat} {M : St} (h : wB 9 r d z m l) : EX (wd 9 r d z m l) (f_X3_decode (wd 9 r d z m l) M) := by
  have hw : (xup M 11 0 (wd 9 r d z m l)) 11 0 = wd 9 r d z m l := w11
  obtain ⟨_, hr, hd, hz, hm, hl8⟩ := id h
  have hpv : f_X11_isPrivileged (wd 9 r d z m l) = 0 := pvm h (by decide) (by decide)
  rw [dc_9 h]
  unfold f_X3_quick f_X3_quick_66 f_X3_quick_67 f_X3_quick_85 f_X3_single
  simp only [xb_eta, q_op h hw, q_r h hw, q_z h hw, q_d h hw, q_m h hw, q_l h hw]
  by_cases z3 : z = 3
  · subst z3
    rw [if_pos (show nI 3 = 3 from rfl)]
    have hlg := lg_9 h
    rw [if_pos (show (3 : Int32) ≤ nI 3 by decide)] at hlg
    by_cases m1 : m = 1
    · subst m1
      rw [if_pos (show nI 1 = 1 from rfl)] at hlg ⊢
      refine EX_lit hw (by rw [hlg]; decide) (by decide) (iff_of_true rfl hpv) (fun D N B d0 hR => ?_)
      have hcd := cntd (k := 2 * r + d) (l := l) hR (by omega) hl8 (fun A' hA => ⟨q_c h (by rw [hA, d0]), q_l h (by rw [hA, d0])⟩)
      rw [pf_49, pg_9 h]
      unfold f_X11_quick f_X11_quick_10 f_X11_quick_109
      rw [eBm (by decide) hl8, eBr (by decide) hl8]
      rcases (show d = 0 ∨ d = 1 by omega) with rfl | rfl
      · rw [if_pos (show (3 : Int32) ≤ nI 3 by decide), if_pos (show (3 : Int32) ≤ nI 3 by decide), if_pos (show nI 0 = 0 from rfl), if_pos (show nI 1 = 1 from rfl), cc20 hr, ite_self]
        exact hcd
      · rw [if_pos (show (3 : Int32) ≤ nI 3 by decide), if_pos (show (3 : Int32) ≤ nI 3 by decide), if_neg (show ¬ nI 1 = 0 by decide), if_pos (show nI 1 = 1 from rfl), cc21 hr, ite_self]
        exact hcd
    · have n1 : ¬ nI m = 1 := nq_1 m1 (by omega)
      rw [if_neg n1] at hlg ⊢
      have ft : f_X11_fits (eB m l) 0 9 = f_X9_isOpenData (eB m l) := (fitB ⟨m, hm⟩ ⟨l, hl8⟩ ⟨0, by decide⟩).2.1
      rw [ft] at hlg
      refine EX_pair hw ?_ (by decide) (fun _ => iff_of_true rfl hpv) (fun c D N B d0 d1 d2 d3 hR => ?_)
      · rw [hlg]
        by_cases c : f_X9_isOpenData (eB m l) = 0
        · rw [if_pos c, c]
        · rw [if_neg c]; exact iff_of_false (by decide) c
      · have s := sbc (k := 2 * r + d) hR (by omega) (q_c h (by rw [hR.d, d0])) d1 d3 (odE hm hl8 c)
        rw [pf_36, pg_9 h]
        unfold f_X4_perform_516 f_X11_quick f_X11_quick_10 f_X11_quick_109 f_X11_quick_142
        rw [eBm hm hl8]
        rcases (show d = 0 ∨ d = 1 by omega) with rfl | rfl
        · rw [if_pos (show (3 : Int32) ≤ nI 3 by decide), if_pos (show (3 : Int32) ≤ nI 3 by decide), if_pos (show nI 0 = 0 from rfl), if_neg n1, cc20 hr, ite_self]
          exact s
        · rw [if_pos (show (3 : Int32) ≤ nI 3 by decide), if_pos (show (3 : Int32) ≤ nI 3 by decide), if_neg (show ¬ nI 1 = 0 by decide), if_neg n1, cc21 hr, ite_self]
          exact s
  · have hz3 : z < 3 := by omega
    rw [if_neg (nz3 hz3)]
    have n3 : ¬ (3 : Int32) ≤ nI z := fun e => by have := (nI_leI (a := 3) (b := z) (by decide) (by omega)).mp e; omega
    have hlg := lg_9 h
    have fu : f_X11_fits (eB m l) (nI z) 8 = (if f_X9_isAny (eB m l) (nI z) = 0 then 0 else f_X9_isOpen (eB m l)) := (fitA ⟨m, hm⟩ ⟨l, hl8⟩ ⟨z, hz3⟩).2
    rw [if_neg n3, fu] at hlg
    by_cases c1 : f_X9_isAny (eB m l) (nI z) = 0
    · rw [if_pos c1] at hlg ⊢
      split <;> exact EX_bad hlg
    rw [if_neg c1] at hlg ⊢
    by_cases c2 : f_X9_isOpen (eB m l) = 0
    · rw [if_pos c2]
      rw [c2] at hlg
      split <;> exact EX_bad hlg
    rw [if_neg c2]
    have hle : ¬ f_X11_isLegal (wd 9 r d z m l) = 0 := by rw [hlg]; exact c2
    have oe := anyE hm hl8 hz3 c1
    have op := opnE hm hl8 c2
    rcases (show d = 0 ∨ d = 1 by omega) with rfl | rfl
    · rw [if_pos (show nI 0 = 0 from rfl)]
      refine EX_pair hw (iff_of_false hle (by decide)) (by decide) (fun _ => iff_of_true rfl hpv) (fun c D N B d0 d1 d2 d3 hR => ?_)
      have hX : (xup (xup N 12 6 0) 12 7 0) 11 0 = wd 9 r 0 z m l := by rw [hR.d, d0]
      have qk : f_X11_quick (eB m l) (nI z) (nI r) (nI 0) B = f_X11_quick_10 (eB m l) (nI z) (nI r) (nI 0) (f_X4_quickNumber (xup (xup N 12 6 0) 12 7 0)) B := by
        unfold f_X11_quick f_X4_quickNumber
        rw [q_r h hX]
        split <;> rfl
      rw [pf_19, pg_9 h, qk]
      generalize f_X4_quickNumber (xup (xup N 12 6 0) 12 7 0) = k
      have hof := eB_of ⟨m, hm⟩ ⟨l, hl8⟩
      dsimp only at hof
      have h11 : ∀ e s, (f_X6_find e s (xup (xup N 12 6 0) 12 7 0)) 11 = D := fun e s => (fr_X6_find rfl).trans hR.d
      unfold f_X11_quick_10
      rw [if_neg n3, eBm hm hl8]
      by_cases m1 : m = 1
      · subst m1
        have hof1 : f_X9_of (eB 1 l) = 1 := hof
        have e25 : (xup (xup B 14 25 (nI (8 + l))) 14 26 (B 15 (8 + l))) 14 25 = nI (8 + l) := by rw [xo4 rfl, xs4]
        unfold f_X4_changeQuick f_X4_changeQuick_66 f_X11_quick_70
        simp only [xb_l, if_true]
        rw [h11, d3, hof1, if_pos (show (1 : Int32) = 1 from rfl), if_pos (show nI 1 = 1 from rfl), if_pos (show nI 0 = 0 from rfl), hR.d, d3, d1, fcl1 hof1, eBr (by decide) hl8, n8r, f26a hl8, xs4, a15 (by omega), e25, nI_clamp (show 8 + l < 2 ^ 31 by omega)]
        have s4 : R id D (xup (xup (xup (xup N 12 6 0) 12 7 0) 10 2 1) 10 3 (nI (8 + l))) (xup (xup B 14 25 (nI (8 + l))) 14 26 (B 15 (8 + l))) := hR.setA.setA.set25.set26
        exact s4.setr (by omega) (fun e => by rw [(s4.g e).reg (8 + l) (by omega)])
      · have n1 : ¬ nI m = 1 := nq_1 m1 (by omega)
        have hof1 : ¬ f_X9_of (eB m l) = 1 := by
          rw [hof]
          split
          · exact n1
          · exact nq_1 (by omega) (by omega)
        have ow : okW m l := by unfold okW; have := oe.1; unfold okE at this; omega
        have cq : f_X4_changeQuick 1 k (xup (xup N 12 6 0) 12 7 0) = f_X4_change 1 k (xup (xup N 12 6 0) 12 7 0) := by
          unfold f_X4_changeQuick f_X4_change
          simp only [xb_l, if_true]
          rw [h11, d3, if_neg hof1]
        simp only [xb_l, if_true]
        rw [if_neg n1, cq]
        exact chgS2 hR (sz3 hz3) d1 d3 ow (fun b M => cb_1 b _ _ M) (Or.inl ⟨rfl, rfl, rfl⟩) (Or.inl ⟨rfl, rfl⟩) (fun _ => eqM.rfl')
    · rw [if_neg (show ¬ nI 1 = 0 by decide)]
      refine EX_pair hw (iff_of_false hle (by decide)) (by decide) (fun _ => iff_of_true rfl hpv) (fun c D N B d0 d1 d2 d3 hR => ?_)
      have hX : (xup (xup N 12 6 0) 12 7 0) 11 0 = wd 9 r 1 z m l := by rw [hR.d, d0]
      have qk : f_X11_quick (eB m l) (nI z) (nI r) (nI 1) B = f_X11_quick_10 (eB m l) (nI z) (nI r) (nI 1) (f_X4_quickNumber (xup (xup N 12 6 0) 12 7 0)) B := by
        unfold f_X11_quick f_X4_quickNumber
        rw [q_r h hX]
        split <;> rfl
      rw [pf_20, pg_9 h, qk]
      generalize f_X4_quickNumber (xup (xup N 12 6 0) 12 7 0) = k
      have hof := eB_of ⟨m, hm⟩ ⟨l, hl8⟩
      dsimp only at hof
      have h11 : ∀ e s, (f_X6_find e s (xup (xup N 12 6 0) 12 7 0)) 11 = D := fun e s => (fr_X6_find rfl).trans hR.d
      unfold f_X11_quick_10
      rw [if_neg n3, eBm hm hl8]
      by_cases m1 : m = 1
      · subst m1
        have hof1 : f_X9_of (eB 1 l) = 1 := hof
        have e25 : (xup (xup B 14 25 (nI (8 + l))) 14 26 (B 15 (8 + l))) 14 25 = nI (8 + l) := by rw [xo4 rfl, xs4]
        unfold f_X4_changeQuick f_X4_changeQuick_66 f_X11_quick_70
        simp only [xb_l, if_true]
        rw [h11, d3, hof1, if_pos (show (1 : Int32) = 1 from rfl), if_neg (show ¬ (4 : Nat) = 1 by decide), if_pos (show nI 1 = 1 from rfl), if_neg (show ¬ nI 1 = 0 by decide), hR.d, d3, d1, fcl1 hof1, eBr (by decide) hl8, n8r, f26a hl8, xs4, a15 (by omega), e25, nI_clamp (show 8 + l < 2 ^ 31 by omega)]
        have s4 : R id D (xup (xup (xup (xup N 12 6 0) 12 7 0) 10 2 1) 10 3 (nI (8 + l))) (xup (xup B 14 25 (nI (8 + l))) 14 26 (B 15 (8 + l))) := hR.setA.setA.set25.set26
        exact s4.setr (by omega) (fun e => by rw [(s4.g e).reg (8 + l) (by omega), Int32.sub_eq_add_neg])
      · have n1 : ¬ nI m = 1 := nq_1 m1 (by omega)
        have hof1 : ¬ f_X9_of (eB m l) = 1 := by
          rw [hof]
          split
          · exact n1
          · exact nq_1 (by omega) (by omega)
        have ow : okW m l := by unfold okW; have := oe.1; unfold okE at this; omega
        have cq : f_X4_changeQuick 4 k (xup (xup N 12 6 0) 12 7 0) = f_X4_change 4 k (xup (xup N 12 6 0) 12 7 0) := by
          unfold f_X4_changeQuick f_X4_change
          simp only [xb_l, if_true]
          rw [h11, d3, if_neg hof1]
        simp only [xb_l, if_true]
        rw [if_neg n1, cq]
        exact chgS2 hR (sz3 hz3) d1 d3 ow (fun b M => cb_4 b _ _ M) (Or.inl ⟨rfl, rfl, rfl⟩) (Or.inr ⟨rfl, rfl⟩) (fun _ => eqM.rfl')
set_option maxHeartbeats 1000000 in
theorem EX_11 {r d z m l : Nat} {M : St} (h : wB 11 r d z m l) : EX (wd 11 r d z m l) (f_X3_decode (wd 11 r d z m l) M) := by
  have hw : (xup M 11 0 (wd 11 r d z m l)) 11 0 = wd 11 r d z m l := w11
  obtain ⟨_, hr, hd, hz, hm, hl8⟩ := id h
  have hpv : f_X11_isPrivileged (wd 11 r d z m l) = 0 := pvm h (by decide) (by decide)
  rw [dc_11 h]
  refine EX_lit hw (by rw [lg_11 h]; decide) (by decide) (iff_of_true rfl hpv) (fun D N B d0 hR => ?_)
  have hX : (xup (xup N 12 6 0) 12 7 0) 11 0 = wd 11 r d z m l := by rw [hR.d, d0]
  rw [pf_48, pg_11 h]
  unfold f_X4_branch f_X11_branch
  simp only [xb_l, if_true]
  rw [hX]
  have c0 : (f_X10_extended (wd 11 r d z m l) 0 = 0) ↔ (wd 11 r d z m l) &&& 255 = 0 := by
    rw [← ext_mask (s := 0) (Or.inl rfl)]
    exact ext0 (Or.inl rfl) rgS_and
  by_cases c : (wd 11 r d z m l) &&& 255 = 0
  · rw [if_pos (c0.mpr c), if_pos c]
    obtain ⟨f1, f2⟩ := fetch1 hR
    exact br37 f1 (k := 2 * r + d) (by omega) (q_c h (by rw [f1.d, d0])) (wd_cc h).2 (fun e => ⟨(hR.g (stk_f1 e)).reg 17 (by decide), by rw [(f2 e).1]; rfl⟩)
  · rw [if_neg (fun e => c (c0.mp e)), if_neg c]
    exact br37 hR (k := 2 * r + d) (by omega) (q_c h hX) (wd_cc h).2 (fun e => ⟨(hR.g e).reg 17 (by decide), rfl⟩)
set_option maxHeartbeats 1000000 in
theorem EX_13 {r d z m l : Nat} {M : St} (h : wB 13 r d z m l) : EX (wd 13 r d z m l) (f_X3_decode (wd 13 r d z m l) M) := by
  have hw : (xup M 11 0 (wd 13 r d z m l)) 11 0 = wd 13 r d z m l := w11
  obtain ⟨_, hr, hd, hz, hm, hl8⟩ := id h
  have hpv : f_X11_isPrivileged (wd 13 r d z m l) = 0 := pvm h (by decide) (by decide)
  rw [dc_13 h]
  unfold f_X3_shifting f_X3_shifting_56 f_X3_shifting_57 f_X3_single
  simp only [xb_eta, q_op h hw, q_r h hw, q_z h hw, q_d h hw, q_m h hw, q_l h hw]
  have hlg := lg_13 h
  by_cases z3 : z = 3
  · subst z3
    rw [if_pos (show (3 : Int32) ≤ nI 3 by decide)]
    rw [if_neg (show ¬ nI 3 < 3 by decide)] at hlg
    have ft : f_X11_fits (eB m l) 1 10 = f_X9_isOpenMemory (eB m l) := (fitB ⟨m, hm⟩ ⟨l, hl8⟩ ⟨1, by decide⟩).2.2
    rw [ft] at hlg
    have r4 : ((4 : Int32) ≤ nI r) ↔ 4 ≤ r := nI_leI (a := 4) (b := r) (by decide) (by omega)
    by_cases c1 : (4 : Int32) ≤ nI r
    · rw [if_pos c1] at hlg ⊢
      exact EX_bad hlg
    rw [if_neg c1] at hlg ⊢
    have rr : r < 4 := by
      have : ¬ 4 ≤ r := fun x => c1 (r4.mpr x)
      omega
    by_cases c2 : f_X9_isOpenMemory (eB m l) = 0
    · rw [if_pos c2] at hlg ⊢
      exact EX_bad hlg
    rw [if_neg c2] at hlg ⊢
    refine EX_pair hw (iff_of_false (by rw [hlg]; decide) (by decide)) (by decide) (fun _ => iff_of_true rfl hpv) (fun c D N B d0 d1 d2 d3 hR => ?_)
    obtain ⟨ok, m2⟩ := omE hm hl8 c2
    have l0 := loadAt (m := m) (r := l) (s := 1) hR (by decide) ok.e
    rw [pf_28, pg_13 h]
    unfold f_X4_shiftMemory f_X4_shiftMemory_58 f_X11_shifts
    simp only [xb_l, if_true] at l0 ⊢
    rw [if_pos (show nI 3 = 3 from rfl), hR.d, d3]
    generalize f_X6_read 1 (f_X6_find (eB m l) 1 (xup (xup N 12 6 0) 12 7 0)) = q4 at l0 ⊢
    generalize f_X11_loadAt (eB m l) 1 B = q at l0 ⊢
    obtain ⟨l1, l2⟩ := l0
    have hX : q4.2 11 0 = wd 13 r d 3 m l := by rw [l1.d, d0]
    rw [q_d h hX, q_r h hX]
    have hk : nI r = 0 ∨ nI r = 1 ∨ nI r = 2 ∨ nI r = 3 := by
      rcases (show r = 0 ∨ r = 1 ∨ r = 2 ∨ r = 3 by omega) with rfl | rfl | rfl | rfl <;> decide
    have go : ∀ left : Int32, R id D (f_X6_write 1 (f_X1_shifted q4.1 1 (nI r) left 1 q4.2).1 (f_X1_shifted q4.1 1 (nI r) left 1 q4.2).2) (f_X11_store 1 (f_X11_shifted q.1 1 (nI r) left 1 q.2).1 (f_X11_shifted q.1 1 (nI r) left 1 q.2).2) := by
      intro left
      obtain ⟨t1, t2⟩ := shiftR (s := 1) (kind := nI r) (left := left) (v := q4.1) (v' := q.1) (n := 1) (n' := 1) l1 (by decide) hk (fun e => ⟨(l2 e).2.2.1, (l2 e).2.2.2, rfl, xrg1⟩)
      refine (store t1 (by decide) ok (fun e => ⟨?_, (t2 e).2⟩)).1
      exact (l2 (t2 e).1).2.1.w (fr_X1_shifted rfl) (g_X11_shifted rfl) (g_X11_shifted rfl)
    rcases (show d = 0 ∨ d = 1 by omega) with rfl | rfl
    · rw [if_neg (show ¬ nI 0 = 1 by decide)]
      exact go 0
    · rw [if_pos (show nI 1 = 1 from rfl)]
      exact go 1
  · have hz3 : z < 3 := by omega
    have n3 : ¬ (3 : Int32) ≤ nI z := fun e => by have := (nI_leI (a := 3) (b := z) (by decide) (by omega)).mp e; omega
    rw [if_neg n3]
    rw [if_pos (show nI z < 3 from (nI_ltI (a := z) (b := 3) (by omega) (by decide)).mpr hz3)] at hlg
    refine EX_pair hw (iff_of_false (by rw [hlg]; decide) (by decide)) (by decide) (fun _ => iff_of_true rfl hpv) (fun c D N B d0 d1 d2 d3 hR => ?_)
    have hX : (xup (xup N 12 6 0) 12 7 0) 11 0 = wd 13 r d z m l := by rw [hR.d, d0]
    rw [pf_27, pg_13 h]
    have kd : (ius (wd 13 r d z m l) 3) &&& 3 = nI (m % 4) := by
      unfold wd
      rw [show (3 : Int32) = nI 3 from rfl, iusN (by omega) (by decide), pk_andN (by omega) 2 (by decide)]
      congr 1; omega
    have kr : ((eB m l) >>> ((3 : Int32) &&& 31)) &&& 3 = nI (m % 4) := by
      rw [eBm hm hl8, pk_andN (by omega) 2 (by decide)]
    have k5 : ((eB m l) >>> ((5 : Int32) &&& 31)) = nI (m / 4) := by
      have := (show ∀ m l : Fin 8, (eB m.val l.val) >>> ((5 : Int32) &&& 31) = nI (m.val / 4) by decide) ⟨m, hm⟩ ⟨l, hl8⟩
      exact this
    have hk : nI (m % 4) = 0 ∨ nI (m % 4) = 1 ∨ nI (m % 4) = 2 ∨ nI (m % 4) = 3 := by
      rcases (show m % 4 = 0 ∨ m % 4 = 1 ∨ m % 4 = 2 ∨ m % 4 = 3 by omega) with e | e | e | e <;> rw [e] <;> decide
    have go : ∀ n n' : Int32, ((xup (xup N 12 6 0) 12 7 0) 4 10 = 0 → n = n' ∧ xrg 0 63 n) → R id D (f_X4_shiftRegister_53 (nI z) n (xup (xup N 12 6 0) 12 7 0)) (f_X11_shifts_55 (eB m l) (nI z) (nI d) n' B) := by
      intro n n' hn
      unfold f_X4_shiftRegister_53 f_X4_shiftRegister_118 f_X11_shifts_55
      simp only [xb_l, if_true]
      rw [hX, kd, kr, eBr hm hl8, nIl hl8, hR.d, d3, regfind hl8, regread RA_find hl8]
      dsimp only
      have h' : R id D (xup (xup (xup (xup N 12 6 0) 12 7 0) 10 2 0) 10 3 (nI l)) B := hR.setA.setA
      have e4 : (xup (xup (xup (xup N 12 6 0) 12 7 0) 10 2 0) 10 3 (nI l)) 4 10 = (xup (xup N 12 6 0) 12 7 0) 4 10 := by rw [xo4 rfl, xo4 rfl]
      rw [q_d h (by rw [h'.d, d0])]
      have go2 : ∀ left : Int32, R id D (f_X6_write (nI z) (f_X1_shifted ((xup (xup (xup (xup N 12 6 0) 12 7 0) 10 2 0) 10 3 (nI l)) 2 l &&& f_X10_maskOf (nI z)) (nI z) (nI (m % 4)) left n (xup (xup (xup (xup N 12 6 0) 12 7 0) 10 2 0) 10 3 (nI l))).1 (f_X1_shifted ((xup (xup (xup (xup N 12 6 0) 12 7 0) 10 2 0) 10 3 (nI l)) 2 l &&& f_X10_maskOf (nI z)) (nI z) (nI (m % 4)) left n (xup (xup (xup (xup N 12 6 0) 12 7 0) 10 2 0) 10 3 (nI l))).2) (f_X11_keepIn (nI l) (nI z) (f_X11_shifted (B 15 l &&& f_X11_mask (nI z)) (nI z) (nI (m % 4)) left n' B).1 (f_X11_shifted (B 15 l &&& f_X11_mask (nI z)) (nI z) (nI (m % 4)) left n' B).2) := by
        intro left
        obtain ⟨t1, t2⟩ := shiftR (s := nI z) (kind := nI (m % 4)) (left := left) (v := (xup (xup (xup (xup N 12 6 0) 12 7 0) 10 2 0) 10 3 (nI l)) 2 l &&& f_X10_maskOf (nI z)) (v' := B 15 l &&& f_X11_mask (nI z)) (n := n) (n' := n') h' (sz3 hz3) hk (fun e => ⟨by rw [(h'.g e).reg l (by omega), mask_eq], rgS_and, (hn (e4 ▸ e)).1, (hn (e4 ▸ e)).2⟩)
        exact regstore t1 hl8 (RA_find.w (fr_X1_shifted rfl)) (fun e => (t2 e).2)
      rcases (show d = 0 ∨ d = 1 by omega) with rfl | rfl
      · rw [if_neg (show ¬ nI 0 = 1 by decide)]
        exact go2 0
      · rw [if_pos (show nI 1 = 1 from rfl)]
        exact go2 1
    unfold f_X4_shiftRegister f_X4_shiftRegister_26 f_X11_shifts
    simp only [xb_l, if_true]
    rw [if_neg (nz3 hz3), hX, k5, q_r h hX, hR.d, d1]
    by_cases m4 : m < 4
    · rw [if_pos ((wd_32 h).mpr m4), if_neg (show ¬ (1 : Int32) = 0 by decide), if_neg (nq_1 (n := m / 4) (by omega) (by omega))]
      have qn : f_X4_quickNumber (xup (xup N 12 6 0) 12 7 0) = if nI r = 0 then 8 else nI r := by unfold f_X4_quickNumber; rw [q_r h hX]
      rw [qn]
      by_cases r0 : nI r = 0
      · rw [if_pos r0, if_pos r0]
        exact go 8 8 (fun _ => ⟨rfl, by decide, by decide⟩)
      · rw [if_neg r0, if_neg r0]
        exact go _ _ (fun _ => ⟨rfl, xrg_nI (by omega) (by omega)⟩)
    · rw [if_neg (fun e => m4 ((wd_32 h).mp e)), if_pos (show nI (m / 4) = 1 by rw [show m / 4 = 1 by omega]; rfl), nIl hr]
      refine go _ _ (fun e => ⟨by rw [(hR.g e).reg r (by omega)], ?_⟩)
      exact x_and63 _
set_option maxHeartbeats 1000000 in
theorem EX_14 {r d z m l : Nat} {M : St} (h : wB 14 r d z m l) : EX (wd 14 r d z m l) (f_X3_decode (wd 14 r d z m l) M) := by
  have hw : (xup M 11 0 (wd 14 r d z m l)) 11 0 = wd 14 r d z m l := w11
  obtain ⟨_, hr, hd, hz, hm, hl8⟩ := id h
  have hpv : f_X11_isPrivileged (wd 14 r d z m l) = 0 := pvm h (by decide) (by decide)
  rw [dc_14 h]
  unfold f_X3_ofGroupFourteen f_X3_single
  simp only [xb_eta, q_op h hw, q_r h hw, q_z h hw, q_d h hw, q_m h hw, q_l h hw]
  have hlg := lg_14 h
  rcases (show d = 0 ∨ d = 1 by omega) with rfl | rfl
  · rw [if_pos (show nI 0 = 0 from rfl)] at hlg ⊢
    refine EX_lit hw (by rw [hlg]; decide) (by decide) (iff_of_true rfl hpv) (fun D N B d0 hR => ?_)
    have hX : (xup (xup N 12 6 0) 12 7 0) 11 0 = wd 14 r 0 z m l := by rw [hR.d, d0]
    rw [pf_21, pg_14 h]
    unfold f_X4_moveQuick f_X11_fourteen
    simp only [xb_l, if_true]
    rw [if_pos (show nI 0 = 0 from rfl), hX, q_r h hX, nIl hr, xs4]
    exact tst_set hR (by omega) (fun _ => rfl)
  · rw [if_neg (show ¬ nI 1 = 0 by decide)] at hlg ⊢
    by_cases z0 : z = 0
    · subst z0
      rw [if_pos (show nI 0 = 0 from rfl)] at hlg ⊢
      have ft : f_X11_fits (eB m l) 2 4 = f_X9_isControl (eB m l) := (fitC ⟨m, hm⟩ ⟨l, hl8⟩).1
      unfold f_X11_isLegal_444 at hlg
      rw [ft, if_neg (show ¬ nI 0 = 1 by decide)] at hlg
      refine EX_pair hw ?_ (by decide) (fun _ => iff_of_true rfl hpv) (fun c D N B d0 d1 d2 d3 hR => ?_)
      · rw [hlg]
        by_cases c : f_X9_isControl (eB m l) = 0
        · rw [if_pos c, c]
        · rw [if_neg c]; exact iff_of_false (by decide) c
      · have hX : (xup (xup N 12 6 0) 12 7 0) 11 0 = wd 14 r 1 0 m l := by rw [hR.d, d0]
        obtain ⟨a1, a2⟩ := adrs hR d2 hl8 (ctE hm hl8 c)
        rw [pf_44, pg_14 h]
        unfold f_X11_fourteen
        simp only [xb_l, if_true]
        rw [if_neg (show ¬ nI 1 = 0 by decide), if_pos (show nI 0 = 0 from rfl), q_r h hX, n8r, nI_clamp (show 8 + r < 2 ^ 31 by omega)]
        exact a1.setr (by omega) (fun e => (a2 e).2)
    · have n0 : ¬ nI z = 0 := nzi z0 (by omega)
      rw [if_neg n0] at hlg ⊢
      unfold f_X11_isLegal_444 at hlg
      by_cases z1 : z = 1
      · subst z1
        rw [if_pos (show nI 1 = 1 from rfl)] at hlg ⊢
        have ft : f_X11_fits (eB m l) 1 1 = f_X9_isData (eB m l) := (fitB ⟨m, hm⟩ ⟨l, hl8⟩ ⟨1, by decide⟩).1
        rw [ft] at hlg
        refine EX_pair hw ?_ (by decide) (fun _ => iff_of_true rfl hpv) (fun c D N B d0 d1 d2 d3 hR => ?_)
        · rw [hlg]
          by_cases c : f_X9_isData (eB m l) = 0
          · rw [if_pos c, c]
          · rw [if_neg c]; exact iff_of_false (by decide) c
        · obtain ⟨s1, s2⟩ := src (m := m) (r := l) hR (by decide) (datE hm hl8 c).1 d2 d1
          have hX : (f_X4_readSource (xup (xup N 12 6 0) 12 7 0)).2 11 0 = wd 14 r 1 1 m l := by rw [s1.d, d0]
          rw [pf_18, pg_14 h]
          unfold f_X4_checkBounds f_X11_fourteen
          simp only [xb_l, if_true]
          rw [if_neg (show ¬ nI 1 = 0 by decide), if_neg n0, q_r h hX, nIl hr]
          exact fr24 s1 (fun e => ⟨by rw [(s1.g e).reg r (by omega)]; rfl, by rw [(s2 e).2.2.1]; rfl⟩)
      · have n1 : ¬ nI z = 1 := nq_1 z1 (by omega)
        rw [if_neg n1] at hlg ⊢
        exact EX_not hlg
