/-! one instruction, whole -/
def KP (A0 B0 : St) (x1 : Int32) (C E : St) : Prop := (∀ j, j < 19 → C 3 j = A0 2 j) ∧ (∀ j, C 9 j = A0 9 j) ∧ C 8 7 = A0 8 7 ∧ C 8 8 = A0 8 8 ∧ C 8 9 = A0 8 9 ∧ C 8 10 = A0 8 10 ∧ C 8 12 = x1 ∧ (∀ j, j < 18 → E 16 j = B0 15 j) ∧ E 16 18 = B0 14 2 ∧ (∀ j, E 21 j = B0 21 j) ∧ E 14 5 = B0 14 5 ∧ E 14 6 = B0 14 6
theorem KP.cg {A0 B0 C E C' E' : St} {x1 : Int32} (h : KP A0 B0 x1 C E) (h3 : C' 3 = C 3) (h9 : C' 9 = C 9) (h8 : ∀ j, j ≠ 11 → C' 8 j = C 8 j) (g16 : ∀ j, E' 16 j = E 16 j) (g21 : ∀ j, E' 21 j = E 21 j) (g5 : E' 14 5 = E 14 5) (g6 : E' 14 6 = E 14 6) : KP A0 B0 x1 C' E' := by
  obtain ⟨k1, k2, k3, k4, k5, k6, k7, k8, k9, k10, k11, k12⟩ := h
  refine ⟨fun j hj => by rw [h3]; exact k1 j hj, fun j => by rw [h9]; exact k2 j, ?_, ?_, ?_, ?_, ?_, fun j hj => by rw [g16]; exact k8 j hj, by rw [g16]; exact k9, fun j => by rw [g21]; exact k10 j, by rw [g5]; exact k11, by rw [g6]; exact k12⟩
  · rw [h8 7 (by decide)]; exact k3
  · rw [h8 8 (by decide)]; exact k4
  · rw [h8 9 (by decide)]; exact k5
  · rw [h8 10 (by decide)]; exact k6
  · rw [h8 12 (by decide)]; exact k7
theorem INS.to {A A0 : St} {p q : Int32 × St} (h : INS A p q) (h9 : A 8 9 = A0 8 9) (h10 : A 8 10 = A0 8 10) : INS A0 p q := by
  obtain ⟨r1, r2, r3, r4, r5, r6, r7, r8, r9, r10⟩ := h
  exact ⟨r1, r2, r3, r4, r5, r6, r7, r8, r9.trans h9, r10.trans h10⟩
theorem KP.fall {A0 B0 C E : St} {x1 : Int32} {k : Nat} (kp : KP A0 B0 x1 C E) (hk : k = 2 ∨ k = 3 ∨ k = 4 ∨ k = 8 ∨ k = 10 ∨ k = 11) (hb : RB C E) (hg : GY A0 B0) (h11 : C 8 11 = E 14 19) (hc : CN A0 B0) (h7 : A0 8 7 = 0) (h5 : B0 14 5 = 0) (h8 : A0 8 8 = B0 14 6) (hkz : k < 4 → C 4 10 = nI k) : INS A0 (nI k, f_X7_workOff (nI k) (f_X8_takeBack C)) (nI k, f_X11_work (nI k) (B0 15 17) (f_X11_back__16 E)) := by
  obtain ⟨k1, k2, k3, k4, k5, k6, k7, k8, k9, k10, k11, k12⟩ := kp
  exact (flt hk hb k1 k8 k9 hg h11 (hc.cg k2 k10) (by rw [k3, h7]) (by rw [k11, h5]) (by rw [k4, k12]; exact h8) hkz).to k5 k6
theorem i127e {x1 x2 x3 s : Int32} {M : St} (h : ¬ M 14 20 = 0) : f_X11_instruct_127 x1 x2 x3 s M = f_X11_instruct_162 x1 x2 (M 14 20) M := by
  unfold f_X11_instruct_127 f_X11_instruct_146
  rw [if_neg h, if_neg h]
theorem i62e {x1 x2 x3 s0 : Int32} {M : St} (h : ¬ M 14 20 = 0) : f_X11_instruct_62 x1 x2 x3 s0 M = f_X11_instruct_162 x1 x2 (M 14 20) (xup M 14 19 s0) := by
  have h' : ¬ (xup M 14 19 s0) 14 20 = 0 := by rw [xo4 rfl]; exact h
  unfold f_X11_instruct_62 f_X11_instruct_126
  rw [i127e h', i127e h', i127e h', i127e h', i127e h', ite_self, ite_self, ite_self, ite_self, ite_self, xo4 rfl]
theorem i127k {x1 x2 x3 s : Int32} {M : St} (h : M 14 20 = 0) (hs : ¬ s = 0) : f_X11_instruct_127 x1 x2 x3 s M = (s, f_X11_work s x2 (f_X11_back__16 M)) := by
  unfold f_X11_instruct_127 f_X11_instruct_146
  rw [if_pos h, if_neg hs, if_pos h, ins162 hs]
theorem i127p {x1 x2 x3 : Int32} {M : St} (h : M 14 20 = 0) : f_X11_instruct_127 x1 x2 x3 0 M = f_X11_instruct_146 x1 x2 0 (f_X11_perform x3 M) := by
  unfold f_X11_instruct_127
  rw [if_pos h, if_pos (show (0 : Int32) = 0 from rfl), xb_l]
/-- an instruction that is carried out -/
theorem doit {A0 B0 C E : St} {x1 w : Int32} {op : Nat} (hop : op < 62) (kp : KP A0 B0 x1 C E) (hR : R id (C 11) (xup (xup C 12 6 0) 12 7 0) E) (hx : R id (C 11) (f_X4_perform op C) (f_X11_perform w E)) (hg : GY A0 B0) (h11 : C 8 11 = E 14 19) (hc : CN A0 B0) (h7 : A0 8 7 = 0) (h5 : B0 14 5 = 0) (h8 : A0 8 8 = B0 14 6) : INS A0 (f_X7_end (f_X4_perform op C)) (f_X11_instruct_146 x1 (B0 15 17) 0 (f_X11_perform w E)) := by
  have f8 : (f_X4_perform op C) 8 = C 8 := fr_X4_perform rfl
  have kp3 : KP A0 B0 x1 (f_X4_perform op C) (f_X11_perform w E) := kp.cg (fr_X4_perform rfl) (fr_X4_perform rfl) (fun j _ => by rw [f8]) (fun j => g_X11_perform rfl) (fun j => g_X11_perform rfl) (g_X11_perform rfl) (g_X11_perform rfl)
  have g19 : (f_X11_perform w E) 14 19 = E 14 19 := g_X11_perform rfl
  have tp := tr_all C op hop
  generalize f_X4_perform op C = A3 at hx kp3 tp f8 ⊢
  generalize f_X11_perform w E = B3 at hx kp3 g19 ⊢
  have h113 : A3 8 11 = B3 14 19 := by rw [f8, g19]; exact h11
  by_cases e : A3 4 10 = 0
  · obtain ⟨n, hn, et⟩ := tp
    have g := hx.g e
    obtain ⟨k1, k2, k3, k4, k5, k6, k7, k8, k9, k10, k11, k12⟩ := kp3
    exact (endN hn hx.b e ⟨g.reg, g.s0, g.sr⟩ et (g.tr.symm.trans et) g.sp k7 (hc.cg k2 k10) (by rw [k3, h7]) (by rw [k11, h5]) h113).to k5 k6
  · have er := hx.b.err.2 e
    have e20 : ¬ B3 14 20 = 0 := fun x => e (hx.b.err.1.trans x)
    obtain ⟨k, hk, ek⟩ : ∃ k : Nat, (k = 2 ∨ k = 3) ∧ A3 4 10 = nI k := by
      rcases er.2.2.1 with x | x
      · exact ⟨2, Or.inl rfl, x⟩
      · exact ⟨3, Or.inr rfl, x⟩
    have ek2 : B3 14 20 = nI k := hx.b.err.1.symm.trans ek
    have m : f_X11_instruct_146 x1 (B0 15 17) 0 B3 = (nI k, f_X11_work (nI k) (B0 15 17) (f_X11_back__16 B3)) := by
      unfold f_X11_instruct_146
      rw [if_neg e20, ins162 e20, ek2]
    rw [m, endF (k := k) (by omega) (Or.inl ⟨e, ek⟩)]
    exact kp3.fall (by omega) hx.b hg h113 hc h7 h5 h8 (fun _ => ek)
set_option maxHeartbeats 1000000 in
theorem ins {A B : St} (hb : RB A (xup B 14 20 0)) (h0 : A 4 10 = 0) (hg : GY A B) (hc : CN A B) (h7 : A 8 7 = 0) (h5 : B 14 5 = 0) (h8 : A 8 8 = B 14 6) : INS A (f_X7_end (f_X4_perform (f_X7_begin A).1 (f_X7_begin A).2)) (f_X11_instruct B) := by
  have kf : ∀ {p j : Nat}, xno2 p j [(16, none)] = true → (f_X11_keep__16 B) p j = B p j := fun hp => g_X11_keep__16 hp
  have kk := kept16 (M := B)
  have x1e : f_X11_has 32768 (f_X11_keep__16 B) = f_X8_has 32768 (xcp A 2 3) := (has_eq 32768 (by rw [xcp_other (by decide), hg.2.1, kf rfl])).symm
  have pce : (f_X11_keep__16 B) 15 17 = B 15 17 := kf rfl
  unfold f_X7_begin f_X11_instruct f_X8_keep
  simp only [xb_l]
  rw [x1e, pce]
  generalize f_X8_has 32768 (xcp A 2 3) = x1
  have y1 : RY (xup (xcp A 2 3) 8 12 x1) (xup (xup (xup (xup (f_X11_keep__16 B) 14 19 0) 14 20 0) 14 23 0) 14 24 0) := by
    refine ⟨hb.cg (fun p hp => ?_) (fun p k hp => ?_), fun _ => hg.cg ?_ (fun j => ?_) ?_⟩
    · rw [xup_other (xnot_at hp rfl), xcp_other (xnot_at hp rfl)]
    · rw [xup_o2 (x2_field 14 24 hp rfl), xup_o2 (x2_field 14 23 hp rfl), xup_ite]
      by_cases c : p = 14 ∧ k = 20
      · rw [if_pos c, c.1, c.2, xs4]
      · rw [if_neg c, xup_o2 (x2_field 14 19 hp rfl), kf (x2_sub hp rfl), xup_ite, if_neg c]
    · rw [xup_other (by decide), xcp_other (by decide)]
    · rw [xo4 rfl, xo4 rfl, xo4 rfl, xo4 rfl]; exact kf rfl
    · rw [xo4 rfl, xo4 rfl, xo4 rfl, xo4 rfl]; exact kf rfl
  have c0 : (xup (xcp A 2 3) 8 12 x1) 4 10 = 0 := by rw [xo4 rfl, xcp_other (by decide)]; exact h0
  have f := y1.fetch c0
  have kp : KP A B x1 (f_X6_fetch 1 (xup (xcp A 2 3) 8 12 x1)).2 (f_X11_fetch (xup (xup (xup (xup (f_X11_keep__16 B) 14 19 0) 14 20 0) 14 23 0) 14 24 0)).2 := by
    have p8 : (f_X6_fetch 1 (xup (xcp A 2 3) 8 12 x1)).2 8 = (xup (xcp A 2 3) 8 12 x1) 8 := fr_X6_fetch rfl
    refine ⟨fun j hj => ?_, fun j => ?_, ?_, ?_, ?_, ?_, ?_, fun j hj => ?_, ?_, fun j => ?_, ?_, ?_⟩
    · rw [fr_X6_fetch rfl, xup_other (by decide), xcp_at hj]
    · rw [fr_X6_fetch rfl, xup_other (by decide), xcp_other (by decide)]
    · rw [p8, xo4 rfl, xcp_other (by decide)]
    · rw [p8, xo4 rfl, xcp_other (by decide)]
    · rw [p8, xo4 rfl, xcp_other (by decide)]
    · rw [p8, xo4 rfl, xcp_other (by decide)]
    · rw [p8, xs4]
    · rw [g_X11_fetch rfl, xo4 rfl, xo4 rfl, xo4 rfl, xo4 rfl]; exact kk.1 j hj
    · rw [g_X11_fetch rfl, xo4 rfl, xo4 rfl, xo4 rfl, xo4 rfl]; exact kk.2
    · rw [g_X11_fetch rfl, xo4 rfl, xo4 rfl, xo4 rfl, xo4 rfl]; exact kf rfl
    · rw [g_X11_fetch rfl, xo4 rfl, xo4 rfl, xo4 rfl, xo4 rfl]; exact kf rfl
    · rw [g_X11_fetch rfl, xo4 rfl, xo4 rfl, xo4 rfl, xo4 rfl]; exact kf rfl
  have b23 : (f_X11_fetch (xup (xup (xup (xup (f_X11_keep__16 B) 14 19 0) 14 20 0) 14 23 0) 14 24 0)).2 14 23 = 0 := by rw [g_X11_fetch rfl, xo4 rfl, xs4]
  have b24 : (f_X11_fetch (xup (xup (xup (xup (f_X11_keep__16 B) 14 19 0) 14 20 0) 14 23 0) 14 24 0)).2 14 24 = 0 := by rw [g_X11_fetch rfl, xs4]
  generalize f_X6_fetch 1 (xup (xcp A 2 3) 8 12 x1) = pa at f kp ⊢
  generalize f_X11_fetch (xup (xup (xup (xup (f_X11_keep__16 B) 14 19 0) 14 20 0) 14 23 0) 14 24 0) = pb at f kp b23 b24 ⊢
  obtain ⟨f1, f2, f3⟩ := f
  by_cases e : pa.2 4 10 = 0
  · have eb : pb.2 14 20 = 0 := f1.1.err.1.symm.trans e
    have gy := f1.2 e
    obtain ⟨ew, hrg⟩ := f2 e
    obtain ⟨n, hn, en⟩ := xrg_nat (n := 65536) hrg (by decide) (by decide)
    obtain ⟨g, r, d, z, m, l, hwB, hwd⟩ := wd_all hn
    rw [hwd] at en
    have en2 : pb.1 = wd g r d z m l := ew.symm.trans en
    rw [if_pos e, if_pos eb, en, en2]
    have kp1 : KP A B x1 (xup pa.2 8 11 (wd g r d z m l)) (xup pb.2 14 19 (wd g r d z m l)) := kp.cg (xup_other (by decide)) (xup_other (by decide)) (fun j hj => xup_o2 (Or.inr hj)) (fun j => xo4 rfl) (fun j => xo4 rfl) (xo4 rfl) (xo4 rfl)
    have rb1 : RB (xup pa.2 8 11 (wd g r d z m l)) (xup pb.2 14 19 (wd g r d z m l)) := f1.1.cg (fun p hp => xup_other (xnot_at hp rfl)) (fun p k hp => xup_o2 (x2_field 14 19 hp rfl))
    have gy1 : GY (xup pa.2 8 11 (wd g r d z m l)) (xup pb.2 14 19 (wd g r d z m l)) := gy.cg (xup_other (by decide)) (fun j => xo4 rfl) (xo4 rfl)
    have q1 : (xup pa.2 8 11 (wd g r d z m l)) 8 11 = (xup pb.2 14 19 (wd g r d z m l)) 14 19 := by rw [xs4, xs4]
    have q0 : (xup pa.2 8 11 (wd g r d z m l)) 4 10 = 0 := by rw [xo4 rfl]; exact e
    have t23 : (xup pb.2 14 19 (wd g r d z m l)) 14 23 = 0 := by rw [xo4 rfl]; exact b23
    have t24 : (xup pb.2 14 19 (wd g r d z m l)) 14 24 = 0 := by rw [xo4 rfl]; exact b24
    have t20 : (xup pb.2 14 19 (wd g r d z m l)) 14 20 = 0 := by rw [xo4 rfl]; exact eb
    unfold f_X11_instruct_62 f_X11_instruct_126
    rw [(wd_g hwB).2]
    generalize xup pa.2 8 11 (wd g r d z m l) = C at kp1 rb1 gy1 q1 q0 ⊢
    generalize xup pb.2 14 19 (wd g r d z m l) = E at kp1 rb1 gy1 q1 t23 t24 t20 ⊢
    -- an exception in place of the instruction
    have bad : ∀ (op k : Nat) (C' : St), (k = 4 ∨ k = 8 ∨ k = 10 ∨ k = 11) → (∀ p, p ≠ 11 → C' p = C p) → f_X4_perform op C' = xup (xup (xup C' 12 6 0) 12 7 0) 12 6 (nI k) → INS A (f_X7_end (f_X4_perform op C')) (f_X11_instruct_127 x1 (B 15 17) (wd g r d z m l) (nI k) E) := by
      intro op k C' hk hC hp
      rw [hp, i127k t20 (nq_0 (n := k) (by omega) (by omega))]
      have fx : ∀ p, p ≠ 11 → p ≠ 12 → (xup (xup (xup C' 12 6 0) 12 7 0) 12 6 (nI k)) p = C p := fun p h1 h2 => by rw [xup_other h2, xup_other h2, xup_other h2, hC p h1]
      rw [endF (k := k) (by omega) (Or.inr ⟨by rw [fx 4 (by decide) (by decide)]; exact q0, xs4⟩)]
      refine (kp1.cg (fx 3 (by decide) (by decide)) (fx 9 (by decide) (by decide)) (fun j _ => by rw [fx 8 (by decide) (by decide)]) (fun _ => rfl) (fun _ => rfl) rfl rfl).fall (by omega) (rb1.cg (fun p hp => fx p (xnot_at hp rfl) (xnot_at hp rfl)) (fun _ _ _ => rfl)) hg (by rw [fx 8 (by decide) (by decide)]; exact q1) hc h7 h5 h8 (fun x => absurd x (by omega))
    by_cases g10 : g = 10
    · subst g10
      rw [dc_10 hwB, if_pos (show nI 10 = 10 from rfl)]
      dsimp only
      rw [show opP.getD 62 0 = 0 from rfl, if_pos (show (0 : Int32) = 0 from rfl)]
      exact bad 62 10 _ (by decide) (fun p hp => xup_other hp) (pf_62 _)
    · by_cases g15 : g = 15
      · subst g15
        rw [dc_15 hwB, if_neg (show ¬ nI 15 = 10 by decide), if_pos (show nI 15 = 15 from rfl)]
        dsimp only
        rw [show opP.getD 63 0 = 0 from rfl, if_pos (show (0 : Int32) = 0 from rfl)]
        exact bad 63 11 _ (by decide) (fun p hp => xup_other hp) (pf_63 _)
      · have hg16 := hwB.1
        rw [if_neg (nq_10 (n := g) g10 (by omega)), if_neg (nq_15 (n := g) g15 (by omega))]
        have ex := EX_all (M := C) hwB g10 g15
        have fd : ∀ p, p ≠ 11 → (f_X3_decode (wd g r d z m l) C).2 p = C p := fun p hp => fr_X3_decode (by simp [xnot, hp])
        generalize f_X3_decode (wd g r d z m l) C = q at ex fd ⊢
        rcases ex with ⟨hl, hq⟩ | ⟨hl, hop, hpv, hx⟩
        · rw [if_pos hl, hq, show opP.getD 65 0 = 0 from rfl, if_pos (show (0 : Int32) = 0 from rfl)]
          dsimp only
          exact bad 65 4 _ (by decide) fd (pf_65 _)
        · rw [if_neg hl]
          have rX : R id (q.2 11) (xup (xup q.2 12 6 0) 12 7 0) E := by
            have fx : ∀ p, p ≠ 11 → p ≠ 12 → (xup (xup q.2 12 6 0) 12 7 0) p = C p := fun p h1 h2 => by rw [xup_other h2, xup_other h2, fd p h1]
            refine R.mk (rb1.cg (fun p hp => fx p (xnot_at hp rfl) (xnot_at hp rfl)) (fun _ _ _ => rfl)) (by rw [xup_other (by decide), xup_other (by decide)]) (fun _ => ?_) (fun _ => rfl)
            refine RG.mk (fun j hj => ?_) ?_ ?_ ?_ ?_
            · rw [fx 2 (by decide) (by decide)]; exact gy1.1 j hj
            · rw [fx 2 (by decide) (by decide)]; exact gy1.2.1
            · rw [fx 2 (by decide) (by decide)]; exact gy1.2.2
            · rw [xo4 rfl, xs4, t23]
            · rw [xs4, t24]
          have kp2 : KP A B x1 q.2 E := kp1.cg (fd 3 (by decide)) (fd 9 (by decide)) (fun j _ => by rw [fd 8 (by decide)]) (fun _ => rfl) (fun _ => rfl) rfl rfl
          have run : INS A (f_X7_end (f_X4_perform q.1 q.2)) (f_X11_instruct_127 x1 (B 15 17) (wd g r d z m l) 0 E) := by
            rw [i127p t20]
            exact doit hop kp2 rX (hx E rX) hg (by rw [fd 8 (by decide)]; exact q1) hc h7 h5 h8
          by_cases pv : opP.getD q.1 0 = 0
          · rw [if_pos pv, if_pos (hpv.mp pv)]
            exact run
          · have hs : f_X8_has 8192 q.2 = f_X11_has 8192 E := has_eq 8192 (by rw [fd 2 (by decide)]; exact gy1.2.1)
            rw [if_neg pv, if_neg (fun x => pv (hpv.mpr x)), hs]
            by_cases cs : f_X11_has 8192 E = 0
            · rw [if_pos cs, if_pos cs]
              exact bad 64 8 _ (by decide) fd (pf_64 _)
            · rw [if_neg cs, if_neg cs]
              exact run
  · have eb : ¬ pb.2 14 20 = 0 := fun x => e (f1.1.err.1.trans x)
    rw [if_neg e, if_neg eb, i62e eb, f3 e]
    dsimp only
    rw [pf_60]
    have er := f1.1.err.2 e
    obtain ⟨k, hk, ek⟩ : ∃ k : Nat, (k = 2 ∨ k = 3) ∧ pa.2 4 10 = nI k := by
      rcases er.2.2.1 with x | x
      · exact ⟨2, Or.inl rfl, x⟩
      · exact ⟨3, Or.inr rfl, x⟩
    have ek2 : pb.2 14 20 = nI k := f1.1.err.1.symm.trans ek
    have fx : ∀ p, p ≠ 8 → p ≠ 12 → (xup (xup (xup pa.2 8 11 0) 12 6 0) 12 7 0) p = pa.2 p := fun p h1 h2 => by rw [xup_other h2, xup_other h2, xup_other h1]
    rw [ek2, ins162 (nq_0 (n := k) (by omega) (by omega)), endF (k := k) (by omega) (Or.inl ⟨by rw [fx 4 (by decide) (by decide)]; exact e, by rw [fx 4 (by decide) (by decide)]; exact ek⟩)]
    refine (kp.cg (fx 3 (by decide) (by decide)) (fx 9 (by decide) (by decide)) (fun j hj => ?_) (fun j => xo4 rfl) (fun j => xo4 rfl) (xo4 rfl) (xo4 rfl)).fall (by omega) (f1.1.cg (fun p hp => fx p (xnot_at hp rfl) (xnot_at hp rfl)) (fun p k hp => xup_o2 (x2_field 14 19 hp rfl))) hg ?_ hc h7 h5 h8 (fun _ => by rw [fx 4 (by decide) (by decide)]; exact ek)
    · rw [xup_other (by decide), xup_other (by decide), xup_o2 (Or.inr hj)]
    · rw [xo4 rfl, xo4 rfl, xs4, xs4]
