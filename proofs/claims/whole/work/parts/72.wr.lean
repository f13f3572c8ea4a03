/-! writes of the two buses -/
theorem RQ.cg {A B A' B' : St} (h : RQ A B) (h1 : A' 4 4 = A 4 4) (h2 : A' 4 3 = A 4 3) (h3 : A' 6 = A 6) (h4 : B' 14 12 = B 14 12) (h5 : B' 19 = B 19) : RQ A' B' := by
  unfold RQ
  rw [h1, h2, h3, h4, h5]
  exact h
theorem RSd.cg {A B A' B' : St} (h : RSd A B) (h1 : A' 4 5 = A 4 5) (h3 : A' 7 = A 7) (h4 : B' 14 14 = B 14 14) (h5 : B' 20 = B 20) : RSd A' B' := by
  unfold RSd
  rw [h1, h3, h4, h5]
  exact h
theorem REr.cg {A B A' B' : St} (h : REr A B) (h1 : A' 4 10 = A 4 10) (h2 : A' 4 11 = A 4 11) (h3 : A' 4 12 = A 4 12) (h4 : B' 14 20 = B 14 20) (h5 : B' 14 21 = B 14 21) (h6 : B' 14 22 = B 14 22) : REr A' B' := by
  unfold REr
  rw [h1, h2, h3, h4, h5, h6]
  exact h
theorem xo4 {M : St} {i k p j : Nat} {v : Int32} (h : (decide (p ≠ i) || decide (j ≠ k)) = true) : xup M i k v p j = M p j := by
  apply xup_o2
  rcases Bool.or_eq_true _ _ ▸ h with h | h
  · exact Or.inl (of_decide_eq_true h)
  · exact Or.inr (of_decide_eq_true h)
theorem xs4 {M : St} {i k : Nat} {v : Int32} : xup M i k v i k = v := by rw [xup_ite, if_pos ⟨rfl, rfl⟩]
theorem RB.s_tim {A B : St} {t : Int32} (h : RB A B) (ht : xrg 0 65535 t) : RB (xup A 4 7 t) (xup B 14 9 t) := by
  apply RB.mk
  all_goals first
    | exact RQ.cg h.que (xo4 rfl) (xo4 rfl) (xup_other (by decide)) (xo4 rfl) (xup_other (by decide))
    | exact RSd.cg h.sai (xo4 rfl) (xup_other (by decide)) (xo4 rfl) (xup_other (by decide))
    | exact REr.cg h.err (xo4 rfl) (xo4 rfl) (xo4 rfl) (xo4 rfl) (xo4 rfl) (xo4 rfl)
    | (simp [xup_ite]; first | exact h.mem | exact h.byt | exact h.fen | exact h.fer | exact ht | exact h.tlv | exact h.tlr | exact h.ask | exact h.qf | exact h.qc | exact h.qby | exact h.sar)
    | simp [xup_ite]
theorem RB.s_tlv {A B : St} {t : Int32} (h : RB A B) (ht : xrg 0 7 t) : RB (xup A 4 8 t) (xup B 14 10 t) := by
  apply RB.mk
  all_goals first
    | exact RQ.cg h.que (xo4 rfl) (xo4 rfl) (xup_other (by decide)) (xo4 rfl) (xup_other (by decide))
    | exact RSd.cg h.sai (xo4 rfl) (xup_other (by decide)) (xo4 rfl) (xup_other (by decide))
    | exact REr.cg h.err (xo4 rfl) (xo4 rfl) (xo4 rfl) (xo4 rfl) (xo4 rfl) (xo4 rfl)
    | (simp [xup_ite]; first | exact h.mem | exact h.byt | exact h.fen | exact h.fer | exact ht | exact h.tim | exact h.tir | exact h.ask | exact h.qf | exact h.qc | exact h.qby | exact h.sar)
    | simp [xup_ite]
theorem RB.s_ask {A B : St} {t : Int32} (h : RB A B) : RB (xup A 4 9 t) (xup B 14 11 t) := by
  apply RB.mk
  all_goals first
    | exact RQ.cg h.que (xo4 rfl) (xo4 rfl) (xup_other (by decide)) (xo4 rfl) (xup_other (by decide))
    | exact RSd.cg h.sai (xo4 rfl) (xup_other (by decide)) (xo4 rfl) (xup_other (by decide))
    | exact REr.cg h.err (xo4 rfl) (xo4 rfl) (xo4 rfl) (xo4 rfl) (xo4 rfl) (xo4 rfl)
    | (simp [xup_ite]; first | exact h.mem | exact h.byt | exact h.fen | exact h.fer | exact h.tim | exact h.tir | exact h.tlv | exact h.tlr | exact h.qf | exact h.qc | exact h.qby | exact h.sar)
    | simp [xup_ite]
theorem RB.s_fen {A B : St} {t : Int32} (h : RB A B) (ht : xrg 0 2048 t) : RB (xup A 4 6 t) (xup B 14 8 t) := by
  apply RB.mk
  all_goals first
    | exact RQ.cg h.que (xo4 rfl) (xo4 rfl) (xup_other (by decide)) (xo4 rfl) (xup_other (by decide))
    | exact RSd.cg h.sai (xo4 rfl) (xup_other (by decide)) (xo4 rfl) (xup_other (by decide))
    | exact REr.cg h.err (xo4 rfl) (xo4 rfl) (xo4 rfl) (xo4 rfl) (xo4 rfl) (xo4 rfl)
    | (simp [xup_ite]; first | exact h.mem | exact h.byt | exact ht | exact h.tim | exact h.tir | exact h.ask | exact h.tlv | exact h.tlr | exact h.qf | exact h.qc | exact h.qby | exact h.sar)
    | simp [xup_ite]
/-- the error is set or cleared, the rest of the buses stays -/
theorem RB.s_err {A B : St} {e a w a' w' : Int32} (h : RB A B) (he : ¬ e = 0 → a = a' ∧ w = w' ∧ (e = 2 ∨ e = 3) ∧ (w = 0 ∨ w = 1 ∨ w = 3)) : RB (xup (xup (xup A 4 10 e) 4 11 a) 4 12 w) (xup (xup (xup B 14 20 e) 14 21 a') 14 22 w') := by
  apply RB.mk
  all_goals first
    | exact RQ.cg h.que (by simp [xup_ite]) (by simp [xup_ite]) (by funext j; simp [xup_ite]) (by simp [xup_ite]) (by funext j; simp [xup_ite])
    | exact RSd.cg h.sai (by simp [xup_ite]) (by funext j; simp [xup_ite]) (by simp [xup_ite]) (by funext j; simp [xup_ite])
    | (simp [xup_ite]; first | exact h.mem | exact h.byt | exact h.fen | exact h.fer | exact h.tim | exact h.tir | exact h.ask | exact h.tlv | exact h.tlr | exact h.qf | exact h.qc | exact h.qby | exact h.sar)
    | (unfold REr; simp [xup_ite]; exact he)
theorem RB.s_clr {A B : St} (h : RB A B) : RB (xup A 4 10 0) (xup B 14 20 0) := by
  apply RB.mk
  all_goals first
    | exact RQ.cg h.que (by simp [xup_ite]) (by simp [xup_ite]) (by funext j; simp [xup_ite]) (by simp [xup_ite]) (by funext j; simp [xup_ite])
    | exact RSd.cg h.sai (by simp [xup_ite]) (by funext j; simp [xup_ite]) (by simp [xup_ite]) (by funext j; simp [xup_ite])
    | (simp [xup_ite]; first | exact h.mem | exact h.byt | exact h.fen | exact h.fer | exact h.tim | exact h.tir | exact h.ask | exact h.tlv | exact h.tlr | exact h.qf | exact h.qc | exact h.qby | exact h.sar)
    | (unfold REr; simp [xup_ite])
theorem RB.s_mem {A B : St} {j : Nat} {v : Int32} (h : RB A B) (hv : xrg 0 255 v) : RB (xup A 5 j v) (xup B 18 j v) := by
  apply RB.mk
  all_goals first
    | exact RQ.cg h.que (by simp [xup_ite]) (by simp [xup_ite]) (by funext j; simp [xup_ite]) (by simp [xup_ite]) (by funext j; simp [xup_ite])
    | exact RSd.cg h.sai (by simp [xup_ite]) (by funext j; simp [xup_ite]) (by simp [xup_ite]) (by funext j; simp [xup_ite])
    | exact REr.cg h.err (by simp [xup_ite]) (by simp [xup_ite]) (by simp [xup_ite]) (by simp [xup_ite]) (by simp [xup_ite]) (by simp [xup_ite])
    | (simp [xup_ite]; first | exact h.fen | exact h.fer | exact h.tim | exact h.tir | exact h.ask | exact h.tlv | exact h.tlr | exact h.qf | exact h.qc | exact h.qby | exact h.sar)
    | (intro i hi; rw [xup_ite, xup_ite]; by_cases e : i = j; · simp [e]
       · simp [e]; exact h.mem i hi)
    | (intro i; rw [xup_ite]; by_cases e : i = j; · simp [e]; exact hv
       · simp [e]; exact h.byt i)
theorem RB.s_said {A B : St} {c : Nat} {v : Int32} (h : RB A B) (hc : A 4 5 = nI c) (h64 : c < 64) : RB (xup (xup A 7 c v) 4 5 ((A 4 5) + 1)) (xup (xup B 20 c v) 14 14 ((B 14 14) + 1)) := by
  apply RB.mk
  all_goals first
    | exact RQ.cg h.que (by simp [xup_ite]) (by simp [xup_ite]) (by funext j; simp [xup_ite]) (by simp [xup_ite]) (by funext j; simp [xup_ite])
    | exact REr.cg h.err (by simp [xup_ite]) (by simp [xup_ite]) (by simp [xup_ite]) (by simp [xup_ite]) (by simp [xup_ite]) (by simp [xup_ite])
    | (simp [xup_ite]; first | exact h.mem | exact h.byt | exact h.fen | exact h.fer | exact h.tim | exact h.tir | exact h.ask | exact h.tlv | exact h.tlr | exact h.qf | exact h.qc | exact h.qby)
    | (rw [xs4, hc, nI_1]; exact xrg_nI (by omega) (by omega))
    | skip
  refine ⟨by rw [xs4, xs4, h.sai.1], fun c' hc' _ i hi => ?_⟩
  rw [xs4, hc, nI_1, nI_eq (by omega) (by omega)] at hc'
  subst hc'
  simp [xup_ite]
  by_cases e : i = c
  · simp [e]
  · simp [e]; exact h.sai.2 c hc (by omega) i (by omega)
theorem RB.s_que {A B : St} {f c : Nat} {v : Int32} (h : RB A B) (hf : A 4 3 = nI f) (hc : A 4 4 = nI c) (h1 : f < 16) (h2 : c < 16) (hv : xrg 0 255 v) : RB (xup (xup A 6 ((f + c) % 16) v) 4 4 ((A 4 4) + 1)) (xup (xup B 19 c v) 14 12 ((B 14 12) + 1)) := by
  apply RB.mk
  all_goals first
    | exact RSd.cg h.sai (by simp [xup_ite]) (by funext j; simp [xup_ite]) (by simp [xup_ite]) (by funext j; simp [xup_ite])
    | exact REr.cg h.err (by simp [xup_ite]) (by simp [xup_ite]) (by simp [xup_ite]) (by simp [xup_ite]) (by simp [xup_ite]) (by simp [xup_ite])
    | (simp [xup_ite]; first | exact h.mem | exact h.byt | exact h.fen | exact h.fer | exact h.tim | exact h.tir | exact h.ask | exact h.tlv | exact h.tlr | exact h.qf | exact h.sar)
    | (rw [xs4, hc, nI_1]; exact xrg_nI (by omega) (by omega))
    | (intro i; rw [xup_other (by decide), xup_ite]; by_cases e : i = (f + c) % 16; · simp [e]; exact hv
       · simp [e]; exact h.qby i)
    | skip
  refine ⟨by rw [xs4, xs4, h.que.1], fun f' c' hf' hc' _ _ i hi => ?_⟩
  rw [xs4, hc, nI_1, nI_eq (by omega) (by omega)] at hc'
  rw [xo4 rfl, xo4 rfl, hf, nI_eq (by omega) (by omega)] at hf'
  subst hc' hf'
  simp [xup_ite]
  by_cases e : i = c
  · simp [e]
  · have : ¬ (f + i) % 16 = (f + c) % 16 := by omega
    simp [e, this]; exact h.que.2 f c hf hc h1 (by omega) i (by omega)
/-- one byte written -/
theorem byte_wr {A B : St} {b v : Int32} (h : RB A B) (hb : (0 ≤ b.toInt ∧ b.toInt ≤ 2047) ∨ (4096 ≤ b.toInt ∧ b.toInt ≤ 4103)) (hv : xrg 0 255 v) : RB (f_X2_writeByte b v A) (f_X11_writeByte b v B) := by
  unfold f_X2_writeByte f_X11_writeByte f_X11_writeByte_14 f_X11_writeByte_50 f_X11_writeByte_74 f_X11_writeByte_94 f_X11_writeByte_109
  rcases hb with hb | hb
  · have h1 : ¬ 2048 ≤ b := by rw [x_le]; show ¬ (2048 : Int) ≤ _; omega
    have n0 : ¬ b = 4096 := fun e => by rw [e] at h1; exact h1 (by decide)
    have n2 : ¬ b = 4098 := fun e => by rw [e] at h1; exact h1 (by decide)
    have n3 : ¬ b = 4099 := fun e => by rw [e] at h1; exact h1 (by decide)
    have n4 : ¬ b = 4100 := fun e => by rw [e] at h1; exact h1 (by decide)
    have n5 : ¬ b = 4101 := fun e => by rw [e] at h1; exact h1 (by decide)
    rw [if_neg h1, if_neg h1, if_neg n0, if_neg n2, if_neg n3, if_neg n4, if_neg n5]
    exact h.s_mem hv
  · have h1 : 2048 ≤ b := by rw [x_le]; show (2048 : Int) ≤ _; omega
    rw [if_pos h1, if_pos h1]
    by_cases n0 : b = 4096
    · subst n0
      rw [if_pos rfl, if_pos rfl, if_neg (show ¬ (4096 : Int32) = 4098 by decide), if_neg (show ¬ (4096 : Int32) = 4099 by decide), if_neg (show ¬ (4096 : Int32) = 4100 by decide), if_neg (show ¬ (4096 : Int32) = 4101 by decide)]
      rw [if_neg (show ¬ (4096 : Int32) = 4098 by decide), if_neg (show ¬ (4096 : Int32) = 4099 by decide), if_neg (show ¬ (4096 : Int32) = 4100 by decide), if_neg (show ¬ (4096 : Int32) = 4101 by decide)]
      obtain ⟨c, hc, ec⟩ := xrg_nat (n := 65) h.sar (by decide) (by decide)
      have eb : B 14 14 = nI c := h.sai.1 ▸ ec
      by_cases h64 : 64 ≤ c
      · have : (64 : Int32) ≤ nI c := (nI_leI (a := 64) (by decide) (by omega)).mpr h64
        rw [if_pos (ec ▸ this), if_pos (eb ▸ this)]
        exact h
      · have : ¬ (64 : Int32) ≤ nI c := fun g => h64 ((nI_leI (a := 64) (by decide) (by omega)).mp g)
        rw [if_neg (ec ▸ this), if_neg (eb ▸ this)]
        have e1 : (A 4 5).toNatClampNeg = c := by rw [ec, nI_clamp (by omega)]
        have e2 : (B 14 14).toNatClampNeg = c := by rw [eb, nI_clamp (by omega)]
        rw [e1, e2]
        exact h.s_said ec (by omega)
    rw [if_neg n0, if_neg n0]
    by_cases n1 : b = 4097
    · subst n1
      rw [if_pos rfl, if_neg (by decide), if_neg (by decide), if_neg (by decide), if_neg (by decide)]
      exact h
    rw [if_neg n1]
    by_cases n2 : b = 4098
    · subst n2
      rw [if_pos rfl, if_pos rfl, if_neg (by decide), if_neg (by decide), if_neg (by decide), ← h.tim]
      have e : (A 4 7 &&& 255) ||| (v <<< ((8 : Int32) &&& 31)) = (v <<< ((8 : Int32) &&& 31)) ||| (A 4 7 &&& 255) := Int32.or_comm _ _
      rw [e]
      refine h.s_tim ?_
      have h2 : xrg 0 65280 (v <<< ((8 : Int32) &&& 31)) := by
        obtain ⟨j, hj, rfl⟩ := xrg_nat (n := 256) hv (by decide) (by decide)
        have : (nI j) <<< ((8 : Int32) &&& 31) = nI (j * 256) := by
          apply Int32.toBitVec_inj.mp
          apply BitVec.eq_of_toNat_eq
          show ((nI j).toBitVec <<< (((8 : Int32) &&& 31).toBitVec.smod 32).toNat).toNat = _
          rw [show (((8 : Int32) &&& 31).toBitVec.smod 32).toNat = 8 by decide, BitVec.toNat_shiftLeft, pk_tn (by omega), pk_tn (by omega), Nat.shiftLeft_eq]
          omega
        rw [this]
        exact xrg_nI (by omega) (by omega)
      exact x_rg_or 16 (by decide) h2 (x_rg_and (x := A 4 7) (m := 255) (k := 255) (by decide) (by decide)) (by decide) (by decide)
    rw [if_neg n2, if_neg n2]
    by_cases n3 : b = 4099
    · subst n3
      rw [if_pos rfl, if_pos rfl, if_neg (by decide), if_neg (by decide), ← h.tim]
      refine h.s_tim ?_
      exact x_rg_or 16 (by decide) (x_rg_and (x := A 4 7) (m := 65280) (k := 65280) (by decide) (by decide)) hv (by decide) (by decide)
    rw [if_neg n3, if_neg n3]
    by_cases n4 : b = 4100
    · subst n4
      rw [if_pos rfl, if_pos rfl, if_neg (by decide)]
      exact h.s_tlv (x_rg_and (by decide) (by decide))
    rw [if_neg n4, if_neg n4]
    by_cases n5 : b = 4101
    · subst n5
      rw [if_pos rfl, if_pos rfl]
      exact h.s_ask
    rw [if_neg n5, if_neg n5]
    exact h
