/-! THE RELATION of the two buses -/
theorem xup_ite {M : St} {i j p k : Nat} {v : Int32} : xup M i j v p k = if p = i ∧ k = j then v else M p k := by
  by_cases hp : p = i
  · subst hp
    by_cases hk : k = j
    · subst hk
      rw [xup_self, pk_us, if_pos ⟨rfl, rfl⟩]
    · rw [xup_self, pk_un hk, if_neg (fun h => hk h.2)]
  · rw [xup_other hp, if_neg (fun h => hp h.1)]
/-- what is typed: a ring and a row -/
def RQ (A B : St) : Prop := A 4 4 = B 14 12 ∧ ∀ (f c : Nat), A 4 3 = nI f → A 4 4 = nI c → f < 16 → c ≤ 16 → ∀ i, i < c → A 6 ((f + i) % 16) = B 19 i
/-- what is said -/
def RSd (A B : St) : Prop := A 4 5 = B 14 14 ∧ ∀ (c : Nat), A 4 5 = nI c → c ≤ 64 → ∀ i, i < c → A 7 i = B 20 i
/-- the error -/
def REr (A B : St) : Prop := A 4 10 = B 14 20 ∧ (¬ A 4 10 = 0 → A 4 11 = B 14 21 ∧ A 4 12 = B 14 22 ∧ (A 4 10 = 2 ∨ A 4 10 = 3) ∧ (A 4 12 = 0 ∨ A 4 12 = 1 ∨ A 4 12 = 3))
def RB (A B : St) : Prop := (∀ j, j < 2048 → A 5 j = B 18 j) ∧ (∀ j, xrg 0 255 (A 5 j)) ∧ (A 4 6 = B 14 8) ∧ (xrg 0 2048 (B 14 8)) ∧ (A 4 7 = B 14 9) ∧ (xrg 0 65535 (A 4 7)) ∧ (A 4 8 = B 14 10) ∧ (xrg 0 7 (A 4 8)) ∧ (A 4 9 = B 14 11) ∧ (RQ A B) ∧ (xrg 0 15 (A 4 3)) ∧ (xrg 0 16 (A 4 4)) ∧ (∀ j, xrg 0 255 (A 6 j)) ∧ (RSd A B) ∧ (xrg 0 64 (A 4 5)) ∧ (REr A B)
theorem RB.mem {A B : St} (h : RB A B) : ∀ j, j < 2048 → A 5 j = B 18 j := h.1
theorem RB.byt {A B : St} (h : RB A B) : ∀ j, xrg 0 255 (A 5 j) := h.2.1
theorem RB.fen {A B : St} (h : RB A B) : A 4 6 = B 14 8 := h.2.2.1
theorem RB.fer {A B : St} (h : RB A B) : xrg 0 2048 (B 14 8) := h.2.2.2.1
theorem RB.tim {A B : St} (h : RB A B) : A 4 7 = B 14 9 := h.2.2.2.2.1
theorem RB.tir {A B : St} (h : RB A B) : xrg 0 65535 (A 4 7) := h.2.2.2.2.2.1
theorem RB.tlv {A B : St} (h : RB A B) : A 4 8 = B 14 10 := h.2.2.2.2.2.2.1
theorem RB.tlr {A B : St} (h : RB A B) : xrg 0 7 (A 4 8) := h.2.2.2.2.2.2.2.1
theorem RB.ask {A B : St} (h : RB A B) : A 4 9 = B 14 11 := h.2.2.2.2.2.2.2.2.1
theorem RB.que {A B : St} (h : RB A B) : RQ A B := h.2.2.2.2.2.2.2.2.2.1
theorem RB.qf {A B : St} (h : RB A B) : xrg 0 15 (A 4 3) := h.2.2.2.2.2.2.2.2.2.2.1
theorem RB.qc {A B : St} (h : RB A B) : xrg 0 16 (A 4 4) := h.2.2.2.2.2.2.2.2.2.2.2.1
theorem RB.qby {A B : St} (h : RB A B) : ∀ j, xrg 0 255 (A 6 j) := h.2.2.2.2.2.2.2.2.2.2.2.2.1
theorem RB.sai {A B : St} (h : RB A B) : RSd A B := h.2.2.2.2.2.2.2.2.2.2.2.2.2.1
theorem RB.sar {A B : St} (h : RB A B) : xrg 0 64 (A 4 5) := h.2.2.2.2.2.2.2.2.2.2.2.2.2.2.1
theorem RB.err {A B : St} (h : RB A B) : REr A B := h.2.2.2.2.2.2.2.2.2.2.2.2.2.2.2
theorem RB.mk {A B : St} (h0 : ∀ j, j < 2048 → A 5 j = B 18 j) (h1 : ∀ j, xrg 0 255 (A 5 j)) (h2 : A 4 6 = B 14 8) (h3 : xrg 0 2048 (B 14 8)) (h4 : A 4 7 = B 14 9) (h5 : xrg 0 65535 (A 4 7)) (h6 : A 4 8 = B 14 10) (h7 : xrg 0 7 (A 4 8)) (h8 : A 4 9 = B 14 11) (h9 : RQ A B) (h10 : xrg 0 15 (A 4 3)) (h11 : xrg 0 16 (A 4 4)) (h12 : ∀ j, xrg 0 255 (A 6 j)) (h13 : RSd A B) (h14 : xrg 0 64 (A 4 5)) (h15 : REr A B) : RB A B := ⟨h0, h1, h2, h3, h4, h5, h6, h7, h8, h9, h10, h11, h12, h13, h14, h15⟩
theorem sh_u (n : Nat) (x2 x3 : Int32) (M : St) : f_X11_readByte_62 (n + 1) x2 x3 M = (if (M 14 12) ≤ x3 then (x2, M) else f_X11_readByte_62 n x2 (x3 + 1) (xup M 19 x3.toNatClampNeg (M 19 (x3 + 1).toNatClampNeg))) := rfl
theorem sh_loop : ∀ (n : Nat) (v : Int32) (k t : Nat) (M : St), M 14 12 = nI t → t ≤ 15 → k ≤ t → t - k < n → (f_X11_readByte_62 n v (nI k) M).1 = v ∧ (∀ i, (f_X11_readByte_62 n v (nI k) M).2 19 i = if k ≤ i ∧ i < t then M 19 (i + 1) else M 19 i)
  | 0, _, _, _, _, _, _, _, h => absurd h (Nat.not_lt_zero _)
  | n + 1, v, k, t, M, ht, h15, hk, hn => by
    rw [sh_u, ht]
    by_cases hkt : t ≤ k
    · rw [if_pos ((nI_leI (by omega) (by omega)).mpr hkt)]
      refine ⟨rfl, fun i => ?_⟩
      rw [if_neg (by omega)]
    · rw [if_neg (fun h => hkt ((nI_leI (by omega) (by omega)).mp h))]
      have e1 : (nI k).toNatClampNeg = k := nI_clamp (by omega)
      have e2 : nI k + 1 = nI (k + 1) := nI_1 k
      have e3 : (nI (k + 1)).toNatClampNeg = k + 1 := nI_clamp (by omega)
      rw [e2, e1, e3]
      obtain ⟨h1, h2⟩ := sh_loop n v (k + 1) t (xup M 19 k (M 19 (k + 1))) (by rw [xup_o2 (Or.inl (by decide))]; exact ht) h15 (by omega) (by omega)
      refine ⟨h1, fun i => ?_⟩
      rw [h2 i]
      by_cases c1 : k + 1 ≤ i ∧ i < t
      · rw [if_pos c1, if_pos (by omega), xup_ite, if_neg (by omega)]
      · rw [if_neg c1, xup_ite]
        by_cases c2 : i = k
        · subst c2
          rw [if_pos ⟨rfl, rfl⟩, if_pos (by omega)]
        · rw [if_neg (by omega), if_neg (by omega)]
/-- the port read: what was first is answered and gone -/
theorem port_rd {A B : St} (h : RB A B) : (f_X2_readByte 4096 A).1 = (f_X11_readByte 4096 B).1 ∧ RQ (f_X2_readByte 4096 A).2 (f_X11_readByte 4096 B).2 := by
  have i0 := h.qf
  have i1 := h.qc
  have hQ := h.que
  obtain ⟨f, hf, ef⟩ := vp_in_of (x := A 4 3) (n := 16) (x_rgv i0 (by decide) (by decide)) (by decide)
  obtain ⟨c, hc, ec⟩ := vp_in_of (x := A 4 4) (n := 17) (x_rgv i1 (by decide) (by decide)) (by decide)
  obtain ⟨q1, q2⟩ := hQ
  have q3 := q2 f c ef ec hf (by omega)
  have eb : B 14 12 = nI c := q1 ▸ ec
  have u1 : f_X2_readByte 4096 A = if (A 4 4) = 0 then (0, A) else ((A 6 (A 4 3).toNatClampNeg), (xup (xup A 4 3 (((A 4 3) + 1) - ((A 4 3) + 1) / 16 * 16)) 4 4 ((A 4 4) - 1))) := by
    unfold f_X2_readByte
    rw [if_pos (by decide), if_pos rfl]
  have u2 : f_X11_readByte 4096 B = if (B 14 12) ≤ 0 then f_X11_readByte_38 0 B else f_X11_readByte_38 (B 19 0) B := by
    unfold f_X11_readByte
    rw [if_pos (by decide), if_pos rfl]
  rw [u1, u2, ec, eb]
  have z0 : (0 : Int32) = nI 0 := rfl
  by_cases hz : c = 0
  · subst hz
    rw [if_pos (show nI 0 = 0 from rfl), if_pos (by decide)]
    unfold f_X11_readByte_38 f_X11_readByte_57
    rw [eb, if_pos (by decide)]
    have e1 : (((xup B 14 12 0) 14 12).toInt - (0 : Int32).toInt).toNat + 1 = 1 := by
      rw [xup_ite, if_pos ⟨rfl, rfl⟩]; decide
    rw [e1]
    obtain ⟨h1, h2⟩ := sh_loop 1 0 0 0 (xup B 14 12 0) (by rw [xup_ite, if_pos ⟨rfl, rfl⟩]; rfl) (by decide) (by decide) (by decide)
    rw [z0]
    refine ⟨h1.symm, ?_, ?_⟩
    · dsimp only
      rw [g_X11_readByte_62 (by decide), xup_ite, if_pos ⟨rfl, rfl⟩, ec]
    · intro f' c' _ hc' _ _ i hi
      dsimp only at hc'
      rw [ec, nI_eq (by omega) (by omega)] at hc'
      omega
  · have hne : ¬ nI c = 0 := nI_ne0 (by omega) (by omega)
    have hnl : ¬ nI c ≤ 0 := nI_nle (by omega) (by omega)
    rw [if_neg hne, if_neg hnl]
    unfold f_X11_readByte_38 f_X11_readByte_57
    rw [eb, if_neg hnl]
    have ecm : nI c - 1 = nI (c - 1) := by
      rw [show c = (c - 1) + 1 by omega, nI_pred]; rfl
    have efm : (A 4 3) + 1 - ((A 4 3) + 1) / 16 * 16 = nI ((f + 1) % 16) := by
      rw [ef, nI_1, show (16 : Int32) = nI 16 from rfl, pk_rem (by omega) (by decide) (by decide)]
    have e2 : (xup B 14 12 (nI c - 1)) 14 12 = nI (c - 1) := by rw [xup_ite, if_pos ⟨rfl, rfl⟩, ecm]
    have e1 : (((xup B 14 12 (nI c - 1)) 14 12).toInt - (0 : Int32).toInt).toNat + 1 = (c - 1) + 1 := by
      rw [e2, nI_toInt (by omega), show (0 : Int32).toInt = 0 by decide]; omega
    rw [e1]
    obtain ⟨h1, h2⟩ := sh_loop ((c - 1) + 1) (B 19 0) 0 (c - 1) (xup B 14 12 (nI c - 1)) e2 (by omega) (by omega) (by omega)
    refine ⟨?_, ?_, ?_⟩
    · rw [show (0 : Int32) = nI 0 from rfl, h1, ef, nI_clamp (by omega)]
      have := q3 0 (by omega)
      rw [Nat.add_zero, Nat.mod_eq_of_lt hf] at this
      exact this
    · rw [show (0 : Int32) = nI 0 from rfl, g_X11_readByte_62 (by decide), e2]
      dsimp only
      rw [xup_ite, if_pos ⟨rfl, rfl⟩, ecm]
    · intro f' c' hf' hc' hf1 hc1 i hi
      dsimp only at hf' hc' ⊢
      rw [xup_ite, if_neg (by decide), xup_ite, if_pos ⟨rfl, rfl⟩, efm, nI_eq (by omega) (by omega)] at hf'
      rw [xup_ite, if_pos ⟨rfl, rfl⟩, ecm, nI_eq (by omega) (by omega)] at hc'
      subst hf' hc'
      rw [show (0 : Int32) = nI 0 from rfl, h2 i, if_pos (by omega), xup_ite, if_neg (by omega), xup_ite, if_neg (by omega), xup_ite, if_neg (by omega)]
      have := q3 (i + 1) (by omega)
      rw [← this]
      congr 1
      omega

theorem RB.qnat {A B : St} (h : RB A B) : ∃ f c : Nat, f < 16 ∧ c < 17 ∧ A 4 3 = nI f ∧ A 4 4 = nI c := by
  obtain ⟨f, hf, ef⟩ := vp_in_of (x := A 4 3) (n := 16) (x_rgv h.qf (by decide) (by decide)) (by decide)
  obtain ⟨c, hc, ec⟩ := vp_in_of (x := A 4 4) (n := 17) (x_rgv h.qc (by decide) (by decide)) (by decide)
  exact ⟨f, c, hf, hc, ef, ec⟩
theorem xrg_nI {n : Nat} {k : Int} (h : (n : Int) ≤ k) (hn : n < 2 ^ 31) : xrg 0 k (nI n) := by
  refine ⟨?_, ?_⟩ <;> rw [nI_toInt hn] <;> omega
theorem xrg_nat {x : Int32} {n : Nat} {k : Int} (h : xrg 0 k x) (hk : k < n) (hn : n < 2 ^ 31) : ∃ j : Nat, j < n ∧ x = nI j := by
  obtain ⟨j, hj, e⟩ := vp_in_of (x := x) (n := n) (x_rgv h (by decide) hk) (by omega)
  exact ⟨j, hj, e⟩
theorem port_RB {A B : St} (h : RB A B) : RB (f_X2_readByte 4096 A).2 (f_X11_readByte 4096 B).2 := by
  have hq := (port_rd h).2
  obtain ⟨f, c, hf, hc, ef, ec⟩ := h.qnat
  have u1 : f_X2_readByte 4096 A = if (A 4 4) = 0 then (0, A) else ((A 6 (A 4 3).toNatClampNeg), (xup (xup A 4 3 (((A 4 3) + 1) - ((A 4 3) + 1) / 16 * 16)) 4 4 ((A 4 4) - 1))) := by
    unfold f_X2_readByte
    rw [if_pos (by decide), if_pos rfl]
  have k4 : ∀ j, j ≠ 3 → j ≠ 4 → (f_X2_readByte 4096 A).2 4 j = A 4 j := fun j h3 h4 => g_X2_readByte (by simp [xno2, h3, h4])
  have k5 : (f_X2_readByte 4096 A).2 5 = A 5 := funext fun j => g_X2_readByte rfl
  have k6 : (f_X2_readByte 4096 A).2 6 = A 6 := funext fun j => g_X2_readByte rfl
  have k7 : (f_X2_readByte 4096 A).2 7 = A 7 := funext fun j => g_X2_readByte rfl
  have b14 : ∀ j, j ≠ 12 → (f_X11_readByte 4096 B).2 14 j = B 14 j := fun j h3 => g_X11_readByte (by simp [xno2, h3])
  have b18 : (f_X11_readByte 4096 B).2 18 = B 18 := funext fun j => g_X11_readByte rfl
  have b20 : (f_X11_readByte 4096 B).2 20 = B 20 := funext fun j => g_X11_readByte rfl
  apply RB.mk
  · intro j hj; rw [k5, b18]; exact h.mem j hj
  · intro j; rw [k5]; exact h.byt j
  · rw [k4 _ (by decide) (by decide), b14 _ (by decide)]; exact h.fen
  · rw [b14 _ (by decide)]; exact h.fer
  · rw [k4 _ (by decide) (by decide), b14 _ (by decide)]; exact h.tim
  · rw [k4 _ (by decide) (by decide)]; exact h.tir
  · rw [k4 _ (by decide) (by decide), b14 _ (by decide)]; exact h.tlv
  · rw [k4 _ (by decide) (by decide)]; exact h.tlr
  · rw [k4 _ (by decide) (by decide), b14 _ (by decide)]; exact h.ask
  · exact hq
  · rw [u1, ec]
    by_cases hz : c = 0
    · subst hz; rw [if_pos (by decide)]; exact h.qf
    · rw [if_neg (nI_ne0 (by omega) (by omega)), ef, nI_1, show (16 : Int32) = nI 16 from rfl, pk_rem (by omega) (by decide) (by decide)]
      dsimp only
      rw [xup_ite, if_neg (by decide), xup_ite, if_pos ⟨rfl, rfl⟩]
      exact xrg_nI (by omega) (by omega)
  · rw [u1, ec]
    by_cases hz : c = 0
    · subst hz; rw [if_pos (by decide)]; exact h.qc
    · rw [if_neg (nI_ne0 (by omega) (by omega)), show c = (c - 1) + 1 by omega, nI_pred]
      dsimp only
      rw [xup_ite, if_pos ⟨rfl, rfl⟩]
      exact xrg_nI (by omega) (by omega)
  · intro j; rw [k6]; exact h.qby j
  · refine ⟨?_, fun c' hc' hc1 i hi => ?_⟩
    · rw [k4 _ (by decide) (by decide), b14 _ (by decide)]; exact h.sai.1
    · rw [k4 _ (by decide) (by decide)] at hc'
      rw [k7, b20]
      exact h.sai.2 c' hc' hc1 i hi
  · rw [k4 _ (by decide) (by decide)]; exact h.sar
  · unfold REr
    rw [k4 _ (by decide) (by decide), k4 _ (by decide) (by decide), k4 _ (by decide) (by decide), b14 _ (by decide), b14 _ (by decide), b14 _ (by decide)]
    exact h.err
theorem xr00 : xrg 0 255 0 := ⟨by decide, by decide⟩
theorem xr01 : xrg 0 255 1 := ⟨by decide, by decide⟩
theorem ius8_16 {x : Int32} (h : xrg 0 65535 x) : ius x 8 = x >>> ((8 : Int32) &&& 31) ∧ xrg 0 255 (ius x 8) := by
  obtain ⟨j, hj, rfl⟩ := xrg_nat (n := 65536) h (by decide) (by decide)
  have e1 : ius (nI j) 8 = nI (j / 256) := by
    apply Int32.toBitVec_inj.mp
    apply BitVec.eq_of_toNat_eq
    show ((nI j).toBitVec >>> ((8 : Int32).toBitVec &&& (31 : Int32).toBitVec).toNat).toNat = _
    rw [BitVec.toNat_ushiftRight, pk_tn (by omega), pk_tn (by omega), Nat.shiftRight_eq_div_pow]
    rfl
  have e2 : (nI j) >>> ((8 : Int32) &&& 31) = nI (j / 256) := by
    apply Int32.toInt_inj.mp
    rw [nI_toInt (by omega)]
    show ((nI j).toBitVec.sshiftRight (((8 : Int32) &&& 31).toBitVec.smod 32).toNat).toInt = _
    rw [BitVec.toInt_sshiftRight, show (((8 : Int32) &&& 31).toBitVec.smod 32).toNat = 8 by decide, Int.shiftRight_eq_div_pow]
    have : (nI j).toBitVec.toInt = (j : Int) := nI_toInt (by omega)
    rw [this]
    omega
  rw [e1, e2]
  exact ⟨rfl, xrg_nI (by omega) (by omega)⟩
/-- one byte read: the same answer, the buses stay related -/
theorem byte_rd {A B : St} {b : Int32} (h : RB A B) (hb : (0 ≤ b.toInt ∧ b.toInt ≤ 2047) ∨ (4096 ≤ b.toInt ∧ b.toInt ≤ 4103)) : (f_X2_readByte b A).1 = (f_X11_readByte b B).1 ∧ xrg 0 255 (f_X2_readByte b A).1 ∧ RB (f_X2_readByte b A).2 (f_X11_readByte b B).2 := by
  by_cases h0 : b = 4096
  · subst h0
    refine ⟨(port_rd h).1, ?_, port_RB h⟩
    unfold f_X2_readByte
    rw [if_pos (by decide), if_pos rfl]
    split
    · exact xr00
    · exact h.qby _
  · unfold f_X2_readByte f_X11_readByte f_X11_readByte_118
    rw [← h.tim, ← h.tlv, ← h.ask]
    rcases hb with hb | hb
    · have h1 : ¬ 2048 ≤ b := by rw [x_le]; show ¬ (2048 : Int) ≤ _; omega
      rw [if_neg h1, if_neg h1]
      refine ⟨h.mem _ ?_, h.byt _, h⟩
      have : b.toNatClampNeg = b.toInt.toNat := rfl
      omega
    · have h1 : 2048 ≤ b := by rw [x_le]; show (2048 : Int) ≤ _; omega
      rw [if_pos h1, if_pos h1, if_neg h0, if_neg h0]
      by_cases h2 : b = 4097
      · rw [if_pos h2, if_pos h2]
        exact ⟨h.que.1, x_rgw h.qc (by decide) (by decide), h⟩
      rw [if_neg h2, if_neg h2]
      by_cases h3 : b = 4098
      · rw [if_pos h3, if_pos h3, if_pos h3]
        exact ⟨(ius8_16 h.tir).1, (ius8_16 h.tir).2, h⟩
      rw [if_neg h3, if_neg h3]
      by_cases h4 : b = 4099
      · rw [if_pos h4, if_pos h4, if_neg h3]
        exact ⟨rfl, x_rg_and (by decide) (by decide), h⟩
      rw [if_neg h4, if_neg h4]
      by_cases h5 : b = 4100
      · rw [if_pos h5, if_pos h5]
        exact ⟨rfl, x_rgw h.tlr (by decide) (by decide), h⟩
      rw [if_neg h5, if_neg h5]
      by_cases h6 : b = 4101
      · rw [if_pos h6, if_pos h6]
        split
        · exact ⟨rfl, xr00, h⟩
        · exact ⟨rfl, xr01, h⟩
      rw [if_neg h6, if_neg h6]
      exact ⟨rfl, xr00, h⟩
