/-! THE RELATION of the two buses -/
theorem xup_ite {M : St} {i j p k : Nat} {v : Int32} : xup M i j v p k = if p = i ∧ k = j then v else M p k := by
  by_cases hp : p = i
  · subst hp
    by_cases hk : k = j
    · subst hk
      rw [xup_self, pk_us, if_pos ⟨rfl, rfl⟩]
    · rw [xup_self, pk_un hk, if_neg (fun h => hk h.2)]
  · rw [xup_other hp, if_neg (fun h => hp h.1)]
/-- what is typed: a ring and a row -/
def RQ (A B : St) : Prop := A 4 4 = B 14 12 ∧ ∀ (f c : Nat), A 4 3 = nI f → A 4 4 = nI c → f < 16 → c ≤ 16 → ∀ i, i < c → A 6 ((f + i) % 16) = B 19 i
/-- what is said -/
def RSd (A B : St) : Prop := A 4 5 = B 14 14 ∧ ∀ (c : Nat), A 4 5 = nI c → c ≤ 64 → ∀ i, i < c → A 7 i = B 20 i
/-- memory, fence, timer -/
def RMt (A B : St) : Prop := (∀ j, j < 2048 → A 5 j = B 18 j) ∧ A 4 6 = B 14 8 ∧ xrg 0 2048 (B 14 8) ∧ A 4 7 = B 14 9 ∧ A 4 8 = B 14 10 ∧ A 4 9 = B 14 11
/-- the error -/
def REr (A B : St) : Prop := A 4 10 = B 14 20 ∧ (¬ A 4 10 = 0 → A 4 11 = B 14 21 ∧ A 4 12 = B 14 22)
def RB (A B : St) : Prop := RMt A B ∧ RQ A B ∧ RSd A B ∧ REr A B ∧ InvK INVC A ∧ Inv INVM B
theorem sh_u (n : Nat) (x2 x3 : Int32) (M : St) : f_X11_readByte_62 (n + 1) x2 x3 M = (if (M 14 12) ≤ x3 then (x2, M) else f_X11_readByte_62 n x2 (x3 + 1) (xup M 19 x3.toNatClampNeg (M 19 (x3 + 1).toNatClampNeg))) := rfl
theorem sh_loop : ∀ (n : Nat) (v : Int32) (k t : Nat) (M : St), M 14 12 = nI t → t ≤ 15 → k ≤ t → t - k < n → (f_X11_readByte_62 n v (nI k) M).1 = v ∧ (∀ i, (f_X11_readByte_62 n v (nI k) M).2 19 i = if k ≤ i ∧ i < t then M 19 (i + 1) else M 19 i)
  | 0, _, _, _, _, _, _, _, h => absurd h (Nat.not_lt_zero _)
  | n + 1, v, k, t, M, ht, h15, hk, hn => by
    rw [sh_u, ht]
    by_cases hkt : t ≤ k
    · rw [if_pos ((nI_leI (by omega) (by omega)).mpr hkt)]
      refine ⟨rfl, fun i => ?_⟩
      rw [if_neg (by omega)]
    · rw [if_neg (fun h => hkt ((nI_leI (by omega) (by omega)).mp h))]
      have e1 : (nI k).toNatClampNeg = k := nI_clamp (by omega)
      have e2 : nI k + 1 = nI (k + 1) := nI_1 k
      have e3 : (nI (k + 1)).toNatClampNeg = k + 1 := nI_clamp (by omega)
      rw [e2, e1, e3]
      obtain ⟨h1, h2⟩ := sh_loop n v (k + 1) t (xup M 19 k (M 19 (k + 1))) (by rw [xup_o2 (Or.inl (by decide))]; exact ht) h15 (by omega) (by omega)
      refine ⟨h1, fun i => ?_⟩
      rw [h2 i]
      by_cases c1 : k + 1 ≤ i ∧ i < t
      · rw [if_pos c1, if_pos (by omega), xup_ite, if_neg (by omega)]
      · rw [if_neg c1, xup_ite]
        by_cases c2 : i = k
        · subst c2
          rw [if_pos ⟨rfl, rfl⟩, if_pos (by omega)]
        · rw [if_neg (by omega), if_neg (by omega)]
/-- the port read: what was first is answered and gone -/
theorem port_rd {A B : St} (h : RB A B) : (f_X2_readByte 4096 A).1 = (f_X11_readByte 4096 B).1 ∧ RQ (f_X2_readByte 4096 A).2 (f_X11_readByte 4096 B).2 := by
  obtain ⟨hM, hQ, hS, hE, hI, hJ⟩ := h
  have i0 := hI.at 0 (p := 4) (j := 3) (lo := 0) (hi := 15) rfl
  have i1 := hI.at 1 (p := 4) (j := 4) (lo := 0) (hi := 16) rfl
  obtain ⟨f, hf, ef⟩ := vp_in_of (x := A 4 3) (n := 16) (x_rgv i0 (by decide) (by decide)) (by decide)
  obtain ⟨c, hc, ec⟩ := vp_in_of (x := A 4 4) (n := 17) (x_rgv i1 (by decide) (by decide)) (by decide)
  obtain ⟨q1, q2⟩ := hQ
  have q3 := q2 f c ef ec hf (by omega)
  have eb : B 14 12 = nI c := q1 ▸ ec
  have u1 : f_X2_readByte 4096 A = if (A 4 4) = 0 then (0, A) else ((A 6 (A 4 3).toNatClampNeg), (xup (xup A 4 3 (((A 4 3) + 1) - ((A 4 3) + 1) / 16 * 16)) 4 4 ((A 4 4) - 1))) := by
    unfold f_X2_readByte
    rw [if_pos (by decide), if_pos rfl]
  have u2 : f_X11_readByte 4096 B = if (B 14 12) ≤ 0 then f_X11_readByte_38 0 B else f_X11_readByte_38 (B 19 0) B := by
    unfold f_X11_readByte
    rw [if_pos (by decide), if_pos rfl]
  rw [u1, u2, ec, eb]
  have z0 : (0 : Int32) = nI 0 := rfl
  by_cases hz : c = 0
  · subst hz
    rw [if_pos (show nI 0 = 0 from rfl), if_pos (by decide)]
    unfold f_X11_readByte_38 f_X11_readByte_57
    rw [eb, if_pos (by decide)]
    have e1 : (((xup B 14 12 0) 14 12).toInt - (0 : Int32).toInt).toNat + 1 = 1 := by
      rw [xup_ite, if_pos ⟨rfl, rfl⟩]; decide
    rw [e1]
    obtain ⟨h1, h2⟩ := sh_loop 1 0 0 0 (xup B 14 12 0) (by rw [xup_ite, if_pos ⟨rfl, rfl⟩]; rfl) (by decide) (by decide) (by decide)
    rw [z0]
    refine ⟨h1.symm, ?_, ?_⟩
    · dsimp only
      rw [g_X11_readByte_62 (by decide), xup_ite, if_pos ⟨rfl, rfl⟩, ec]
    · intro f' c' _ hc' _ _ i hi
      dsimp only at hc'
      rw [ec, nI_eq (by omega) (by omega)] at hc'
      omega
  · have hne : ¬ nI c = 0 := nI_ne0 (by omega) (by omega)
    have hnl : ¬ nI c ≤ 0 := nI_nle (by omega) (by omega)
    rw [if_neg hne, if_neg hnl]
    unfold f_X11_readByte_38 f_X11_readByte_57
    rw [eb, if_neg hnl]
    have ecm : nI c - 1 = nI (c - 1) := by
      rw [show c = (c - 1) + 1 by omega, nI_pred]; rfl
    have efm : (A 4 3) + 1 - ((A 4 3) + 1) / 16 * 16 = nI ((f + 1) % 16) := by
      rw [ef, nI_1, show (16 : Int32) = nI 16 from rfl, pk_rem (by omega) (by decide) (by decide)]
    have e2 : (xup B 14 12 (nI c - 1)) 14 12 = nI (c - 1) := by rw [xup_ite, if_pos ⟨rfl, rfl⟩, ecm]
    have e1 : (((xup B 14 12 (nI c - 1)) 14 12).toInt - (0 : Int32).toInt).toNat + 1 = (c - 1) + 1 := by
      rw [e2, nI_toInt (by omega), show (0 : Int32).toInt = 0 by decide]; omega
    rw [e1]
    obtain ⟨h1, h2⟩ := sh_loop ((c - 1) + 1) (B 19 0) 0 (c - 1) (xup B 14 12 (nI c - 1)) e2 (by omega) (by omega) (by omega)
    refine ⟨?_, ?_, ?_⟩
    · rw [show (0 : Int32) = nI 0 from rfl, h1, ef, nI_clamp (by omega)]
      have := q3 0 (by omega)
      rw [Nat.add_zero, Nat.mod_eq_of_lt hf] at this
      exact this
    · rw [show (0 : Int32) = nI 0 from rfl, g_X11_readByte_62 (by decide), e2]
      dsimp only
      rw [xup_ite, if_pos ⟨rfl, rfl⟩, ecm]
    · intro f' c' hf' hc' hf1 hc1 i hi
      dsimp only at hf' hc' ⊢
      rw [xup_ite, if_neg (by decide), xup_ite, if_pos ⟨rfl, rfl⟩, efm, nI_eq (by omega) (by omega)] at hf'
      rw [xup_ite, if_pos ⟨rfl, rfl⟩, ecm, nI_eq (by omega) (by omega)] at hc'
      subst hf' hc'
      rw [show (0 : Int32) = nI 0 from rfl, h2 i, if_pos (by omega), xup_ite, if_neg (by omega), xup_ite, if_neg (by omega), xup_ite, if_neg (by omega)]
      have := q3 (i + 1) (by omega)
      rw [← this]
      congr 1
      omega
