/-! bits, bytes, the status joined -/
set_option maxHeartbeats 1000000 in
theorem bits_go {D : Nat → Int32} {A B : St} {s a a' : Int32} {m l z : Nat} (h : R id D A B) (hs : s = 0 ∨ s = 1 ∨ s = 2) (hz : z < 4) (hq : ∀ A' : St, A' 11 = D → f_X3_z A' = nI z) (d1 : D 1 = s) (d3 : D 3 = eB m l) (oe : okE m l) (ow : z ≠ 0 → okW m l) (ha : A 4 10 = 0 → a = a') : R id D (f_X4_changeBit a A) (f_X11_bits_31 (eB m l) (nI z) s (a' &&& (f_X10_bitsOf s - 1)) 1 B) := by
  have l0 := loadAt (m := m) (r := l) h hs oe
  unfold f_X4_changeBit f_X11_bits_31
  simp only [xb_l, if_true] at l0 ⊢
  rw [h.d, d1, d3]
  generalize f_X6_read s (f_X6_find (eB m l) s A) = q4 at l0 ⊢
  generalize f_X11_loadAt (eB m l) s B = q at l0 ⊢
  obtain ⟨l1, l2⟩ := l0
  have uc : ∀ (bit : Int32), (if q4.1 &&& bit = 0 then f_X4_changeBit_61 s bit q4.1 4 4 q4.2 else f_X4_changeBit_61 s bit q4.1 0 4 q4.2) = f_X4_changeBit_61 s bit q4.1 (if q4.1 &&& bit = 0 then 4 else 0) 4 q4.2 := fun bit => by split <;> rfl
  have um : ∀ (bit : Int32), (if q.1 &&& bit = 0 then f_X11_bits_58 (nI z) s bit q.1 1 4 q.2 else f_X11_bits_58 (nI z) s bit q.1 0 4 q.2) = f_X11_bits_58 (nI z) s bit q.1 (if q.1 &&& bit = 0 then 1 else 0) 4 q.2 := fun bit => by split <;> rfl
  rw [uc, um]
  have hb : q4.2 4 10 = 0 → (1 : Int32) <<< ((a &&& (f_X10_bitsOf s - 1)) &&& 31) = (1 : Int32) <<< ((a' &&& (f_X10_bitsOf s - 1)) &&& 31) := fun e => by rw [ha (l2 e).1]
  generalize (1 : Int32) <<< ((a &&& (f_X10_bitsOf s - 1)) &&& 31) = b at hb ⊢
  generalize (1 : Int32) <<< ((a' &&& (f_X10_bitsOf s - 1)) &&& 31) = b' at hb ⊢
  unfold f_X4_changeBit_61 f_X11_bits_58 f_X11_bits_101
  simp only [xb_l, if_true]
  rw [changeFlags_eq, flag_eq]
  have fl1 : R id D (xup q4.2 2 18 (fl (q4.2 2 18) 4 (if q4.1 &&& b = 0 then 4 else 0))) (xup q.2 14 2 (fl (q.2 14 2) 4 (if (if q.1 &&& b' = 0 then (1 : Int32) else 0) = 0 then 0 else 4))) := by
    refine l1.flags (by decide) (fun e => ?_)
    rw [(l2 e).2.2.1, hb e]
    by_cases c : q.1 &&& b' = 0
    · rw [if_pos c, if_pos c, if_neg (show ¬ (1 : Int32) = 0 by decide)]
    · rw [if_neg c, if_neg c, if_pos (show (0 : Int32) = 0 from rfl)]
  rw [hq _ fl1.d]
  have st : ∀ v v' : Int32, (q4.2 4 10 = 0 → v = v') → z ≠ 0 → R id D (f_X6_write s v (xup q4.2 2 18 (fl (q4.2 2 18) 4 (if q4.1 &&& b = 0 then 4 else 0)))) (f_X11_store s v' (xup q.2 14 2 (fl (q.2 14 2) 4 (if (if q.1 &&& b' = 0 then (1 : Int32) else 0) = 0 then 0 else 4)))) := by
    intro v v' hv z0
    refine (store fl1 hs (ow z0) (fun e => ?_)).1
    rw [xo4 rfl] at e
    exact ⟨(l2 e).2.1.w (xup_other (by decide)) (xo4 rfl) (xo4 rfl), by rw [hv e]⟩
  rcases (show z = 0 ∨ z = 1 ∨ z = 2 ∨ z = 3 by omega) with rfl | rfl | rfl | rfl
  · rw [if_neg (show ¬ nI 0 = 1 by decide), if_neg (show ¬ nI 0 = 2 by decide), if_neg (show ¬ nI 0 = 3 by decide), if_pos (show nI 0 ≤ 0 by decide)]
    exact fl1
  · rw [if_pos (show nI 1 = 1 from rfl), if_neg (show ¬ nI 1 ≤ 0 by decide), if_pos (show nI 1 = 1 from rfl)]
    exact st _ _ (fun e => by rw [(l2 e).2.2.1, hb e]) (by decide)
  · rw [if_neg (show ¬ nI 2 = 1 by decide), if_pos (show nI 2 = 2 from rfl), if_neg (show ¬ nI 2 ≤ 0 by decide), if_neg (show ¬ nI 2 = 1 by decide), if_pos (show nI 2 = 2 from rfl)]
    exact st _ _ (fun e => by rw [(l2 e).2.2.1, hb e]) (by decide)
  · rw [if_neg (show ¬ nI 3 = 1 by decide), if_neg (show ¬ nI 3 = 2 by decide), if_pos (show nI 3 = 3 from rfl), if_neg (show ¬ nI 3 ≤ 0 by decide), if_neg (show ¬ nI 3 = 1 by decide), if_neg (show ¬ nI 3 = 2 by decide)]
    exact st _ _ (fun e => by rw [(l2 e).2.2.1, hb e]) (by decide)
theorem bitsR {D : Nat → Int32} {A B : St} {a a' : Int32} {m l z : Nat} (h : R id D A B) (hm : m < 8) (hl : l < 8) (hz : z < 4) (hq : ∀ A' : St, A' 11 = D → f_X3_z A' = nI z) (d1 : D 1 = if m = 0 then 2 else 0) (d3 : D 3 = eB m l) (oe : okE m l) (ow : z ≠ 0 → okW m l) (ha : A 4 10 = 0 → a = a') : R id D (f_X4_changeBit a A) (f_X11_bits (eB m l) (nI z) a' B) := by
  unfold f_X11_bits f_X11_bits_11
  by_cases m0 : m = 0
  · subst m0
    rw [if_neg (fun e => by have := (e8 (by decide) hl).mp e; omega), if_neg (fun e => by have := (e8 (by decide) hl).mp e; omega)]
    have g := bits_go h (s := 2) (by decide) hz hq d1 d3 oe ow ha
    rw [show f_X10_bitsOf 2 - 1 = 31 by decide] at g
    exact g
  · rw [if_neg m0] at d1
    rw [if_pos ((e8 hm hl).mpr (by omega)), if_pos ((e8 hm hl).mpr (by omega))]
    have g := bits_go h (s := 0) (by decide) hz hq d1 d3 oe ow ha
    rw [show f_X10_bitsOf 0 - 1 = 7 by decide] at g
    exact g
theorem bits_eq {g r d z m l op : Nat} {a : Int32} {N : St} (h : wB g r d z m l) (hw : N 11 0 = wd g r d z m l) : f_X3_bits op a N = f_X3_pair op (eB m l) (eB m l) (if m = 0 then 2 else 0) (if z = 0 then a else f_X9_isOpenData (eB m l)) N := by
  have hof := eB_of ⟨m, h.2.2.2.2.1⟩ ⟨l, h.2.2.2.2.2⟩
  dsimp only at hof
  have hm := h.2.2.2.2.1
  have hl := h.2.2.2.2.2
  have hz := h.2.2.2.1
  unfold f_X3_bits f_X3_bits_18 f_X3_bits_36 f_X3_single
  simp only [xb_eta, q_op h hw, q_z h hw, hof]
  by_cases m0 : m = 0
  · subst m0
    rw [if_pos (show (nI (if 0 < 7 then 0 else 7 + l)) = 0 from rfl), if_pos (show (nI (if 0 < 7 then 0 else 7 + l)) = 0 from rfl), if_pos (show 0 = 0 from rfl)]
    by_cases z0 : z = 0
    · rw [if_pos z0, z0, if_pos (show nI 0 = 0 from rfl)]
    · rw [if_neg z0, if_neg (nzi z0 (by omega))]
  · have n0 : ¬ nI (if m < 7 then m else 7 + l) = 0 := by
      split
      · exact nzi m0 hm
      · exact nq_0 (by omega) (by omega)
    rw [if_neg n0, if_neg n0, if_neg m0]
    by_cases z0 : z = 0
    · rw [if_pos z0, z0, if_pos (show nI 0 = 0 from rfl)]
    · rw [if_neg z0, if_neg (nzi z0 (by omega))]
theorem ldB_u (n : Nat) (x1 x2 x3 x4 : Int32) (M : St) : f_X4_loadBytes_5 (n + 1) x1 x2 x3 x4 M = (if (f_X10_bytesOf x2) ≤ x4 then (xup M 2 (f_X3_upperRegister M).toNatClampNeg (((M 2 (f_X3_upperRegister M).toNatClampNeg) &&& ((f_X10_maskOf x2) ^^^ (-1))) ||| x3)) else f_X4_loadBytes_5 n x1 x2 ((x3 <<< ((8 : Int32) &&& 31)) ||| (f_X2_read (x1 + (2 * x4)) 0 1 M).1) (x4 + 1) (f_X2_read (x1 + (2 * x4)) 0 1 M).2) := rfl
theorem per_u (n : Nat) (x2 x3 x4 x5 x6 x7 : Int32) (M : St) : f_X11_peripheral_36 (n + 1) x2 x3 x4 x5 x6 x7 M = (if x5 ≤ x7 then (if 2 ≤ x2 then M else f_X11_keepIn x3 (x5 / 2) x6 M) else (if 2 ≤ x2 then f_X11_peripheral_36 n x2 x3 x4 x5 x6 (x7 + 1) (f_X11_write (x4 + (2 * x7)) 0 (((M 15 x3.toNatClampNeg) >>> ((8 * ((x5 - 1) - x7)) &&& 31)) &&& 255) M) else f_X11_peripheral_36 n x2 x3 x4 x5 ((x6 <<< ((8 : Int32) &&& 31)) ||| (f_X11_read (x4 + (2 * x7)) 0 1 M).1) (x7 + 1) (f_X11_read (x4 + (2 * x7)) 0 1 M).2)) := rfl
theorem stB_u (n : Nat) (x1 x3 x4 x5 : Int32) (M : St) : f_X4_storeBytes_24 (n + 1) x1 x3 x4 x5 M = (if x4 < x5 then M else f_X4_storeBytes_24 n x1 x3 x4 (x5 + 1) (f_X2_write (x1 + (2 * x5)) 0 (ius x3 (8 * (x4 - x5))) M)) := rfl
theorem ldB {D : Nat → Int32} {r z N : Nat} {s a a' : Int32} (hs : s = 1 ∧ N = 2 ∨ s = 2 ∧ N = 4) (hz : z < 2) (hr : r < 8) (hq : ∀ A' : St, A' 11 = D → f_X3_upperRegister A' = nI r) : ∀ (n k : Nat) (v v' : Int32) (A B : St), R id D A B → k ≤ N → N - k < n → (A 4 10 = 0 → a = a' ∧ v = v' ∧ (s = 1 → xrg 0 (256 ^ k - 1) v)) → R id D (f_X4_loadBytes_5 n a s v (nI k) A) (f_X11_peripheral_36 n (nI z) (nI r) a' (nI N) v' (nI k) B)
  | 0, _, _, _, _, _, _, _, hn, _ => absurd hn (Nat.not_lt_zero _)
  | n + 1, k, v, v', A, B, h, hk, hn, hv => by
    have hN : f_X10_bytesOf s = nI N := by rcases hs with ⟨rfl, rfl⟩ | ⟨rfl, rfl⟩ <;> decide
    have hN4 : N ≤ 4 := by omega
    have z2 : ¬ (2 : Int32) ≤ nI z := fun e => by have := (nI_leI (a := 2) (b := z) (by decide) (by omega)).mp e; omega
    rw [ldB_u, per_u, hN]
    by_cases c : N ≤ k
    · rw [if_pos ((nI_leI (by omega) (by omega)).mpr c), if_pos ((nI_leI (by omega) (by omega)).mpr c), if_neg z2, hq _ h.d, nIl hr]
      have hd : nI N / 2 = s := by rcases hs with ⟨rfl, rfl⟩ | ⟨rfl, rfl⟩ <;> decide
      rw [hd, keepIn_eq hr]
      refine h.setr (by omega) (fun e => ?_)
      obtain ⟨_, rfl, hx⟩ := hv e
      have hm : v &&& f_X10_maskOf s = v := by
        rcases hs with ⟨rfl, rfl⟩ | ⟨rfl, rfl⟩
        · have k2 : k = 2 := by omega
          subst k2
          exact and_self16 (hx rfl)
        · show v &&& (-1) = v
          exact Int32.and_neg_one
      rw [hm, (h.g e).reg r (by omega)]
    · rw [if_neg (fun e => c ((nI_leI (by omega) (by omega)).mp e)), if_neg (fun e => c ((nI_leI (by omega) (by omega)).mp e)), if_neg z2, nI_1]
      obtain ⟨r1, r2⟩ := rd (s := 0) (way := 1) (a := a + 2 * nI k) (a' := a' + 2 * nI k) h (fun e => by rw [(hv e).1]) (Or.inl rfl) (by decide)
      refine ldB hs hz hr hq n (k + 1) _ _ _ _ r1 (by omega) (by omega) (fun e => ?_)
      obtain ⟨ea, ev, ex⟩ := hv (stk_rd e)
      refine ⟨ea, by rw [ev, (r2 e).1], fun s1 => ?_⟩
      have : k ≤ 1 := by rcases hs with ⟨rfl, rfl⟩ | ⟨rfl, rfl⟩
                         · omega
                         · exact absurd s1 (by decide)
      exact cat_rng this (ex s1) ((r2 e).2.1 rfl)
theorem stB {D : Nat → Int32} {r z N : Nat} {a a' v v' : Int32} (hN : N = 2 ∨ N = 4) (hz : 2 ≤ z) (hz4 : z < 4) (hr : r < 8) : ∀ (n k : Nat) (A B : St), R id D A B → k ≤ N → N - k < n → (A 4 10 = 0 → a = a' ∧ v = B 15 r) → R id D (f_X4_storeBytes_24 n a v (nI N - 1) (nI k) A) (f_X11_peripheral_36 n (nI z) (nI r) a' (nI N) v' (nI k) B)
  | 0, _, _, _, _, _, hn, _ => absurd hn (Nat.not_lt_zero _)
  | n + 1, k, A, B, h, hk, hn, hv => by
    have hN4 : N ≤ 4 := by omega
    have z2 : (2 : Int32) ≤ nI z := (nI_leI (a := 2) (b := z) (by decide) (by omega)).mpr hz
    have np : nI N - 1 = nI (N - 1) := by rcases hN with rfl | rfl <;> decide
    rw [stB_u, per_u]
    by_cases c : N ≤ k
    · have c1 : nI N - 1 < nI k := by rw [np]; exact (nI_ltI (by omega) (by omega)).mpr (by omega)
      rw [if_pos c1, if_pos ((nI_leI (by omega) (by omega)).mpr c), if_pos z2]
      exact h
    · have c1 : ¬ nI N - 1 < nI k := by
        rw [np]; intro e
        have := (nI_ltI (a := N - 1) (b := k) (by omega) (by omega)).mp e
        omega
      rw [if_neg c1, if_neg (fun e => c ((nI_leI (by omega) (by omega)).mp e)), if_pos z2, nI_1, sh_NK (by omega) (by omega), nIl hr]
      have w := wr (s := 0) (a := a + 2 * nI k) (a' := a' + 2 * nI k) (v := ius v (nI (8 * (N - 1 - k)))) (v' := ((B 15 r) >>> ((nI (8 * (N - 1 - k))) &&& 31)) &&& 255) h (fun e => by
        refine ⟨by rw [(hv e).1], ?_⟩
        show _ &&& 255 = (_ &&& 255) &&& 255
        rw [mm2, byt_u _ _ (by omega), byt_s _ _ (by omega), (hv e).2]) (Or.inl rfl)
      refine stB hN hz hz4 hr n (k + 1) _ _ w (by omega) (by omega) (fun e => ?_)
      obtain ⟨ea, ev⟩ := hv (stk_wr e)
      exact ⟨ea, by rw [g_X11_write rfl]; exact ev⟩
theorem ldB0 {D : Nat → Int32} {r z N : Nat} {s a a' : Int32} {A B : St} (hs : s = 1 ∧ N = 2 ∨ s = 2 ∧ N = 4) (hz : z < 2) (hr : r < 8) (hq : ∀ A' : St, A' 11 = D → f_X3_upperRegister A' = nI r) (h : R id D A B) (ha : A 4 10 = 0 → a = a') : R id D (f_X4_loadBytes a s A) (f_X11_peripheral_28 (nI z) (nI r) a' (nI N) B) := by
  unfold f_X4_loadBytes f_X11_peripheral_28
  have e1 : ((f_X10_bytesOf s).toInt - (0 : Int32).toInt).toNat + 1 = N + 1 := by rcases hs with ⟨rfl, rfl⟩ | ⟨rfl, rfl⟩ <;> decide
  have e2 : ((nI N).toInt - (0 : Int32).toInt).toNat + 1 = N + 1 := by rcases hs with ⟨rfl, rfl⟩ | ⟨rfl, rfl⟩ <;> decide
  rw [e1, e2]
  exact ldB hs hz hr hq (N + 1) 0 0 0 A B h (by omega) (by omega) (fun e => ⟨ha e, rfl, fun _ => ⟨by decide, by decide⟩⟩)
theorem stB0 {D : Nat → Int32} {r z N : Nat} {s a a' : Int32} {A B : St} (hs : s = 1 ∧ N = 2 ∨ s = 2 ∧ N = 4) (hz : 2 ≤ z) (hz4 : z < 4) (hr : r < 8) (hq : f_X3_upperRegister A = nI r) (h : R id D A B) (ha : A 4 10 = 0 → a = a') : R id D (f_X4_storeBytes a s A) (f_X11_peripheral_28 (nI z) (nI r) a' (nI N) B) := by
  unfold f_X4_storeBytes f_X11_peripheral_28
  have e0 : f_X10_bytesOf s = nI N := by rcases hs with ⟨rfl, rfl⟩ | ⟨rfl, rfl⟩ <;> decide
  have e1 : ((f_X10_bytesOf s - 1).toInt + 1 - (0 : Int32).toInt).toNat + 1 = N + 1 := by rcases hs with ⟨rfl, rfl⟩ | ⟨rfl, rfl⟩ <;> decide
  have e2 : ((nI N).toInt - (0 : Int32).toInt).toNat + 1 = N + 1 := by rcases hs with ⟨rfl, rfl⟩ | ⟨rfl, rfl⟩ <;> decide
  rw [e1, e2, e0, hq, nIl hr]
  exact stB (by omega) hz hz4 hr (N + 1) 0 A B h (by omega) (by omega) (fun e => ⟨ha e, (h.g e).reg r (by omega)⟩)
theorem mvB {D : Nat → Int32} {A B : St} {r z l : Nat} (h : R id D A B) (hr : r < 8) (hz : z < 4) (hl : l < 8) (hq : ∀ A' : St, A' 11 = D → f_X3_upperRegister A' = nI r ∧ f_X3_lowerRegister A' = nI l ∧ f_X3_z A' = nI z) : R id D (f_X4_moveBytes A) (f_X11_peripheral (nI l) (nI z) (nI r) B) := by
  obtain ⟨f1, f2⟩ := fetch1 h
  have mv46 : ∀ (x1 s0 : Int32), f_X4_moveBytes_46 x1 s0 (f_X6_fetch 1 A).2 = if 2 ≤ nI z then f_X4_storeBytes x1 s0 (f_X6_fetch 1 A).2 else f_X4_loadBytes x1 s0 (f_X6_fetch 1 A).2 := fun x1 s0 => by
    unfold f_X4_moveBytes_46
    rw [(hq _ f1.d).2.2]
    rfl
  unfold f_X4_moveBytes f_X11_peripheral
  rw [xb_l, xb_l, mv46, mv46, (hq _ h.d).2.1, (hq _ f1.d).2.2, n8r, nI_clamp (show 8 + l < 2 ^ 31 by omega)]
  have ad : (f_X6_fetch 1 A).2 4 10 = 0 → A 2 (8 + l) + f_X10_extended (f_X6_fetch 1 A).1 1 = B 15 (8 + l) + (f_X11_fetch B).1.toInt16.toInt32 := fun e => by
    rw [(h.g (stk_f1 e)).reg (8 + l) (by omega), (f2 e).1]; rfl
  have hq1 : ∀ A' : St, A' 11 = D → f_X3_upperRegister A' = nI r := fun A' hA => (hq A' hA).1
  rcases (show z = 0 ∨ z = 1 ∨ z = 2 ∨ z = 3 by omega) with rfl | rfl | rfl | rfl
  · rw [if_pos (show nI 0 - nI 0 / 2 * 2 = 0 by decide), if_pos (show nI 0 - nI 0 / 2 * 2 = 0 by decide), if_neg (show ¬ (2 : Int32) ≤ nI 0 by decide)]
    exact ldB0 (N := 2) (Or.inl ⟨rfl, rfl⟩) (by decide) hr hq1 f1 ad
  · rw [if_neg (show ¬ nI 1 - nI 1 / 2 * 2 = 0 by decide), if_neg (show ¬ nI 1 - nI 1 / 2 * 2 = 0 by decide), if_neg (show ¬ (2 : Int32) ≤ nI 1 by decide)]
    exact ldB0 (N := 4) (Or.inr ⟨rfl, rfl⟩) (by decide) hr hq1 f1 ad
  · rw [if_pos (show nI 2 - nI 2 / 2 * 2 = 0 by decide), if_pos (show nI 2 - nI 2 / 2 * 2 = 0 by decide), if_pos (show (2 : Int32) ≤ nI 2 by decide)]
    exact stB0 (N := 2) (z := 2) (Or.inl ⟨rfl, rfl⟩) (by decide) (by decide) hr (hq1 _ f1.d) f1 ad
  · rw [if_neg (show ¬ nI 3 - nI 3 / 2 * 2 = 0 by decide), if_neg (show ¬ nI 3 - nI 3 / 2 * 2 = 0 by decide), if_pos (show (2 : Int32) ≤ nI 3 by decide)]
    exact stB0 (N := 4) (z := 3) (Or.inr ⟨rfl, rfl⟩) (by decide) (by decide) hr (hq1 _ f1.d) f1 ad
/-- the status joined with a number -/
def jn (r : Nat) (x y : Int32) : Int32 := if r = 0 then x ||| y else if r = 1 then x &&& y else x ^^^ y
theorem jn_31 (r : Nat) (x y : Int32) : jn r x y &&& 31 = jn r (x &&& 31) (y &&& 31) := by
  unfold jn
  split
  · exact bt_ext (fun i _ => by simp only [bt_or, bt_and]; cases bt x i <;> cases bt y i <;> cases bt 31 i <;> rfl)
  · split
    · exact bt_ext (fun i _ => by simp only [bt_and]; cases bt x i <;> cases bt y i <;> cases bt 31 i <;> rfl)
    · exact bt_ext (fun i _ => by simp only [bt_xor, bt_and]; cases bt x i <;> cases bt y i <;> cases bt 31 i <;> rfl)
theorem sj_eq {r : Nat} {A : St} (hr : r = 0 ∨ r = 1 ∨ r = 5) (hq : f_X3_upperRegister (f_X6_fetch 1 A).2 = nI r) : f_X4_statusJoined A = (jn r ((f_X6_fetch 1 A).2 2 18) (f_X6_fetch 1 A).1, (f_X6_fetch 1 A).2) := by
  unfold f_X4_statusJoined jn
  simp only [xb_l, if_true]
  rw [hq]
  rcases hr with rfl | rfl | rfl <;> rfl
theorem st12 {r z : Nat} {x y : Int32} {B : St} (hr : r = 0 ∨ r = 1 ∨ r = 5) (hz : z = 0 ∨ z = 1) : f_X11_twelve_103 (nI z) (nI r) y x B = if z = 0 then xup B 14 2 ((B 14 2 &&& (-32)) ||| jn r x (y &&& 31)) else f_X11_setStatus (jn r x y) B := by
  unfold f_X11_twelve_103 f_X11_twelve_119 f_X11_twelve_151 jn
  simp only [xb_l, if_true]
  rcases hr with rfl | rfl | rfl <;> rcases hz with rfl | rfl <;> rfl
theorem t72s {e z r s : Int32} {B : St} (h : ¬ f_X11_isStatus e r = 0) : f_X11_twelve_72 e z r s B = if z = 0 then f_X11_twelve_103 z r (f_X11_number s B).1 (((f_X11_number s B).2 14 2) &&& 31) (f_X11_number s B).2 else f_X11_twelve_103 z r (f_X11_number s B).1 ((f_X11_number s B).2 14 2) (f_X11_number s B).2 := by
  unfold f_X11_twelve_72
  rw [xb_l, if_neg h]
theorem stJ {D : Nat → Int32} {A B : St} {r : Nat} (h : R id D A B) (hr : r = 0 ∨ r = 1 ∨ r = 5) (hq : ∀ A' : St, A' 11 = D → f_X3_upperRegister A' = nI r) : R id D (xb (f_X4_statusJoined A) fun q10 => (xb (f_X8_changeFlags 31 q10.1 q10.2) fun q13 => q13)) (f_X11_twelve_103 (nI 0) (nI r) (f_X11_number 1 B).1 (((f_X11_number 1 B).2 14 2) &&& 31) (f_X11_number 1 B).2) ∧ R id D (xb (f_X4_statusJoined A) fun q17 => (xb (f_X8_changeStatus q17.1 q17.2) fun q20 => q20)) (f_X11_twelve_103 (nI 1) (nI r) (f_X11_number 1 B).1 ((f_X11_number 1 B).2 14 2) (f_X11_number 1 B).2) := by
  obtain ⟨n1, n2⟩ := number (s := 1) h (Or.inr (Or.inl rfl))
  rw [sj_eq hr (hq _ n1.d)]
  simp only [xb_l, if_true]
  rw [st12 hr (Or.inl rfl), st12 hr (Or.inr rfl), if_pos (show 0 = 0 from rfl), if_neg (show ¬ 1 = 0 by decide), changeFlags_eq]
  refine ⟨?_, changeStatus n1 (fun e => by rw [(n2 e).1, (n1.g e).s0])⟩
  have e : ((f_X11_number 1 B).2 14 2 &&& (-32)) ||| jn r ((f_X11_number 1 B).2 14 2 &&& 31) ((f_X11_number 1 B).1 &&& 31) = fl ((f_X11_number 1 B).2 14 2) 31 (jn r ((f_X11_number 1 B).2 14 2) (f_X11_number 1 B).1) := by
    unfold fl
    rw [jn_31, show (31 : Int32) ^^^ (-1) = -32 by decide]
  rw [e]
  exact n1.flags (by decide) (fun e => by rw [(n2 e).1, (n1.g e).s0])
