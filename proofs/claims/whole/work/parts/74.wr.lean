/-! writes -/
theorem sm32 : ∀ k : Fin 32, ((BitVec.ofNat 32 k.val).smod 32).toNat = k.val := by decide
theorem um32 : ∀ k : Fin 32, ((BitVec.ofNat 32 k.val &&& 31#32) % 32#32).toNat = k.val := by decide
theorem ius_nI (x : Int32) (k : Nat) (hk : k < 32) : (ius x (nI k)).toBitVec = x.toBitVec >>> k := by
  show (x.toBitVec >>> (((nI k).toBitVec &&& 31#32) % 32#32)) = _
  rw [BitVec.ushiftRight_eq']
  have e : (((nI k).toBitVec &&& 31#32) % 32#32).toNat = k := um32 ⟨k, hk⟩
  rw [e]
theorem m31 {k : Nat} (hk : k < 32) : (((nI k) &&& 31).toBitVec.smod 32).toNat = k := by
  have := pk_andN (n := k) (by omega) (m := 31) 5 (by decide)
  rw [this]
  have h3 : k % 2 ^ 5 = k := by omega
  rw [h3]
  exact sm32 ⟨k, hk⟩
theorem sar_nI (x : Int32) (k : Nat) (hk : k < 32) : (x >>> ((nI k) &&& 31)).toBitVec = x.toBitVec.sshiftRight k := by
  show x.toBitVec.sshiftRight (((nI k) &&& 31).toBitVec.smod 32).toNat = _
  rw [m31 hk]
theorem shl_nI (x : Int32) (k : Nat) (hk : k < 32) : (x <<< ((nI k) &&& 31)).toBitVec = x.toBitVec <<< k := by
  show x.toBitVec <<< (((nI k) &&& 31).toBitVec.smod 32).toNat = _
  rw [m31 hk]
theorem byt_u (x : Int32) (k : Nat) (hk : k < 32) : (ius x (nI k)) &&& 255 = nI (x.toBitVec.toNat / 2 ^ k % 256) := by
  rw [pk_and _ 8 (by decide), ius_nI x k hk, BitVec.toNat_ushiftRight, Nat.shiftRight_eq_div_pow]
theorem byt_s (x : Int32) (k : Nat) (hk : k ≤ 24) : (x >>> ((nI k) &&& 31)) &&& 255 = nI (x.toBitVec.toNat / 2 ^ k % 256) := by
  have h1 : (x.toBitVec.sshiftRight k) &&& 255#32 = (x.toBitVec >>> k) &&& 255#32 := by
    apply BitVec.eq_of_getLsbD_eq
    intro i hi
    rw [BitVec.getLsbD_and, BitVec.getLsbD_and, BitVec.getLsbD_sshiftRight, BitVec.getLsbD_ushiftRight]
    by_cases h8 : i < 8
    · have : k + i < 32 := by omega
      have h9 : ¬ 32 ≤ i := by omega
      simp [h9, this]
    · have : (255#32).getLsbD i = false := by
        rw [BitVec.getLsbD_ofNat]
        have : (255 : Nat).testBit i = false := by
          rw [show (255 : Nat) = 2 ^ 8 - 1 from rfl, Nat.testBit_two_pow_sub_one]
          simpa using h8
        rw [this]; simp
      rw [this]; simp
  have h2 : ((x >>> ((nI k) &&& 31)) &&& 255) = (ius x (nI k)) &&& 255 := by
    apply Int32.toBitVec_inj.mp
    show (x >>> ((nI k) &&& 31)).toBitVec &&& 255#32 = (ius x (nI k)).toBitVec &&& 255#32
    rw [sar_nI x k (by omega), ius_nI x k (by omega), h1]
  rw [h2, byt_u x k (by omega)]
theorem sh_NK {N k : Nat} (hN : N = 1 ∨ N = 2 ∨ N = 4) (hk : k < N) : 8 * ((nI N - 1) - nI k) = nI (8 * (N - 1 - k)) := by
  rcases hN with rfl | rfl | rfl
  · match k, hk with
    | 0, _ => decide
  · match k, hk with
    | 0, _ | 1, _ => decide
  · match k, hk with
    | 0, _ | 1, _ | 2, _ | 3, _ => decide
theorem wrC_u (n : Nat) (x3 x4 x5 x6 : Int32) (M : St) : f_X2_write_28 (n + 1) x3 x4 x5 x6 M = (if x5 ≤ x6 then M else f_X2_write_28 n x3 x4 x5 (x6 + 1) (f_X2_writeByte (x4 + x6) ((ius x3 (8 * ((x5 - 1) - x6))) &&& 255) M)) := rfl
theorem wrM_u (n : Nat) (x1 x3 x4 x5 : Int32) (M : St) : f_X11_write_20 (n + 1) x1 x3 x4 x5 M = (if x4 ≤ x5 then M else f_X11_write_20 n x1 x3 x4 (x5 + 1) (f_X11_writeByte ((x1 + x5) &&& 16777215) ((x3 >>> ((8 * ((x4 - 1) - x5)) &&& 31)) &&& 255) M)) := rfl
theorem wr_loop {a at_ v v' : Int32} {N : Nat} (hN : N = 1 ∨ N = 2 ∨ N = 4) (hok : ∀ i, i < N → okb (at_ + nI i) ∧ (a + nI i) &&& 16777215 = at_ + nI i) (hv : ∀ k, k < N → v.toBitVec.toNat / 2 ^ (8 * (N - 1 - k)) % 256 = v'.toBitVec.toNat / 2 ^ (8 * (N - 1 - k)) % 256) : ∀ (n k : Nat) (A B : St), RB A B → k ≤ N → N - k < n → RB (f_X2_write_28 n v at_ (nI N) (nI k) A) (f_X11_write_20 n a v' (nI N) (nI k) B)
  | 0, _, _, _, _, _, h => absurd h (Nat.not_lt_zero _)
  | n + 1, k, A, B, hR, hk, hn => by
    rw [wrC_u, wrM_u]
    by_cases hkN : N ≤ k
    · rw [if_pos ((nI_leI (by omega) (by omega)).mpr hkN), if_pos ((nI_leI (by omega) (by omega)).mpr hkN)]
      exact hR
    · rw [if_neg (fun h => hkN ((nI_leI (by omega) (by omega)).mp h)), if_neg (fun h => hkN ((nI_leI (by omega) (by omega)).mp h))]
      obtain ⟨o1, o2⟩ := hok k (by omega)
      rw [o2, nI_1, sh_NK hN (by omega), byt_u v _ (by omega), byt_s v' _ (by omega), hv k (by omega)]
      exact wr_loop hN hok hv n (k + 1) _ _ (byte_wr hR o1 (xrg_nI (by omega) (by omega))) (by omega) (by omega)
theorem mask_nat {s v v' : Int32} {N : Nat} (hs : s = 0 ∨ s = 1 ∨ s = 2) (hN : f_X10_bytesOf s = nI N) (hN' : N = 1 ∨ N = 2 ∨ N = 4) (h : v &&& f_X10_maskOf s = v' &&& f_X10_maskOf s) : ∀ k, k < N → v.toBitVec.toNat / 2 ^ (8 * (N - 1 - k)) % 256 = v'.toBitVec.toNat / 2 ^ (8 * (N - 1 - k)) % 256 := by
  rcases hs with rfl | rfl | rfl
  · have : N = 1 := by
      have e : f_X10_bytesOf 0 = nI 1 := by decide
      rw [e, nI_eq (by decide) (by omega)] at hN; omega
    subst this
    rw [show f_X10_maskOf 0 = 255 by decide, pk_and v 8 (by decide), pk_and v' 8 (by decide), nI_eq (by omega) (by omega)] at h
    intro k hk
    have : k = 0 := by omega
    subst this
    simpa using h
  · have : N = 2 := by
      have e : f_X10_bytesOf 1 = nI 2 := by decide
      rw [e, nI_eq (by decide) (by omega)] at hN; omega
    subst this
    rw [show f_X10_maskOf 1 = 65535 by decide, pk_and v 16 (by decide), pk_and v' 16 (by decide), nI_eq (by omega) (by omega)] at h
    intro k hk
    rcases (show k = 0 ∨ k = 1 by omega) with rfl | rfl
    · show _ / 256 % 256 = _ / 256 % 256; omega
    · show _ / 1 % 256 = _ / 1 % 256; omega
  · rw [show f_X10_maskOf 2 = -1 by decide, Int32.and_neg_one, Int32.and_neg_one] at h
    subst h
    intros; rfl
theorem wr {F : Int32 → Int32} {D : Nat → Int32} {A B : St} {a a' s v v' : Int32} (h : R F D A B) (ha : A 4 10 = 0 → a = a' ∧ v &&& f_X10_maskOf s = v' &&& f_X10_maskOf s) (hs : s = 0 ∨ s = 1 ∨ s = 2) : R F D (f_X2_write a s v A) (f_X11_write a' s v' B) := by
  by_cases h0 : A 4 10 = 0
  · obtain ⟨e1, hv⟩ := ha h0
    subst e1
    have hg := h.g h0
    have key : RB (f_X2_write a s v A) (f_X11_write a s v' B) := by
      obtain ⟨N, hN, n1, n2, n3, n4⟩ := sz_n hs
      unfold f_X2_write f_X11_write
      simp only [xb_l]
      rcases chk (a := a) (way := 0) (w := true) h.b (sup_R hg h.m8) h0 hs (by simp) (Or.inl rfl) with ⟨c1, c2, c3, c4⟩ | ⟨c1, c2, c3, c4⟩
      · rw [show b2i true = 1 from rfl] at c2 c3
        rw [c1]
        dsimp only
        rw [if_neg (show ¬ (1 : Int32) = 0 by decide), if_pos c2, n1, n2]
        rw [n1] at c4
        have e : ((nI N).toInt - (0 : Int32).toInt).toNat + 1 = N + 1 := by
          rw [nI_toInt (by omega), show (0 : Int32).toInt = 0 by decide]; omega
        rw [e]
        exact wr_loop hN (ok_bytes hN c4) (mask_nat hs n1 hN hv) (N + 1) 0 _ _ c3 (by omega) (by omega)
      · rw [show b2i true = 1 from rfl] at c2 c3
        rw [c1, if_pos rfl, if_neg c2]
        exact c3
    refine R.mk key ((fr_X2_write rfl).trans h.d) (fun _ => ?_) h.m8
    exact RG.mk (fun j hj => by rw [fr_X2_write rfl, g_X11_write rfl]; exact hg.reg j hj) (by rw [fr_X2_write rfl, g_X11_write rfl]; exact hg.st) (by rw [fr_X2_write rfl]; exact hg.sr) (by rw [fr_X2_write rfl, g_X11_write rfl]; exact hg.tr) (by rw [fr_X2_write rfl, g_X11_write rfl]; exact hg.sp)
  · have e1 : f_X2_write a s v A = A := by
      unfold f_X2_write f_X2_allows
      simp only [xb_l, if_neg h0, if_true]
    have e2 : f_X11_write a' s v' B = B := by
      unfold f_X11_write f_X11_fails
      simp only [xb_l, if_neg (fun e => h0 (h.b.err.1.trans e))]
      rw [if_neg (by decide)]
    rw [e1, e2]
    exact h
