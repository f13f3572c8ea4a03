/-! THE RELATION of the two machines; reads and writes -/
def RG (F : Int32 → Int32) (A B : St) : Prop := (∀ j, j < 18 → A 2 j = B 15 j) ∧ (A 2 18 = F (B 14 2)) ∧ ((A 2 18) &&& 42783 = A 2 18) ∧ (A 12 6 = B 14 23) ∧ (A 12 7 = B 14 24)
theorem RG.reg {F : Int32 → Int32} {A B : St} (h : RG F A B) : ∀ j, j < 18 → A 2 j = B 15 j := h.1
theorem RG.st {F : Int32 → Int32} {A B : St} (h : RG F A B) : A 2 18 = F (B 14 2) := h.2.1
theorem RG.sr {F : Int32 → Int32} {A B : St} (h : RG F A B) : (A 2 18) &&& 42783 = A 2 18 := h.2.2.1
theorem RG.tr {F : Int32 → Int32} {A B : St} (h : RG F A B) : A 12 6 = B 14 23 := h.2.2.2.1
theorem RG.sp {F : Int32 → Int32} {A B : St} (h : RG F A B) : A 12 7 = B 14 24 := h.2.2.2.2
theorem RG.mk {F : Int32 → Int32} {A B : St} (h0 : ∀ j, j < 18 → A 2 j = B 15 j) (h1 : A 2 18 = F (B 14 2)) (h2 : (A 2 18) &&& 42783 = A 2 18) (h3 : A 12 6 = B 14 23) (h4 : A 12 7 = B 14 24) : RG F A B := ⟨h0, h1, h2, h3, h4⟩
def R (F : Int32 → Int32) (D : Nat → Int32) (A B : St) : Prop := (RB A B) ∧ (A 11 = D) ∧ (A 4 10 = 0 → RG F A B) ∧ (∀ x, F x &&& 8192 = x &&& 8192)
theorem R.b {F : Int32 → Int32} {D : Nat → Int32} {A B : St} (h : R F D A B) : RB A B := h.1
theorem R.d {F : Int32 → Int32} {D : Nat → Int32} {A B : St} (h : R F D A B) : A 11 = D := h.2.1
theorem R.g {F : Int32 → Int32} {D : Nat → Int32} {A B : St} (h : R F D A B) : A 4 10 = 0 → RG F A B := h.2.2.1
theorem R.m8 {F : Int32 → Int32} {D : Nat → Int32} {A B : St} (h : R F D A B) : ∀ x, F x &&& 8192 = x &&& 8192 := h.2.2.2
theorem R.mk {F : Int32 → Int32} {D : Nat → Int32} {A B : St} (h0 : RB A B) (h1 : A 11 = D) (h2 : A 4 10 = 0 → RG F A B) (h3 : ∀ x, F x &&& 8192 = x &&& 8192) : R F D A B := ⟨h0, h1, h2, h3⟩
theorem RB.cg {A B A' B' : St} (h : RB A B) (hA : ∀ p, xnot p [2, 3, 8, 9, 10, 11, 12] = true → A' p = A p) (hB : ∀ p j, xno2 p j [(14, some 0), (14, some 2), (14, some 5), (14, some 6), (14, some 16), (14, some 17), (14, some 19), (14, some 23), (14, some 24), (14, some 25), (14, some 26), (15, none), (16, none), (17, none), (21, none)] = true → B' p j = B p j) : RB A' B' := by
  have a4 := hA 4 rfl
  have a5 := hA 5 rfl
  have a6 := hA 6 rfl
  have a7 := hA 7 rfl
  have b18 : B' 18 = B 18 := funext fun j => hB 18 j rfl
  have b19 : B' 19 = B 19 := funext fun j => hB 19 j rfl
  have b20 : B' 20 = B 20 := funext fun j => hB 20 j rfl
  have b8 := hB 14 8 rfl
  have b9 := hB 14 9 rfl
  have b10 := hB 14 10 rfl
  have b11 := hB 14 11 rfl
  have b12 := hB 14 12 rfl
  have b14 := hB 14 14 rfl
  have e20 := hB 14 20 rfl
  have e21 := hB 14 21 rfl
  have e22 := hB 14 22 rfl
  unfold RB RQ RSd REr
  rw [a4, a5, a6, a7, b18, b19, b20, b8, b9, b10, b11, b12, b14, e20, e21, e22]
  exact h
def FA (A A' : St) : Prop := ∀ p, xnot p [2, 10, 12] = true → A' p = A p
def FB (B B' : St) : Prop := ∀ p j, xno2 p j [(14, some 2), (14, some 23), (14, some 24), (14, some 25), (14, some 26), (15, none)] = true → B' p j = B p j
/-- what touches registers alone -/
theorem R.rg {F : Int32 → Int32} {D : Nat → Int32} {A B A' B' : St} (h : R F D A B) (hA : FA A A') (hB : FB B B') (hg : A 4 10 = 0 → RG F A B → RG F A' B') : R F D A' B' := by
  refine R.mk (h.b.cg (fun p hp => hA p (xnot_sub hp rfl)) (fun p j hp => hB p j (x2_sub hp rfl))) ((hA 11 rfl).trans h.d) ?_ h.m8
  rw [hA 4 rfl]
  exact fun e => hg e (h.g e)
def okb (x : Int32) : Prop := (0 ≤ x.toInt ∧ x.toInt ≤ 2047) ∨ (4096 ≤ x.toInt ∧ x.toInt ≤ 4103)
theorem shl8 {v : Int32} (hv : xrg 0 255 v) : xrg 0 65280 (v <<< ((8 : Int32) &&& 31)) := by
  obtain ⟨j, hj, rfl⟩ := xrg_nat (n := 256) hv (by decide) (by decide)
  have : (nI j) <<< ((8 : Int32) &&& 31) = nI (j * 256) := by
    apply Int32.toBitVec_inj.mp
    apply BitVec.eq_of_toNat_eq
    show ((nI j).toBitVec <<< (((8 : Int32) &&& 31).toBitVec.smod 32).toNat).toNat = _
    rw [show (((8 : Int32) &&& 31).toBitVec.smod 32).toNat = 8 by decide, BitVec.toNat_shiftLeft, pk_tn (by omega), pk_tn (by omega), Nat.shiftLeft_eq]
    omega
  rw [this]
  exact xrg_nI (by omega) (by omega)
theorem cat_rng {v b : Int32} {k : Nat} (hk : k ≤ 1) (hv : xrg 0 (256 ^ k - 1) v) (hb : xrg 0 255 b) : xrg 0 (256 ^ (k + 1) - 1) ((v <<< ((8 : Int32) &&& 31)) ||| b) := by
  rcases (show k = 0 ∨ k = 1 by omega) with rfl | rfl
  · have e : v = 0 := by
      obtain ⟨h1, h2⟩ := hv
      apply Int32.toInt_inj.mp
      show v.toInt = 0
      omega
    subst e
    rw [show (0 : Int32) <<< ((8 : Int32) &&& 31) = 0 by decide, Int32.zero_or]
    exact hb
  · exact x_rg_or 16 (by decide) (shl8 hv) hb (by decide) (by decide)
theorem rdC_u (n : Nat) (x4 x5 x6 x7 : Int32) (M : St) : f_X2_read_32 (n + 1) x4 x5 x6 x7 M = (if x5 ≤ x7 then (x6, M) else f_X2_read_32 n x4 x5 ((x6 <<< ((8 : Int32) &&& 31)) ||| (f_X2_readByte (x4 + x7) M).1) (x7 + 1) (f_X2_readByte (x4 + x7) M).2) := rfl
theorem rdM_u (n : Nat) (x1 x2 x4 x5 : Int32) (M : St) : f_X11_read_19 (n + 1) x1 x2 x4 x5 M = (if ((1 : Int32) <<< (x2 &&& 31)) ≤ x5 then (x4, M) else f_X11_read_19 n x1 x2 ((x4 <<< ((8 : Int32) &&& 31)) ||| (f_X11_readByte ((x1 + x5) &&& 16777215) M).1) (x5 + 1) (f_X11_readByte ((x1 + x5) &&& 16777215) M).2) := rfl
theorem rd_loop {a at_ s : Int32} {N : Nat} (hN : N ≤ 4) (hs : ((1 : Int32) <<< (s &&& 31)) = nI N) (hok : ∀ i, i < N → okb (at_ + nI i) ∧ (a + nI i) &&& 16777215 = at_ + nI i) : ∀ (n k : Nat) (v : Int32) (A B : St), RB A B → k ≤ N → N - k < n → (f_X2_read_32 n at_ (nI N) v (nI k) A).1 = (f_X11_read_19 n a s v (nI k) B).1 ∧ RB (f_X2_read_32 n at_ (nI N) v (nI k) A).2 (f_X11_read_19 n a s v (nI k) B).2 ∧ (N ≤ 2 → xrg 0 (256 ^ k - 1) v → xrg 0 (256 ^ N - 1) (f_X2_read_32 n at_ (nI N) v (nI k) A).1)
  | 0, _, _, _, _, _, _, h => absurd h (Nat.not_lt_zero _)
  | n + 1, k, v, A, B, hR, hk, hn => by
    rw [rdC_u, rdM_u, hs]
    by_cases hkN : N ≤ k
    · rw [if_pos ((nI_leI (by omega) (by omega)).mpr hkN), if_pos ((nI_leI (by omega) (by omega)).mpr hkN)]
      have : k = N := by omega
      subst this
      exact ⟨rfl, hR, fun _ h => h⟩
    · rw [if_neg (fun h => hkN ((nI_leI (by omega) (by omega)).mp h)), if_neg (fun h => hkN ((nI_leI (by omega) (by omega)).mp h))]
      obtain ⟨o1, o2⟩ := hok k (by omega)
      rw [o2, nI_1]
      obtain ⟨b1, b2, b3⟩ := byte_rd hR o1
      rw [← b1]
      obtain ⟨l1, l2, l3⟩ := rd_loop hN hs hok n (k + 1) ((v <<< ((8 : Int32) &&& 31)) ||| (f_X2_readByte (at_ + nI k) A).1) _ _ b3 (by omega) (by omega)
      refine ⟨l1, l2, fun h2 hv => l3 h2 ?_⟩
      exact cat_rng (by omega) hv b2
theorem sz_n {s : Int32} (hs : s = 0 ∨ s = 1 ∨ s = 2) : ∃ N : Nat, (N = 1 ∨ N = 2 ∨ N = 4) ∧ f_X10_bytesOf s = nI N ∧ ((1 : Int32) <<< (s &&& 31)) = nI N ∧ (N = 1 ↔ s = 0) ∧ (s = 1 → N = 2) := by
  rcases hs with rfl | rfl | rfl
  · exact ⟨1, Or.inl rfl, by decide, by decide, by decide, by decide⟩
  · exact ⟨2, Or.inr (Or.inl rfl), by decide, by decide, by decide, by decide⟩
  · exact ⟨4, Or.inr (Or.inr rfl), by decide, by decide, by decide, by decide⟩
theorem ok_bytes {A : St} {a way : Int32} {N : Nat} (hN : N = 1 ∨ N = 2 ∨ N = 4) (h : okC A (a &&& 16777215) (nI N) way = true) : ∀ i, i < N → okb ((a &&& 16777215) + nI i) ∧ (a + nI i) &&& 16777215 = (a &&& 16777215) + nI i := by
  have hj : a.toBitVec.toNat % 16777216 < 16777216 := Nat.mod_lt _ (by decide)
  have ea : a &&& 16777215 = nI (a.toBitVec.toNat % 16777216) := pk_and a 24 (by decide)
  intro i hi
  have k0 := an24k a i (by omega)
  rw [ea] at h ⊢
  generalize a.toBitVec.toNat % 16777216 = j at *
  have h' := (okC_iff hj (by omega) (by omega)).mp h
  rw [nI_add]
  have hlt : j + i < 4104 := by omega
  refine ⟨?_, ?_⟩
  · unfold okb
    rw [nI_toInt (by omega)]
    omega
  · apply Int32.toInt_inj.mp
    rw [k0, nI_toInt (by omega)]
    omega
theorem and_and1 (a : Int32) : (a &&& 16777215) &&& 1 = a &&& 1 := by
  rw [Int32.and_assoc]; rfl
theorem RB.skip {A B : St} {x y : Int32} (h : RB A B) (h0 : A 4 10 = 0) : RB A (xup (xup (xup B 14 20 0) 14 21 x) 14 22 y) := by
  have hb0 : B 14 20 = 0 := h.err.1 ▸ h0
  apply RB.mk
  all_goals first
    | exact RQ.cg h.que rfl rfl rfl (by simp [xup_ite]) (by funext j; simp [xup_ite])
    | exact RSd.cg h.sai rfl rfl (by simp [xup_ite]) (by funext j; simp [xup_ite])
    | exact h.byt
    | exact h.tir
    | exact h.tlr
    | exact h.qf
    | exact h.qc
    | exact h.qby
    | exact h.sar
    | (simp [xup_ite]; first | exact h.mem | exact h.fen | exact h.fer | exact h.tim | exact h.tlv | exact h.ask)
    | skip
  refine ⟨by simp [xup_ite]; exact h0, fun g => absurd h0 g⟩
theorem sup_R {F : Int32 → Int32} {A B : St} (h : RG F A B) (hm : ∀ x, F x &&& 8192 = x &&& 8192) : supC A = supB B := by
  unfold supC supB
  rw [h.st, hm]
theorem RG.s0 {A B : St} (h : RG id A B) : A 2 18 = B 14 2 := h.st
/-- the two checks: both let the access pass, or both set the same error -/
theorem chk {A B : St} {a s way : Int32} {w : Bool} (h : RB A B) (hS : supC A = supB B) (h0 : A 4 10 = 0) (hs : s = 0 ∨ s = 1 ∨ s = 2) (hw : w = decide (way = 0)) (hy : way = 0 ∨ way = 1 ∨ way = 3) :
    (f_X2_allows (a &&& 16777215) (f_X10_bytesOf s) way A = (1, A) ∧ (f_X11_fails a s (b2i w) way B).1 = 0 ∧ RB A (f_X11_fails a s (b2i w) way B).2 ∧ okC A (a &&& 16777215) (f_X10_bytesOf s) way = true)
    ∨ ((f_X2_allows (a &&& 16777215) (f_X10_bytesOf s) way A).1 = 0 ∧ ¬ (f_X11_fails a s (b2i w) way B).1 = 0 ∧ RB (f_X2_allows (a &&& 16777215) (f_X10_bytesOf s) way A).2 (f_X11_fails a s (b2i w) way B).2 ∧ ¬ (f_X2_allows (a &&& 16777215) (f_X10_bytesOf s) way A).2 4 10 = 0) := by
  have hb0 : B 14 20 = 0 := h.err.1 ▸ h0
  obtain ⟨N, hN, n1, n2, n3, _⟩ := sz_n hs
  rw [allows_eq h0, fails_eq hs hb0, and_and1]
  have hc : (1 < f_X10_bytesOf s ∧ ¬ (a &&& 1) = 0) ↔ (¬ s = 0 ∧ (a &&& 1) = 1) := by
    have e1 : (1 < f_X10_bytesOf s) ↔ ¬ s = 0 := by
      rw [n1, ← n3, show (1 : Int32) = nI 1 from rfl, nI_ltI (by decide) (by omega)]
      omega
    have e2 : (¬ (a &&& 1) = 0) ↔ (a &&& 1) = 1 := by rw [an1, an10]; omega
    rw [e1, e2]
  by_cases h1 : ¬ s = 0 ∧ (a &&& 1) = 1
  · rw [if_pos (hc.mpr h1)]
    unfold mfault f_X11_fails_135
    rw [if_pos h1, if_neg (by decide)]
    refine Or.inr ⟨rfl, (by decide : ¬ (1 : Int32) = 0), ?_, ?_⟩
    · exact h.s_err (fun _ => ⟨rfl, rfl, Or.inr rfl, hy⟩)
    · unfold errC; simp [xup_ite]
  · rw [if_neg (fun g => h1 (hc.mp g))]
    have hodd : s = 0 ∨ ¬ (a &&& 1) = 1 := by
      by_cases e : s = 0
      · exact Or.inl e
      · exact Or.inr fun g => h1 ⟨e, g⟩
    have hbo := bad_ok (A := A) (B := B) (a := a) hs hS h.fen h.fer hw hodd
    unfold mfault f_X11_fails_135
    rw [if_neg h1, hbo]
    cases ho : okC A (a &&& 16777215) (f_X10_bytesOf s) way with
    | true =>
      simp only [Bool.not_true, if_true, Bool.false_eq_true, if_false]
      exact Or.inl ⟨trivial, trivial, h.skip h0, trivial⟩
    | false =>
      simp only [Bool.not_false, if_true, Bool.false_eq_true, if_false]
      rw [if_neg (by decide)]
      refine Or.inr ⟨trivial, (by decide : ¬ (1 : Int32) = 0), ?_, ?_⟩
      · exact h.s_err (fun _ => ⟨rfl, rfl, Or.inl rfl, hy⟩)
      · unfold errC; simp [xup_ite]
def rgS (s x : Int32) : Prop := (s = 0 → xrg 0 255 x) ∧ (s = 1 → xrg 0 65535 x)
/-- a pair of answers with their stores -/
def RV (F : Int32 → Int32) (D : Nat → Int32) (φ : Int32 → Int32 → Prop) (a b : Int32 × St) : Prop := R F D a.2 b.2 ∧ (a.2 4 10 = 0 → φ a.1 b.1)
theorem rd_core {A B : St} {a s way : Int32} (h : RB A B) (hS : supC A = supB B) (h0 : A 4 10 = 0) (hs : s = 0 ∨ s = 1 ∨ s = 2) (hw : way = 1 ∨ way = 3) : RB (f_X2_read a s way A).2 (f_X11_read a s way B).2 ∧ ((f_X2_read a s way A).2 4 10 = 0 → (f_X2_read a s way A).1 = (f_X11_read a s way B).1 ∧ rgS s (f_X2_read a s way A).1) := by
  obtain ⟨N, hN, n1, n2, n3, n4⟩ := sz_n hs
  unfold f_X2_read f_X11_read
  simp only [xb_l]
  rcases chk (a := a) (way := way) (w := false) h hS h0 hs (by rcases hw with rfl | rfl <;> rfl) (Or.inr hw) with ⟨c1, c2, c3, c4⟩ | ⟨c1, c2, c3, c4⟩
  · rw [show b2i false = 0 from rfl] at c2 c3
    rw [c1]
    dsimp only
    rw [if_neg (show ¬ (1 : Int32) = 0 by decide), if_pos c2, n1, n2]
    rw [n1] at c4
    have e : ((nI N).toInt - (0 : Int32).toInt).toNat + 1 = N + 1 := by
      rw [nI_toInt (by omega), show (0 : Int32).toInt = 0 by decide]; omega
    rw [e]
    obtain ⟨l1, l2, l3⟩ := rd_loop (a := a) (s := s) (by omega) n2 (ok_bytes hN c4) (N + 1) 0 0 _ _ c3 (by omega) (by omega)
    rw [show (0 : Int32) = nI 0 from rfl]
    rw [show (0 : Int32) = nI 0 from rfl] at l1 l2 l3
    refine ⟨l2, fun _ => ⟨l1, fun e0 => ?_, fun e1 => ?_⟩⟩
    · have : N = 1 := n3.mpr e0
      have := l3 (by omega) ⟨by decide, by decide⟩
      rw [‹N = 1›] at this
      rw [‹N = 1›]
      exact this
    · have := l3 (by have := n4 e1; omega) ⟨by decide, by decide⟩
      rw [n4 e1] at this
      rw [n4 e1]
      exact this
  · rw [show b2i false = 0 from rfl] at c2 c3
    rw [c1, if_pos rfl, if_neg c2]
    exact ⟨c3, fun e => absurd e c4⟩
theorem rd_err {A B : St} {a a' s way : Int32} (h : RB A B) (h0 : ¬ A 4 10 = 0) : f_X2_read a s way A = (0, A) ∧ f_X11_read a' s way B = (0, B) := by
  refine ⟨?_, ?_⟩
  · unfold f_X2_read f_X2_allows
    simp only [xb_l, if_neg h0, if_true]
  · unfold f_X11_read f_X11_fails
    simp only [xb_l, if_neg (fun e => h0 (h.err.1.trans e))]
    rw [if_neg (by decide)]
theorem rd {F : Int32 → Int32} {D : Nat → Int32} {A B : St} {a a' s way : Int32} (h : R F D A B) (ha : A 4 10 = 0 → a = a') (hs : s = 0 ∨ s = 1 ∨ s = 2) (hw : way = 1 ∨ way = 3) : RV F D (fun x y => x = y ∧ rgS s x) (f_X2_read a s way A) (f_X11_read a' s way B) := by
  by_cases h0 : A 4 10 = 0
  · have := ha h0; subst this
    have hg := h.g h0
    have key := rd_core (a := a) (s := s) (way := way) h.b (sup_R hg h.m8) h0 hs hw
    refine ⟨R.mk key.1 ((fr_X2_read rfl).trans h.d) (fun _ => ?_) h.m8, key.2⟩
    exact RG.mk (fun j hj => by rw [fr_X2_read rfl, g_X11_read rfl]; exact hg.reg j hj) (by rw [fr_X2_read rfl, g_X11_read rfl]; exact hg.st) (by rw [fr_X2_read rfl]; exact hg.sr) (by rw [fr_X2_read rfl, g_X11_read rfl]; exact hg.tr) (by rw [fr_X2_read rfl, g_X11_read rfl]; exact hg.sp)
  · obtain ⟨e1, e2⟩ := rd_err (a := a) (a' := a') (s := s) (way := way) h.b h0
    rw [e1, e2]
    exact ⟨h, fun e => absurd e h0⟩
