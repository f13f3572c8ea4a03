/-! the loop of shifts -/
theorem nx_mask {s left v : Int32} {i : Bool} (hs : s = 0 ∨ s = 1 ∨ s = 2) : nxC s left (v &&& f_X10_maskOf s) i = nxM s left v i &&& f_X10_maskOf s := by
  have hT := topN_lt s
  apply bt_ext
  intro j hj
  unfold nxC nxM
  have e1 : (1 : Int32) = nI 1 := rfl
  by_cases c : left = 0
  · rw [if_pos c, if_pos c, e1, bt_or, bt_ius _ _ _ (by decide), bt_shl _ _ _ hT hj, bt_b2i, bt_and, bt_and, bt_or, bt_and, bt_ius _ _ _ (by decide), bt_and, bt_xor, bt_top hs, bt_mask hs j hj, show bt (-nI 1) j = true from i32_m1 j hj]
    have e2 : bt (if i = true then topM s else 0) j = (i && decide (j = topN s)) := by
      cases i
      · show (0#32).getLsbD j = _; simp
      · rw [if_pos rfl, bt_top hs]; simp
    rw [e2]
    by_cases h31 : 1 + j < 32
    · rw [bt_mask hs _ h31]
      by_cases q1 : j = topN s
      · subst q1
        have : ¬ 1 + topN s ≤ topN s := by omega
        simp [this]
      · by_cases q2 : j < topN s
        · have a1 : 1 + j ≤ topN s := by omega
          have a2 : ¬ topN s ≤ j := by omega
          have a3 : j ≤ topN s := by omega
          simp [a1, a2, a3, q1]
        · have a1 : ¬ 1 + j ≤ topN s := by omega
          have a2 : ¬ j - topN s = 0 := by omega
          have a3 : ¬ j ≤ topN s := by omega
          simp [a1, a2, a3]
    · rw [bt_hi (x := v) (i := 1 + j) (by omega)]
      have : j = 31 := by omega
      subst this
      by_cases q1 : 31 = topN s
      · rw [← q1]; simp
      · have a2 : ¬ 31 - topN s = 0 := by omega
        have a3 : ¬ 31 ≤ topN s := by omega
        simp [a2, a3]
  · rw [if_neg c, if_neg c, e1, bt_and, bt_or, bt_shl _ _ _ (by decide) hj, bt_and, bt_and, bt_or, bt_shl _ _ _ (by decide) hj, bt_mask hs j hj, bt_mask hs (j - 1) (by omega)]
    by_cases q : j ≤ topN s
    · have : j - 1 ≤ topN s := by omega
      simp [q, this]
    · simp [q]
theorem bt_mk {s v : Int32} {i : Nat} (hs : s = 0 ∨ s = 1 ∨ s = 2) (hi : i ≤ topN s) : bt (v &&& f_X10_maskOf s) i = bt v i := by
  have := topN_lt s
  rw [bt_and, bt_mask hs _ (by omega)]
  simp [hi]
theorem fl_and (st m b : Int32) : (fl st m b) &&& m = b &&& m := by
  apply bt_ext
  intro i hi
  unfold fl
  rw [bt_and, bt_or, bt_and, bt_xor, bt_and, show bt (-1) i = true from i32_m1 i hi]
  cases bt st i <;> cases bt m i <;> cases bt b i <;> rfl
theorem hasX (B : St) (st : Int32) (X : Bool) : f_X11_has 16 (xup B 14 2 (fl st 16 (bZ X 16))) = b2i X := by
  unfold f_X11_has
  rw [xs4, fl_and]
  cases X <;> decide
theorem sh_fl (st : Int32) (n z c v X : Bool) : fl (fl (fl (fl st 16 (bZ X 16)) 15 (bZ n 8 ||| bZ z 4)) 1 (bZ c 1)) 2 (bZ v 2) = fl st 31 ((((bZ n 8 ||| bZ z 4) ||| (b2i c * 1)) ||| (b2i X * 16)) ||| bZ v 2) := by
  simp only [fl_fl]
  cases n <;> cases z <;> cases v <;> cases c <;> cases X <;> rfl
def ovB (kind left : Int32) (t : Bool) : Bool := decide (kind = 0) && (decide (¬ left = 0) && t)
theorem endC {m : Nat} {s kind left n x9 x10 x11 : Int32} {X O : Bool} {A : St} (hk : n ≤ x11) : f_X1_shifted_36 (m + 1) s kind left n (nI (topN s)) (b2i X) (b2i O) x9 x10 x11 A = (x9, xup A 2 18 (fl (A 2 18) 31 (((f_X1_signs x9 s ||| (b2i O * 1)) ||| (b2i X * 16)) ||| bZ (ovB kind left (bt x10 (topN s))) 2))) := by
  conv => lhs; unfold f_X1_shifted_36
  rw [if_pos hk, high_b]
  unfold f_X1_shifted_198 f_X1_shifted_199 f_X1_shifted_234 ovB
  have n10 : ¬ (1 : Int32) = 0 := by decide
  by_cases c1 : kind = 0 <;> by_cases c2 : left = 0 <;> cases h : bt x10 (topN s) <;> simp [c1, c2, b2i, bZ, xb_l, changeFlags_eq]
theorem endM {m : Nat} {s kind left n v x10 : Int32} {O Tn : Bool} {B : St} (hk : n ≤ x10) : f_X11_shifted_61 (m + 1) s kind left n v (topM s) (b2i O) (b2i Tn) x10 B = (v, xup B 14 2 (fl (fl (fl (B 14 2) 15 (f_X1_signs v s)) 1 (bZ O 1)) 2 (bZ (ovB kind left Tn) 2))) := by
  conv => lhs; unfold f_X11_shifted_61
  rw [if_pos hk]
  unfold f_X11_shifted_294 f_X11_shifted_295 ovB
  have n10 : ¬ (1 : Int32) = 0 := by decide
  by_cases c1 : kind = 0 <;> by_cases c2 : left = 0 <;> cases Tn <;> cases O <;> simp [c1, c2, b2i, bZ, xb_l, flag_eq, test_eq, xup_xup, xs4]
theorem sh_all {s kind left : Int32} {N : Nat} (hs : s = 0 ∨ s = 1 ∨ s = 2) (hkd : kind = 0 ∨ kind = 1 ∨ kind = 2 ∨ kind = 3) (hN : N < 2 ^ 30) {A B : St} : ∀ (m k : Nat) (v ch : Int32) (X Oc Om Tn : Bool), k ≤ N → N - k < m → (k = N → Oc = Om) → bt ch (topN s) = Tn → ∃ v' st' : Int32, f_X1_shifted_36 m s kind left (nI N) (nI (topN s)) (b2i X) (b2i Oc) (v &&& f_X10_maskOf s) ch (nI k) A = (v' &&& f_X10_maskOf s, xup A 2 18 (fl (A 2 18) 31 st')) ∧ f_X11_shifted_61 m s kind left (nI N) v (topM s) (b2i Om) (b2i Tn) (nI k) (xup B 14 2 (fl (B 14 2) 16 (bZ X 16))) = (v', xup B 14 2 (fl (B 14 2) 31 st'))
  | 0, _, _, _, _, _, _, _, _, h, _, _ => absurd h (Nat.not_lt_zero _)
  | m + 1, k, v, ch, X, Oc, Om, Tn, hk, hm, hO, hT => by
    have b0 : bt (v &&& f_X10_maskOf s) 0 = bt v 0 := bt_mk hs (Nat.zero_le _)
    have bT : bt (v &&& f_X10_maskOf s) (topN s) = bt v (topN s) := bt_mk hs (Nat.le_refl _)
    by_cases e : k = N
    · subst e
      have := hO rfl; subst this
      subst hT
      rw [endC ((nI_leI (by omega) (by omega)).mpr (Nat.le_refl _)), endM ((nI_leI (by omega) (by omega)).mpr (Nat.le_refl _))]
      refine ⟨v, _, rfl, ?_⟩
      rw [xs4, xup_xup, signs_eq, signs_eq, ext_mask hs, sh_fl]
    · have hlt : ¬ nI N ≤ nI k := fun g => e (Nat.le_antisymm hk ((nI_leI (by omega) (by omega)).mp g))
      rw [stepC hlt, stepM hs hkd (hasX _ _ _) hlt, b0, bT, nx_mask hs, nI_1]
      generalize hI : sIn kind left X (bt v (topN s)) (sOut left (bt v (topN s)) (bt v 0)) = I
      have hB : (if kind = 3 then xup B 14 2 (fl (B 14 2) 16 (bZ X 16)) else xup (xup B 14 2 (fl (B 14 2) 16 (bZ X 16))) 14 2 (fl ((xup B 14 2 (fl (B 14 2) 16 (bZ X 16))) 14 2) 16 (bZ (sOut left (bt v (topN s)) (bt v 0)) 16))) = xup B 14 2 (fl (B 14 2) 16 (bZ (if kind = 3 then X else sOut left (bt v (topN s)) (bt v 0)) 16)) := by
        by_cases c : kind = 3
        · rw [if_pos c, if_pos c]
        · rw [if_neg c, if_neg c, xs4, xup_xup, fl_fl, show (16 : Int32) ||| 16 = 16 by decide]
          congr 1
          apply fl_cong
          cases X <;> cases sOut left (bt v (topN s)) (bt v 0) <;> decide
      rw [hB]
      refine sh_all hs hkd hN m (k + 1) _ _ _ _ _ _ (by omega) (by omega) (fun _ => rfl) ?_
      rw [bt_or, bt_xor, bT, bt_mk hs (Nat.le_refl _), hT]
      cases Tn <;> cases bt v (topN s) <;> cases bt (nxM s left v I) (topN s) <;> rfl
theorem xup_id (M : St) (i j : Nat) : xup M i j (M i j) = M := by
  funext p k
  rw [xup_ite]
  by_cases h : p = i ∧ k = j
  · rw [if_pos h, h.1, h.2]
  · rw [if_neg h]
theorem keep16 (st : Int32) : fl st 16 (bZ (bt st 4) 16) = st := by
  have h := andp (x := st) (p := 16) (k := 4) (by decide) (by decide)
  have e : bZ (bt st 4) 16 &&& 16 = st &&& 16 := by
    rw [h]
    unfold bt bZ
    cases st.toBitVec.getLsbD 4 <;> decide
  rw [fl_cong e, fl_self]
theorem has16 (B : St) : f_X11_has 16 B = b2i (bt (B 14 2) 4) := by
  unfold f_X11_has
  rw [andp (x := B 14 2) (p := 16) (k := 4) (by decide) (by decide)]
  unfold bt
  cases (B 14 2).toBitVec.getLsbD 4 <;> decide
/-- the two shifts -/
theorem shiftR {D : Nat → Int32} {A B : St} {s kind left v v' : Int32} {n n' : Int32} (h : R id D A B) (hs : s = 0 ∨ s = 1 ∨ s = 2) (hkd : kind = 0 ∨ kind = 1 ∨ kind = 2 ∨ kind = 3) (hv : A 4 10 = 0 → v = v' ∧ rgS s v ∧ n = n' ∧ xrg 0 63 n) : R id D (f_X1_shifted v s kind left n A).2 (f_X11_shifted v' s kind left n' B).2 ∧ ((f_X1_shifted v s kind left n A).2 4 10 = 0 → A 4 10 = 0 ∧ (f_X1_shifted v s kind left n A).1 &&& f_X10_maskOf s = (f_X11_shifted v' s kind left n' B).1 &&& f_X10_maskOf s) := by
  have fa : FA A (f_X1_shifted v s kind left n A).2 := fun p hp => fr_X1_shifted (xnot_sub hp rfl)
  have fb : FB B (f_X11_shifted v' s kind left n' B).2 := fun p j hp => g_X11_shifted (x2_sub hp rfl)
  have e4 : (f_X1_shifted v s kind left n A).2 4 10 = A 4 10 := congrFun (fa 4 rfl) 10
  have main : A 4 10 = 0 → ∃ (r st : Int32), f_X1_shifted v s kind left n A = (r &&& f_X10_maskOf s, xup A 2 18 (fl (A 2 18) 31 st)) ∧ f_X11_shifted v' s kind left n' B = (r, xup B 14 2 (fl (B 14 2) 31 st)) := by
    intro e
    have g := h.g e
    obtain ⟨rfl, hr, rfl, hn⟩ := hv e
    obtain ⟨N, hN, rfl⟩ := xrg_nat (n := 64) hn (by decide) (by decide)
    have hx : f_X1_x A = b2i (bt (B 14 2) 4) := by rw [x_has, has_eq 16 g.s0, has16]
    have hB : B = xup B 14 2 (fl (B 14 2) 16 (bZ (bt (B 14 2) 4) 16)) := by rw [keep16, xup_id]
    have eN : ((nI N).toInt - (0 : Int32).toInt).toNat + 1 = N + 1 := by
      rw [nI_toInt (by omega), show (0 : Int32).toInt = 0 by decide]; omega
    have hz : bt 0 (topN s) = false := by
      have := bt_b2i false (topN s)
      rw [Bool.false_and] at this
      exact this
    obtain ⟨r, st, k1, k2⟩ := sh_all (A := A) (B := B) (left := left) hs hkd (show N < 2 ^ 30 by omega) (N + 1) 0 v 0 (bt (B 14 2) 4) (decide (kind = 2) && bt (B 14 2) 4) (decide (N = 0) && (decide (kind = 2) && bt (B 14 2) 4)) false (by omega) (by omega) (fun q => by simp [← q]) hz
    rw [← hB] at k2
    rw [rgS_mask hs hr] at k1
    refine ⟨r, st, ?_, ?_⟩
    · rw [← k1]
      unfold f_X1_shifted f_X1_shifted_25
      rw [hx, bits_top hs, eN]
      by_cases c : kind = 2
      · rw [if_pos c]; simp [c]; rfl
      · rw [if_neg c]; simp [c]; rfl
    · rw [← k2]
      have e3 : f_X11_shifted v s kind left (nI N) B = f_X11_shifted_27 s kind left (nI N) v (topM s) B := by
        unfold f_X11_shifted topM
        rcases hs with rfl | rfl | rfl <;> rfl
      rw [e3]
      unfold f_X11_shifted_27 f_X11_shifted_52 f_X11_shifted_53
      rw [eN, has16]
      have eZ : (nI N = 0) ↔ N = 0 := by
        rw [show (0 : Int32) = nI 0 from rfl, nI_eq (by omega) (by decide)]
      simp only [eZ]
      by_cases c1 : N = 0 <;> by_cases c2 : kind = 2 <;> cases c3 : bt (B 14 2) 4 <;> simp [c1, c2, b2i] <;> rfl
  refine ⟨h.rg fa fb (fun e g => ?_), fun e => ?_⟩
  · obtain ⟨r, st, m1, m2⟩ := main e
    rw [m1, m2]
    exact (h.flags (m := 31) (b := st) (b' := st) (by decide) (fun _ => rfl)).g (by rw [xo4 rfl]; exact e)
  · rw [e4] at e
    obtain ⟨r, st, m1, m2⟩ := main e
    rw [m1, m2]
    refine ⟨e, ?_⟩
    dsimp only
    rw [Int32.and_assoc, Int32.and_self]
