/-! sums -/
def al (s : Int32) : Int64 := (f_X10_maskOf s).toInt64 &&& 4294967295
def kS (s : Int32) : Int := if s = 0 then 256 else if s = 1 then 65536 else 4294967296
theorem ws_eq {s : Int32} (hs : s = 0 ∨ s = 1 ∨ s = 2) (x : Int32) : f_X10_withoutSign x s = x.toInt64 &&& al s := by
  unfold f_X10_withoutSign al
  rcases hs with rfl | rfl | rfl
  · rw [show ((1 : Int64) <<< (((8 : Int32) <<< ((0 : Int32) &&& 31)).toInt64 &&& 63)) - 1 = (f_X10_maskOf 0).toInt64 &&& 4294967295 by decide]
  · rw [show ((1 : Int64) <<< (((8 : Int32) <<< ((1 : Int32) &&& 31)).toInt64 &&& 63)) - 1 = (f_X10_maskOf 1).toInt64 &&& 4294967295 by decide]
  · rw [show ((1 : Int64) <<< (((8 : Int32) <<< ((2 : Int32) &&& 31)).toInt64 &&& 63)) - 1 = (f_X10_maskOf 2).toInt64 &&& 4294967295 by decide]
theorem andl (y m : Int64) (n : Nat) (hn : n ≤ 32) (hm : m.toBitVec.toNat = 2 ^ n - 1) : (y &&& m).toInt = y.toInt % (2 ^ n : Nat) := by
  have hp : 2 ^ n ≤ 2 ^ 32 := Nat.pow_le_pow_right (by decide) hn
  have hpos : 0 < 2 ^ n := Nat.pow_pos (by decide)
  have e1 : (y &&& m).toBitVec.toNat = y.toBitVec.toNat % 2 ^ n := by
    show (y.toBitVec &&& m.toBitVec).toNat = _
    rw [BitVec.toNat_and, hm, Nat.and_two_pow_sub_one_eq_mod]
  have h2 : y.toBitVec.toNat % 2 ^ n < 2 ^ n := Nat.mod_lt _ hpos
  have e2 : (y &&& m).toInt = ((y.toBitVec.toNat % 2 ^ n : Nat) : Int) := by
    show (y &&& m).toBitVec.toInt = _
    rw [BitVec.toInt_eq_toNat_of_lt (by omega), e1]
  have e3 : y.toInt % (2 ^ n : Nat) = ((y.toBitVec.toNat % 2 ^ n : Nat) : Int) := by
    show y.toBitVec.toInt % (2 ^ n : Nat) = _
    rw [BitVec.toInt_eq_toNat_bmod, Int.natCast_emod]
    have hd : ((2 ^ n : Nat) : Int) ∣ ((2 ^ 64 : Nat) : Int) := by
      refine Int.natCast_dvd_natCast.mpr (Nat.pow_dvd_pow 2 (by omega))
    have h4 := Int.bmod_def (y.toBitVec.toNat : Int) (2 ^ 64)
    obtain ⟨c, hc⟩ := hd
    have h5 : ∃ k : Int, Int.bmod (y.toBitVec.toNat : Int) (2 ^ 64) = y.toBitVec.toNat + ((2 ^ 64 : Nat) : Int) * k := by
      have h6 := Int.emod_add_mul_ediv (y.toBitVec.toNat : Int) ((2 ^ 64 : Nat) : Int)
      rw [h4]
      split
      · exact ⟨-((y.toBitVec.toNat : Int) / ((2 ^ 64 : Nat) : Int)), by omega⟩
      · exact ⟨-((y.toBitVec.toNat : Int) / ((2 ^ 64 : Nat) : Int)) - 1, by omega⟩
    obtain ⟨k, hk⟩ := h5
    rw [hk, hc, Int.mul_assoc, Int.add_mul_emod_self_left]
  rw [e2, e3]
theorem al_n {s : Int32} (hs : s = 0 ∨ s = 1 ∨ s = 2) : ∃ n : Nat, n ≤ 32 ∧ (al s).toBitVec.toNat = 2 ^ n - 1 ∧ kS s = ((2 ^ n : Nat) : Int) := by
  rcases hs with rfl | rfl | rfl
  · exact ⟨8, by decide, by decide, by decide⟩
  · exact ⟨16, by decide, by decide, by decide⟩
  · exact ⟨32, by decide, by decide, by decide⟩
theorem andal {s : Int32} (hs : s = 0 ∨ s = 1 ∨ s = 2) (y : Int64) : (y &&& al s).toInt = y.toInt % kS s := by
  obtain ⟨n, h1, h2, h3⟩ := al_n hs
  rw [h3, andl y _ n h1 h2]
theorem kS_pos {s : Int32} (hs : s = 0 ∨ s = 1 ∨ s = 2) : 0 < kS s ∧ kS s ≤ 4294967296 ∧ (al s).toInt = kS s - 1 := by
  rcases hs with rfl | rfl | rfl <;> decide
/-- the result's low part -/
theorem lowK {s : Int32} (hs : s = 0 ∨ s = 1 ∨ s = 2) (y : Int64) : (f_X10_withoutSign (y.toInt32 &&& f_X10_maskOf s) s).toInt = y.toInt % kS s := by
  rw [ws_eq hs, andal hs, Int32.toInt_toInt64]
  have hb : ∀ K : Int, 0 < K → (∃ c : Int, (4294967296 : Int) = K * c) → (y.toInt32.toInt) % K = y.toInt % K := by
    intro K hK ⟨c, hc⟩
    rw [Int64.toInt_toInt32, Int.bmod_def]
    have h6 := Int.emod_add_mul_ediv y.toInt ((2 ^ 32 : Nat) : Int)
    have h7 : ((2 ^ 32 : Nat) : Int) = K * c := by rw [← hc]; rfl
    have h5 : ∀ z : Int, (∃ k : Int, z = y.toInt + ((2 ^ 32 : Nat) : Int) * k) → z % K = y.toInt % K := by
      rintro z ⟨k, rfl⟩
      rw [h7, Int.mul_assoc, Int.add_mul_emod_self_left]
    apply h5
    split
    · exact ⟨-(y.toInt / ((2 ^ 32 : Nat) : Int)), by omega⟩
    · exact ⟨-(y.toInt / ((2 ^ 32 : Nat) : Int)) - 1, by omega⟩
  rcases hs with rfl | rfl | rfl
  · rw [show f_X10_maskOf 0 = 255 by decide, show (y.toInt32 &&& 255).toInt = y.toInt32.toInt % 2 ^ 8 from Jvm.Kit.i32_mask _ 255 (by decide) (by decide)]
    show y.toInt32.toInt % 256 % 256 = y.toInt % 256
    rw [Int.emod_emod, hb 256 (by decide) ⟨16777216, by decide⟩]
  · rw [show f_X10_maskOf 1 = 65535 by decide, show (y.toInt32 &&& 65535).toInt = y.toInt32.toInt % 2 ^ 16 from Jvm.Kit.i32_mask _ 65535 (by decide) (by decide)]
    show y.toInt32.toInt % 65536 % 65536 = y.toInt % 65536
    rw [Int.emod_emod, hb 65536 (by decide) ⟨65536, by decide⟩]
  · rw [show f_X10_maskOf 2 = -1 by decide, Int32.and_neg_one]
    exact hb 4294967296 (by decide) ⟨1, by decide⟩
theorem low_eq {s : Int32} (hs : s = 0 ∨ s = 1 ∨ s = 2) (y : Int64) : (y &&& al s).toInt32 = y.toInt32 &&& f_X10_maskOf s := by
  rw [Int64.toInt32_and]
  rcases hs with rfl | rfl | rfl
  · rw [show (al 0).toInt32 = f_X10_maskOf 0 by decide]
  · rw [show (al 1).toInt32 = f_X10_maskOf 1 by decide]
  · rw [show (al 2).toInt32 = f_X10_maskOf 2 by decide]
theorem carry_iff {s : Int32} (hs : s = 0 ∨ s = 1 ∨ s = 2) (y : Int64) : (lg_cmp y (f_X10_withoutSign (y.toInt32 &&& f_X10_maskOf s) s) = 0) ↔ (¬ lg_cmp y 0 < 0 ∧ lg_cmp y (al s) ≤ 0) := by
  obtain ⟨k1, k2, k3⟩ := kS_pos hs
  rw [lg_cmp_eq, lg_cmp_lt, lg_cmp_le, Int64.lt_iff_toInt_lt, Int64.le_iff_toInt_le, ← Int64.toInt_inj, lowK hs, k3, show (0 : Int64).toInt = 0 by decide]
  have e1 := Int.emod_nonneg y.toInt (b := kS s) (by omega)
  have e2 := Int.emod_lt_of_pos y.toInt (b := kS s) k1
  constructor
  · intro h; omega
  · rintro ⟨h1, h2⟩
    exact (Int.emod_eq_of_lt (by omega) (by omega)).symm
theorem plainP (p q x : Int64) : p + (1 : Int32).toInt64 * (q + x) = p + q + x := by
  rw [show (1 : Int32).toInt64 = 1 by decide, Int64.one_mul, Int64.add_assoc]
theorem plainM (p q x : Int64) : p + (-1 : Int32).toInt64 * (q + x) = p - q - x := by
  rw [show (-1 : Int32).toInt64 = -1 by decide, Int64.neg_mul, Int64.one_mul, Int64.neg_add, Int64.sub_eq_add_neg (-q), Int64.sub_eq_add_neg (p - q), Int64.sub_eq_add_neg p, Int64.add_assoc]
theorem ext0 {s r : Int32} (hs : s = 0 ∨ s = 1 ∨ s = 2) (hr : rgS s r) : (f_X10_extended r s = 0) ↔ r = 0 := by
  rcases hs with rfl | rfl | rfl
  · obtain ⟨j, hj, rfl⟩ := xrg_nat (n := 256) (hr.1 rfl) (by decide) (by decide)
    show (nI j).toInt8.toInt32 = 0 ↔ _
    rw [← Int32.toInt_inj, lg_i2b_toInt, nI_toInt (by omega), ← Int32.toInt_inj, nI_toInt (by omega), show (0 : Int32).toInt = 0 by decide, Int.bmod_def]
    omega
  · obtain ⟨j, hj, rfl⟩ := xrg_nat (n := 65536) (hr.2 rfl) (by decide) (by decide)
    show (nI j).toInt16.toInt32 = 0 ↔ _
    rw [← Int32.toInt_inj, lg_i2s_toInt, nI_toInt (by omega), ← Int32.toInt_inj, nI_toInt (by omega), show (0 : Int32).toInt = 0 by decide, Int.bmod_def]
    omega
  · exact Iff.rfl
/-- one bit -/
theorem andp {x p : Int32} {k : Nat} (hk : k < 32) (hp : p.toBitVec = BitVec.twoPow 32 k) : x &&& p = if x.toBitVec.getLsbD k = true then p else 0 := by
  apply i32_ext
  intro i hi
  rw [Int32.toBitVec_and, BitVec.getLsbD_and, hp, BitVec.getLsbD_twoPow]
  have z : (0 : Int32).toBitVec.getLsbD i = false := by
    show (0#32).getLsbD i = false
    simp
  by_cases e : k = i
  · subst e
    cases hx : x.toBitVec.getLsbD k
    · simp
    · simp [hp, BitVec.getLsbD_twoPow, hk]
  · by_cases hx : x.toBitVec.getLsbD k = true
    · rw [if_pos hx, hp, BitVec.getLsbD_twoPow]; simp [e]
    · rw [if_neg hx, z]; simp [e]
theorem keep4 (st : Int32) : fl st 4 (if st &&& 4 = 0 then 0 else 4) = st := by
  have h := andp (x := st) (p := 4) (k := 2) (by decide) (by decide)
  have e : (if st &&& 4 = 0 then (0 : Int32) else 4) &&& 4 = st &&& 4 := by
    rw [h]
    by_cases c : st.toBitVec.getLsbD 2 = true
    · simp only [if_pos c]; decide
    · simp only [if_neg c]; decide
  rw [fl_cong e, fl_self]
def bZ (b : Bool) (k : Int32) : Int32 := if b then k else 0
/-- the reference's five flags after a sum: not in a chain -/
theorem sum_fl {st : Int32} (n z v c : Bool) (w : Int32) (hw : w = 31 ∨ w = 15) : (if w = 15 then fl (fl (fl (fl st 8 (bZ n 8)) 4 (bZ z 4)) 2 (bZ v 2)) 1 (bZ c 1) else fl (fl (fl (fl (fl st 8 (bZ n 8)) 4 (bZ z 4)) 2 (bZ v 2)) 1 (bZ c 1)) 16 (bZ c 16)) = fl st w (((bZ n 8 ||| bZ z 4) ||| bZ c 17) ||| bZ v 2) := by
  simp only [fl_fl]
  rcases hw with rfl | rfl
  · rw [if_neg (by decide)]
    cases n <;> cases z <;> cases v <;> cases c <;> rfl
  · rw [if_pos rfl]
    cases n <;> cases z <;> cases v <;> cases c <;> rfl
theorem sum_fc {st : Int32} (n v c : Bool) : fl (fl (fl (fl st 8 (bZ n 8)) 2 (bZ v 2)) 1 (bZ c 1)) 16 (bZ c 16) = fl st 27 (((bZ n 8 ||| 4) ||| bZ c 17) ||| bZ v 2) := by
  simp only [fl_fl]
  cases n <;> cases v <;> cases c <;> rfl

theorem ext_mask {s : Int32} (hs : s = 0 ∨ s = 1 ∨ s = 2) (x : Int32) : f_X10_extended (x &&& f_X10_maskOf s) s = f_X10_extended x s := by
  rcases hs with rfl | rfl | rfl
  · show (x &&& 255).toInt8.toInt32 = x.toInt8.toInt32
    rw [← Int32.toInt_inj, lg_i2b_toInt, lg_i2b_toInt, show (x &&& 255).toInt = x.toInt % 2 ^ 8 from Jvm.Kit.i32_mask _ 255 (by decide) (by decide)]
    exact Int.emod_bmod x.toInt 256
  · show (x &&& 65535).toInt16.toInt32 = x.toInt16.toInt32
    rw [← Int32.toInt_inj, lg_i2s_toInt, lg_i2s_toInt, show (x &&& 65535).toInt = x.toInt % 2 ^ 16 from Jvm.Kit.i32_mask _ 65535 (by decide) (by decide)]
    exact Int.emod_bmod x.toInt 65536
  · show (x &&& (-1)) = x
    exact Int32.and_neg_one
theorem ws_mask {s : Int32} (hs : s = 0 ∨ s = 1 ∨ s = 2) (x : Int32) : f_X10_withoutSign (x &&& f_X10_maskOf s) s = f_X10_withoutSign x s := by
  have h := lowK hs x.toInt64
  rw [show x.toInt64.toInt32 = x from lg_l2i_i2l x, Int32.toInt_toInt64] at h
  rw [← Int64.toInt_inj, h, ws_eq hs x, andal hs, Int32.toInt_toInt64]
theorem ext_cong {s x y : Int32} (hs : s = 0 ∨ s = 1 ∨ s = 2) (h : x &&& f_X10_maskOf s = y &&& f_X10_maskOf s) : f_X10_extended x s = f_X10_extended y s := by
  rw [← ext_mask hs x, h, ext_mask hs]
theorem ws_cong {s x y : Int32} (hs : s = 0 ∨ s = 1 ∨ s = 2) (h : x &&& f_X10_maskOf s = y &&& f_X10_maskOf s) : f_X10_withoutSign x s = f_X10_withoutSign y s := by
  rw [← ws_mask hs x, h, ws_mask hs]
theorem signs_eq (r s : Int32) : f_X1_signs r s = bZ (decide (¬ 0 ≤ f_X10_extended r s)) 8 ||| bZ (decide (f_X10_extended r s = 0)) 4 := by
  unfold f_X1_signs f_X1_signs_16 bZ
  by_cases h1 : 0 ≤ f_X10_extended r s <;> by_cases h2 : f_X10_extended r s = 0 <;> simp [h1, h2]
theorem total_eq {ch b a sg s which : Int32} {A : St} {y z : Int64} {r x : Int32} (hx : x = if ch = 0 then 0 else f_X1_x A) (hy : y = f_X10_withoutSign b s + sg.toInt64 * (f_X10_withoutSign a s + x.toInt64)) (hz : z = (f_X10_extended b s).toInt64 + sg.toInt64 * ((f_X10_extended a s).toInt64 + x.toInt64)) (hr : r = y.toInt32 &&& f_X10_maskOf s) : f_X1_total ch b a sg s which A = (r, xup A 2 18 (fl (A 2 18) (which &&& ((if ¬ ch = 0 ∧ r = 0 then 4 else 0) ^^^ (-1))) ((f_X1_signs r s ||| bZ (decide (¬ lg_cmp y (f_X10_withoutSign r s) = 0)) 17) ||| bZ (decide (¬ lg_cmp z (f_X10_extended r s).toInt64 = 0)) 2))) := by
  have e1 : f_X1_total ch b a sg s which A = f_X1_total_12 ch b a sg s which x A := by
    unfold f_X1_total
    by_cases h : ch = 0
    · rw [if_pos h, hx, if_pos h]
    · rw [if_neg h, hx, if_neg h]
  rw [e1]
  unfold f_X1_total_12
  rw [← hy, ← hz, ← hr, xb_l]
  unfold f_X1_total_91 f_X1_total_112 f_X1_total_127 f_X1_total_128 f_X1_total_159 f_X1_total_170 bZ
  generalize lg_cmp y (f_X10_withoutSign r s) = g1
  generalize lg_cmp z (f_X10_extended r s).toInt64 = g2
  generalize f_X1_signs r s = g3
  by_cases c1 : g1 = 0 <;> by_cases c2 : g2 = 0 <;> by_cases c3 : ch = 0 <;> by_cases c4 : r = 0 <;> simp [c1, c2, c3, c4, xb_l, changeFlags_eq]
theorem flag0 (m : Int32) (B : St) : f_X11_flag m 0 B = xup B 14 2 (fl (B 14 2) m (bZ false m)) := flag_eq m 0 B
theorem flag1 (m : Int32) (B : St) : f_X11_flag m 1 B = xup B 14 2 (fl (B 14 2) m (bZ true m)) := flag_eq m 1 B
/-- the reference's sum, not in a chain -/
theorem sum_eq0 {s a b less how : Int32} {B : St} {y z : Int64} {r : Int32} (hh : how = 0 ∨ how = 2) (hy : y = if less = 0 then (b.toInt64 &&& al s) + (a.toInt64 &&& al s) + 0 else (b.toInt64 &&& al s) - (a.toInt64 &&& al s) - 0) (hz : z = if less = 0 then (f_X10_extended b s).toInt64 + (f_X10_extended a s).toInt64 + 0 else (f_X10_extended b s).toInt64 - (f_X10_extended a s).toInt64 - 0) (hr : r = (y &&& al s).toInt32) : f_X11_sum s a b less how B = (r, xup B 14 2 (fl (B 14 2) (if how = 0 then 31 else 15) (((bZ (decide (¬ 0 ≤ f_X10_extended r s)) 8 ||| bZ (decide (r = 0)) 4) ||| bZ (decide (¬ (¬ lg_cmp y 0 < 0 ∧ lg_cmp y (al s) ≤ 0))) 17) ||| bZ (decide (¬ lg_cmp z (f_X10_extended r s).toInt64 = 0)) 2))) := by
  rw [← sum_fl _ _ _ _ _ (by rcases hh with rfl | rfl <;> decide)]
  have n1 : ¬ how = 1 := by rcases hh with rfl | rfl <;> decide
  have e1 : f_X11_sum s a b less how B = f_X11_sum_113 s how (al s) y z B := by
    unfold f_X11_sum f_X11_sum_30 f_X11_sum_31 f_X11_sum_71
    rw [if_neg n1, hy, hz]
    by_cases c : less = 0 <;> simp [c, al, mask_eq, ext_eq]
  rw [e1]
  unfold f_X11_sum_113
  rw [← hr]
  unfold f_X11_sum_138 f_X11_sum_143 f_X11_sum_162 f_X11_sum_186 f_X11_sum_190 f_X11_sum_191 f_X11_sum_214
  rw [ext_eq]
  have n01 : ¬ (0 : Int32) = 1 := by decide
  have h2 : (2 ≤ how) ↔ ¬ how = 0 := by rcases hh with rfl | rfl <;> decide
  have h15 : ((if how = 0 then (31 : Int32) else 15) = 15) ↔ ¬ how = 0 := by rcases hh with rfl | rfl <;> decide
  simp only [h2, h15]
  generalize lg_cmp z (f_X10_extended r s).toInt64 = g2
  generalize f_X10_extended r s = g3
  by_cases c0 : how = 0 <;> by_cases c1 : lg_cmp y 0 < 0 <;> by_cases c2 : lg_cmp y (al s) ≤ 0 <;> by_cases c3 : 0 ≤ g3 <;> by_cases c4 : r = 0 <;> by_cases c5 : g2 = 0 <;> simp only [n1, n01, c0, c1, c2, c3, c4, c5, xb_l, flag0, flag1, xup_xup, xs4, if_true, if_false, not_true, not_false_iff, decide_true, decide_false, and_true, true_and, and_self, and_false, false_and]

theorem has4_fl (st b : Int32) : (fl st 8 b) &&& 4 = st &&& 4 := by
  apply i32_ext
  intro i hi
  unfold fl
  simp only [Int32.toBitVec_or, Int32.toBitVec_and, Int32.toBitVec_xor, BitVec.getLsbD_or, BitVec.getLsbD_and, BitVec.getLsbD_xor, i32_m1 i hi]
  have e8 : (8 : Int32).toBitVec.getLsbD i = decide (3 = i) := by
    show (BitVec.twoPow 32 3).getLsbD i = _
    rw [BitVec.getLsbD_twoPow]; simp
  have e4 : (4 : Int32).toBitVec.getLsbD i = decide (2 = i) := by
    show (BitVec.twoPow 32 2).getLsbD i = _
    rw [BitVec.getLsbD_twoPow]; simp
  rw [e8, e4]
  by_cases c : 2 = i
  · have : ¬ 3 = i := by omega
    simp [this]
  · simp [c]
/-- the reference's sum in a chain -/
theorem sum_eq1 {s a b less : Int32} {B : St} {y z x : Int64} {r : Int32} (hx : x = if f_X11_has 16 B = 0 then 0 else 1) (hy : y = if less = 0 then (b.toInt64 &&& al s) + (a.toInt64 &&& al s) + x else (b.toInt64 &&& al s) - (a.toInt64 &&& al s) - x) (hz : z = if less = 0 then (f_X10_extended b s).toInt64 + (f_X10_extended a s).toInt64 + x else (f_X10_extended b s).toInt64 - (f_X10_extended a s).toInt64 - x) (hr : r = (y &&& al s).toInt32) : f_X11_sum s a b less 1 B = (r, xup B 14 2 (fl (B 14 2) (if r = 0 then 27 else 31) (((bZ (decide (¬ 0 ≤ f_X10_extended r s)) 8 ||| bZ (decide (r = 0)) 4) ||| bZ (decide (¬ (¬ lg_cmp y 0 < 0 ∧ lg_cmp y (al s) ≤ 0))) 17) ||| bZ (decide (¬ lg_cmp z (f_X10_extended r s).toInt64 = 0)) 2))) := by
  have e1 : f_X11_sum s a b less 1 B = f_X11_sum_113 s 1 (al s) y z B := by
    unfold f_X11_sum f_X11_sum_30 f_X11_sum_31 f_X11_sum_71
    rw [if_pos rfl, hy, hz, hx]
    by_cases c : less = 0 <;> by_cases c' : f_X11_has 16 B = 0 <;> simp [c, c', al, mask_eq, ext_eq]
  rw [e1]
  unfold f_X11_sum_113
  rw [← hr]
  unfold f_X11_sum_138 f_X11_sum_143 f_X11_sum_162 f_X11_sum_186 f_X11_sum_190 f_X11_sum_191 f_X11_sum_214
  rw [ext_eq]
  have h2 : ¬ (2 : Int32) ≤ 1 := by decide
  generalize lg_cmp z (f_X10_extended r s).toInt64 = g2
  generalize f_X10_extended r s = g3
  by_cases c4 : r = 0
  · have key : ∀ (n v c : Bool), (if f_X11_has 4 (xup B 14 2 (fl (B 14 2) 8 (bZ n 8))) = 0 then xup B 14 2 (fl (fl (fl (fl (fl (B 14 2) 8 (bZ n 8)) 4 (bZ false 4)) 2 (bZ v 2)) 1 (bZ c 1)) 16 (bZ c 16)) else xup B 14 2 (fl (fl (fl (fl (fl (B 14 2) 8 (bZ n 8)) 4 (bZ true 4)) 2 (bZ v 2)) 1 (bZ c 1)) 16 (bZ c 16))) = xup B 14 2 (fl (B 14 2) 27 (((bZ n 8 ||| 4) ||| bZ c 17) ||| bZ v 2)) := by
      intro n v c
      have k := keep4 (fl (B 14 2) 8 (bZ n 8))
      unfold f_X11_has
      rw [xs4]
      by_cases q : (fl (B 14 2) 8 (bZ n 8)) &&& 4 = 0
      · rw [if_pos q] at k
        rw [if_pos q, if_pos rfl, show bZ false 4 = 0 from rfl, k, sum_fc]
      · rw [if_neg q] at k
        rw [if_neg q, if_neg (by decide), show bZ true 4 = 4 from rfl, k, sum_fc]
    have fin : ∀ (n v c : Bool), (if f_X11_has 4 (xup B 14 2 (fl (B 14 2) 8 (bZ n 8))) = 0 then (r, xup B 14 2 (fl (fl (fl (fl (fl (B 14 2) 8 (bZ n 8)) 4 (bZ false 4)) 2 (bZ v 2)) 1 (bZ c 1)) 16 (bZ c 16))) else (r, xup B 14 2 (fl (fl (fl (fl (fl (B 14 2) 8 (bZ n 8)) 4 (bZ true 4)) 2 (bZ v 2)) 1 (bZ c 1)) 16 (bZ c 16)))) = (r, xup B 14 2 (fl (B 14 2) 27 (((bZ n 8 ||| bZ true 4) ||| bZ c 17) ||| bZ v 2))) := by
      intro n v c
      have := key n v c
      rw [show bZ true 4 = 4 from rfl] at this ⊢
      rw [← this]
      split <;> rfl
    by_cases c1 : lg_cmp y 0 < 0 <;> by_cases c2 : lg_cmp y (al s) ≤ 0 <;> by_cases c3 : 0 ≤ g3 <;> by_cases c5 : g2 = 0 <;> simp only [h2, c1, c2, c3, c4, c5, xb_l, flag0, flag1, xup_xup, xs4, if_true, if_false, not_true, not_false_iff, decide_true, decide_false, and_true, true_and, and_self, and_false, false_and] <;> (subst c4; exact fin _ _ _)
  · have k := fun n v c => sum_fl (st := B 14 2) n false v c 31 (Or.inl rfl)
    have k' : ∀ n v c, fl (fl (fl (fl (fl (B 14 2) 8 (bZ n 8)) 4 (bZ false 4)) 2 (bZ v 2)) 1 (bZ c 1)) 16 (bZ c 16) = fl (B 14 2) 31 (((bZ n 8 ||| bZ false 4) ||| bZ c 17) ||| bZ v 2) := by
      intro n v c
      rw [← k n v c, if_neg (by decide)]
    by_cases c1 : lg_cmp y 0 < 0 <;> by_cases c2 : lg_cmp y (al s) ≤ 0 <;> by_cases c3 : 0 ≤ g3 <;> by_cases c5 : g2 = 0 <;> simp only [h2, c1, c2, c3, c4, c5, xb_l, flag0, flag1, xup_xup, xs4, if_true, if_false, not_true, not_false_iff, decide_true, decide_false, and_true, true_and, and_self, and_false, false_and, k']

theorem sgn_y {sg less : Int32} (hl : sg = 1 ∧ less = 0 ∨ sg = -1 ∧ less = 1) (p q x : Int64) : p + sg.toInt64 * (q + x) = if less = 0 then p + q + x else p - q - x := by
  rcases hl with ⟨rfl, rfl⟩ | ⟨rfl, rfl⟩
  · rw [if_pos rfl, plainP]
  · rw [if_neg (by decide), plainM]
/-- the two sums -/
theorem sumR {D : Nat → Int32} {A B : St} {ch sg which how less s a a' b b' : Int32} (h : R id D A B) (hs : s = 0 ∨ s = 1 ∨ s = 2) (hc : (ch = 0 ∧ which = 31 ∧ how = 0) ∨ (ch = 1 ∧ which = 31 ∧ how = 1) ∨ (ch = 0 ∧ which = 15 ∧ how = 2)) (hl : sg = 1 ∧ less = 0 ∨ sg = -1 ∧ less = 1) (hab : A 4 10 = 0 → a &&& f_X10_maskOf s = a' &&& f_X10_maskOf s ∧ b &&& f_X10_maskOf s = b' &&& f_X10_maskOf s) : R id D (f_X1_total ch b a sg s which A).2 (f_X11_sum s a' b' less how B).2 ∧ ((f_X1_total ch b a sg s which A).2 4 10 = 0 → A 4 10 = 0 ∧ (f_X1_total ch b a sg s which A).1 = (f_X11_sum s a' b' less how B).1 ∧ rgS s (f_X1_total ch b a sg s which A).1) := by
  have core : ∀ (x : Int64) (y : Int64), A 4 10 = 0 → y = f_X10_withoutSign b s + sg.toInt64 * (f_X10_withoutSign a s + x) → y = if less = 0 then (b'.toInt64 &&& al s) + (a'.toInt64 &&& al s) + x else (b'.toInt64 &&& al s) - (a'.toInt64 &&& al s) - x := by
    intro x y e hy
    obtain ⟨h1, h2⟩ := hab e
    rw [hy, sgn_y hl, ws_cong hs h1, ws_cong hs h2, ws_eq hs, ws_eq hs]
  have coreZ : ∀ (x : Int64) (z : Int64), A 4 10 = 0 → z = (f_X10_extended b s).toInt64 + sg.toInt64 * ((f_X10_extended a s).toInt64 + x) → z = if less = 0 then (f_X10_extended b' s).toInt64 + (f_X10_extended a' s).toInt64 + x else (f_X10_extended b' s).toInt64 - (f_X10_extended a' s).toInt64 - x := by
    intro x z e hz
    obtain ⟨h1, h2⟩ := hab e
    rw [hz, sgn_y hl, ext_cong hs h1, ext_cong hs h2]
  have rg : ∀ y : Int64, rgS s (y.toInt32 &&& f_X10_maskOf s) := fun y => rgS_and
  have sg2 : ∀ r : Int32, rgS s r → f_X1_signs r s = bZ (decide (¬ 0 ≤ f_X10_extended r s)) 8 ||| bZ (decide (r = 0)) 4 := by
    intro r hr
    rw [signs_eq]
    have := ext0 hs hr
    simp only [this]
  have cc : ∀ y : Int64, decide (¬ lg_cmp y (f_X10_withoutSign (y.toInt32 &&& f_X10_maskOf s) s) = 0) = decide (¬ (¬ lg_cmp y 0 < 0 ∧ lg_cmp y (al s) ≤ 0)) := by
    intro y
    rw [decide_eq_decide, carry_iff hs]
  have fa : FA A (f_X1_total ch b a sg s which A).2 := fun p hp => fr_X1_total (xnot_sub hp rfl)
  have fb : FB B (f_X11_sum s a' b' less how B).2 := fun p j hp => g_X11_sum (x2_sub hp rfl)
  have e4 : (f_X1_total ch b a sg s which A).2 4 10 = A 4 10 := congrFun (fa 4 rfl) 10
  have main : A 4 10 = 0 → ∃ (r st st' : Int32), f_X1_total ch b a sg s which A = (r, xup A 2 18 st) ∧ f_X11_sum s a' b' less how B = (r, xup B 14 2 st') ∧ rgS s r ∧ st = st' ∧ st &&& 42783 = st := by
    intro e
    have g := h.g e
    rcases hc with ⟨rfl, rfl, rfl⟩ | ⟨rfl, rfl, rfl⟩ | ⟨rfl, rfl, rfl⟩
    · generalize hy : f_X10_withoutSign b s + sg.toInt64 * (f_X10_withoutSign a s + (0 : Int32).toInt64) = y
      generalize hz : (f_X10_extended b s).toInt64 + sg.toInt64 * ((f_X10_extended a s).toInt64 + (0 : Int32).toInt64) = z
      have t := total_eq (ch := 0) (b := b) (a := a) (sg := sg) (s := s) (which := 31) (A := A) (x := 0) (y := y) (z := z) rfl hy.symm hz.symm rfl
      rw [if_neg (fun q => q.1 rfl), show (31 : Int32) &&& (0 ^^^ (-1)) = 31 by decide] at t
      have u := sum_eq0 (s := s) (a := a') (b := b') (less := less) (how := 0) (B := B) (y := y) (z := z) (Or.inl rfl) (core 0 y e hy.symm) (coreZ 0 z e hz.symm) rfl
      rw [low_eq hs] at u
      refine ⟨_, _, _, t, u, rg y, ?_, ?_⟩
      · rw [sg2 _ (rg y), cc, g.s0]; rfl
      · exact fl_ok g.sr (by decide)
    · have hx : f_X1_x A = if f_X11_has 16 B = 0 then 0 else 1 := by
        unfold f_X1_x; rw [has_eq 16 g.s0]
      have hx' : (f_X1_x A).toInt64 = if f_X11_has 16 B = 0 then 0 else 1 := by
        rw [hx]; split <;> decide
      generalize hy : f_X10_withoutSign b s + sg.toInt64 * (f_X10_withoutSign a s + (f_X1_x A).toInt64) = y
      generalize hz : (f_X10_extended b s).toInt64 + sg.toInt64 * ((f_X10_extended a s).toInt64 + (f_X1_x A).toInt64) = z
      have t := total_eq (ch := 1) (b := b) (a := a) (sg := sg) (s := s) (which := 31) (A := A) (x := f_X1_x A) (y := y) (z := z) rfl hy.symm hz.symm rfl
      have u := sum_eq1 (s := s) (a := a') (b := b') (less := less) (B := B) (y := y) (z := z) (x := (f_X1_x A).toInt64) hx' (core _ y e hy.symm) (coreZ _ z e hz.symm) rfl
      rw [low_eq hs] at u
      refine ⟨_, _, _, t, u, rg y, ?_, ?_⟩
      · rw [sg2 _ (rg y), cc, g.s0]
        by_cases c : y.toInt32 &&& f_X10_maskOf s = 0
        · simp only [c, if_true]; rfl
        · simp only [c, if_false]; rfl
      · refine fl_ok g.sr ?_
        split <;> decide
    · generalize hy : f_X10_withoutSign b s + sg.toInt64 * (f_X10_withoutSign a s + (0 : Int32).toInt64) = y
      generalize hz : (f_X10_extended b s).toInt64 + sg.toInt64 * ((f_X10_extended a s).toInt64 + (0 : Int32).toInt64) = z
      have t := total_eq (ch := 0) (b := b) (a := a) (sg := sg) (s := s) (which := 15) (A := A) (x := 0) (y := y) (z := z) rfl hy.symm hz.symm rfl
      rw [if_neg (fun q => q.1 rfl), show (15 : Int32) &&& (0 ^^^ (-1)) = 15 by decide] at t
      have u := sum_eq0 (s := s) (a := a') (b := b') (less := less) (how := 2) (B := B) (y := y) (z := z) (Or.inr rfl) (core 0 y e hy.symm) (coreZ 0 z e hz.symm) rfl
      rw [low_eq hs] at u
      refine ⟨_, _, _, t, u, rg y, ?_, ?_⟩
      · rw [sg2 _ (rg y), cc, g.s0]; rfl
      · exact fl_ok g.sr (by decide)
  refine ⟨h.rg fa fb (fun e g => ?_), fun e => ?_⟩
  · obtain ⟨r, st, st', m1, m2, m3, m4, m5⟩ := main e
    rw [m1, m2]
    subst m4
    exact (h.sets (v := st) (v' := st) (fun _ => ⟨rfl, m5⟩)).g (by rw [xo4 rfl]; exact e)
  · rw [e4] at e
    obtain ⟨r, st, st', m1, m2, m3, m4, m5⟩ := main e
    rw [m1, m2]
    exact ⟨e, rfl, m3⟩
