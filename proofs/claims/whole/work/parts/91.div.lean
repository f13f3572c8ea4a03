/-! division -/
theorem mma' {x y k : Int32} : ((x &&& k) &&& y) &&& k = (y &&& x) &&& k := bt_ext (fun i _ => by
  simp only [bt_and]
  cases bt x i <;> cases bt y i <;> cases bt k i <;> rfl)
theorem mmo' {x y k : Int32} : ((x &&& k) ||| y) &&& k = (y ||| x) &&& k := bt_ext (fun i _ => by
  simp only [bt_or, bt_and]
  cases bt x i <;> cases bt y i <;> cases bt k i <;> rfl)
theorem a15 {k : Nat} (h : k < 16) : nI k &&& 15 = nI k := by rw [pk_andN (by omega) 4 (by decide), Nat.mod_eq_of_lt h]
theorem lowV {x y : Int32} : ((x <<< ((16 : Int32) &&& 31)) ||| (y &&& 65535)) &&& 65535 = (y &&& 65535) &&& 65535 := bt_ext (fun i hi => by
  have e1 : bt (x <<< ((16 : Int32) &&& 31)) i = (decide (16 ≤ i) && bt x (i - 16)) := bt_shl x 16 i (by decide) hi
  have e2 : bt 65535 i = decide (i ≤ 15) := bt_mask (s := 1) (Or.inr (Or.inl rfl)) i hi
  simp only [bt_or, bt_and, e1, e2]
  by_cases c : i ≤ 15
  · have : ¬ 16 ≤ i := by omega
    simp [c, this]
  · simp [c])
theorem fl32 (st : Int32) : fl (fl st 2 2) 1 0 = fl st 3 2 := by
  rw [fl_fl]
  exact fl_cong (by decide)
theorem divU {x a : Int32} (ha : xrg 0 65535 a) (h0 : ¬ a = 0) : 0 ≤ ((x.toInt64 &&& 4294967295) / a.toInt64).toInt := by
  have h1 : (x.toInt64 &&& 4294967295).toInt = x.toInt64.toInt % 4294967296 := andl _ _ 32 (by decide) (by decide)
  obtain ⟨j, hj, rfl⟩ := xrg_nat (n := 65536) ha (by decide) (by decide)
  have j0 : j ≠ 0 := fun e => h0 (by subst e; rfl)
  have h2 : (nI j).toInt64.toInt = (j : Int) := by rw [Int32.toInt_toInt64, nI_toInt (by omega)]
  have e1 := Int.emod_nonneg x.toInt64.toInt (b := 4294967296) (by decide)
  have e2 := Int.emod_lt_of_pos x.toInt64.toInt (b := 4294967296) (by decide)
  rw [Int64.toInt_div, h1, h2]
  generalize x.toInt64.toInt % 4294967296 = u at e1 e2
  have t1 : 0 ≤ u.tdiv j := Int.tdiv_nonneg e1 (by omega)
  have t2 : u.tdiv j ≤ u := Int.tdiv_le_self _ e1
  rw [Int.bmod_def]
  omega
theorem cmpS (y : Int64) : (lg_cmp y (f_X10_extended y.toInt32 1).toInt64 = 0) ↔ (¬ lg_cmp y (-32768) < 0 ∧ ¬ 0 < lg_cmp y 32767) := by
  have e : (f_X10_extended y.toInt32 1).toInt64.toInt = y.toInt.bmod 65536 := by
    rw [Int32.toInt_toInt64]
    show (y.toInt32.toInt16.toInt32).toInt = _
    rw [lg_i2s_toInt, Int64.toInt_toInt32]
    exact Int.bmod_bmod_of_dvd (by decide)
  have g : (0 < lg_cmp y 32767) ↔ ¬ (lg_cmp y 32767 ≤ 0) := Int32.not_le.symm
  rw [g, lg_cmp_eq, lg_cmp_lt, lg_cmp_le, Int64.lt_iff_toInt_lt, Int64.le_iff_toInt_le, ← Int64.toInt_inj, e, show (-32768 : Int64).toInt = -32768 by decide, show (32767 : Int64).toInt = 32767 by decide, Int.bmod_def]
  omega
theorem dvd {D : Nat → Int32} {A B : St} {r d : Nat} {a a' : Int32} (h : R id D A B) (hr : r < 8) (hd : d < 2) (qd : f_X3_bit8 A = nI d) (qr : f_X3_upperRegister A = nI r) (ha : A 4 10 = 0 → a = a' ∧ rgS 1 a) : R id D (f_X4_divide a A) (f_X11_divide (nI r) (if d = 0 then (B 15 r).toInt64 &&& 4294967295 else (B 15 r).toInt64) (if d = 0 then a' else a'.toInt16.toInt32) (nI d) B) := by
  by_cases e : A 4 10 = 0
  · obtain ⟨rfl, hrg⟩ := ha e
    have g := h.g e
    have e20 : B 14 20 = 0 := by rw [← h.b.err.1]; exact e
    have er := g.reg r (by omega)
    have z3 : ((if d = 0 then a else a.toInt16.toInt32) = 0) ↔ a = 0 := by
      split
      · exact Iff.rfl
      · exact ext0 (s := 1) (Or.inr (Or.inl rfl)) hrg
    have ok : ∀ (q u : Int64), R id D (f_X1_tested (q.toInt32 &&& 65535) 1 (xup A 2 r ((u.toInt32 <<< ((16 : Int32) &&& 31)) ||| (q.toInt32 &&& 65535)))).2 (f_X11_test 1 ((u.toInt32 <<< ((16 : Int32) &&& 31)) ||| (q.toInt32 &&& 65535)) (xup B 15 r ((u.toInt32 <<< ((16 : Int32) &&& 31)) ||| (q.toInt32 &&& 65535)))) := by
      intro q u
      refine (h.setr (by omega) (fun _ => rfl)).test (fun _ => ext_cong (Or.inr (Or.inl rfl)) ?_)
      exact lowV.symm
    have no : R id D (f_X8_changeFlags 3 2 A) (f_X11_flag 1 0 (f_X11_flag 2 1 B)) := by
      rw [changeFlags_eq, flag_eq, flag_eq, xs4, xup_xup, if_pos (show (0 : Int32) = 0 from rfl), if_neg (show ¬ (1 : Int32) = 0 by decide), fl32]
      exact h.flags (by decide) (fun _ => rfl)
    unfold f_X4_divide f_X11_divide
    simp only [xb_l, if_true]
    rw [if_pos e20, qd, qr, nIl hr, xs4, er]
    by_cases a0 : a = 0
    · rw [if_pos a0, if_pos (z3.mpr a0)]
      exact h.trap (fun _ => rfl)
    · rw [if_neg a0, if_neg (fun e => a0 (z3.mp e))]
      rcases (show d = 0 ∨ d = 1 by omega) with rfl | rfl
      · rw [if_neg (show ¬ nI 0 = 1 by decide), if_pos (show nI 0 = 0 from rfl), if_pos (show 0 = 0 from rfl), if_pos (show 0 = 0 from rfl)]
        have w2 : f_X10_withoutSign (B 15 r) 2 = (B 15 r).toInt64 &&& 4294967295 := (ws_eq (Or.inr (Or.inr rfl)) _).trans (congrArg _ (by decide))
        rw [w2]
        have nn := divU (x := B 15 r) (hrg.2 rfl) a0
        have cf := carry_iff (s := 1) (Or.inr (Or.inl rfl)) (((B 15 r).toInt64 &&& 4294967295) / a.toInt64)
        rw [ws_mask (Or.inr (Or.inl rfl)), show al 1 = 65535 by decide] at cf
        have n0 : ¬ lg_cmp (((B 15 r).toInt64 &&& 4294967295) / a.toInt64) 0 < 0 := by
          rw [lg_cmp_lt, Int64.lt_iff_toInt_lt, show (0 : Int64).toInt = 0 by decide]; omega
        by_cases c : lg_cmp (((B 15 r).toInt64 &&& 4294967295) / a.toInt64) 65535 ≤ 0
        · rw [if_pos (cf.mpr ⟨n0, c⟩), if_neg (Int32.not_lt.mpr c)]
          exact ok _ _
        · rw [if_neg (fun x => c (cf.mp x).2), if_pos (Int32.not_le.mp c)]
          exact no
      · rw [if_pos (show nI 1 = 1 from rfl), if_neg (show ¬ nI 1 = 0 by decide), if_neg (show ¬ 1 = 0 by decide), if_neg (show ¬ 1 = 0 by decide)]
        have cs := cmpS ((B 15 r).toInt64 / a.toInt16.toInt32.toInt64)
        rw [show f_X10_extended a 1 = a.toInt16.toInt32 from rfl]
        by_cases c1 : lg_cmp ((B 15 r).toInt64 / a.toInt16.toInt32.toInt64) (-32768) < 0
        · rw [if_neg (fun x => (cs.mp x).1 c1), if_pos c1]
          exact no
        · by_cases c2 : 0 < lg_cmp ((B 15 r).toInt64 / a.toInt16.toInt32.toInt64) 32767
          · rw [if_neg (fun x => (cs.mp x).2 c2), if_neg c1, if_pos c2]
            exact no
          · rw [if_pos (cs.mpr ⟨c1, c2⟩), if_neg c1, if_neg c2]
            exact ok _ _
  · refine h.bad e (fun p hp => fr_X4_divide (xnot_sub hp rfl)) ?_
    unfold f_X11_divide
    rw [if_neg (by rw [← h.b.err.1]; exact e)]
    exact FB.r
