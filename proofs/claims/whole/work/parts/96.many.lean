/-! many registers -/
theorem wr_err {A : St} {a s v : Int32} (h0 : ¬ A 4 10 = 0) : f_X2_write a s v A = A := by
  unfold f_X2_write f_X2_allows
  simp only [xb_l, if_neg h0, if_true]
theorem wrM_err {B : St} {a s v : Int32} (h0 : ¬ B 14 20 = 0) : f_X11_write a s v B = B := by
  unfold f_X11_write f_X11_fails
  simp only [xb_l, if_neg h0]
  rw [if_neg (by decide)]
theorem rdC_err {A : St} {a s w : Int32} (h0 : ¬ A 4 10 = 0) : f_X2_read a s w A = (0, A) := by
  unfold f_X2_read f_X2_allows
  simp only [xb_l, if_neg h0, if_true]
theorem rdM_err {B : St} {a s w : Int32} (h0 : ¬ B 14 20 = 0) : f_X11_read a s w B = (0, B) := by
  unfold f_X11_read f_X11_fails
  simp only [xb_l, if_neg h0]
  rw [if_neg (by decide)]
theorem bk {x : Int32} {k : Nat} (hx : xrg 0 65535 x) (hk : k < 32) : (ius x (nI k)) &&& 1 = (x >>> ((nI k) &&& 31)) &&& 1 := by
  obtain ⟨j, hj, rfl⟩ := xrg_nat (n := 65536) hx (by decide) (by decide)
  rw [iusN hj hk, sarN hj hk]
theorem smA_u (n : Nat) (x1 x2 x3 : Int32) (M : St) : f_X4_storeMany_60 (n + 1) x1 x2 x3 M = (if 16 ≤ x3 then M else (if ((ius x1 x3) &&& 1) = 0 then f_X4_storeMany_60 n x1 x2 (x3 + 1) M else f_X4_storeMany_60 n x1 (x2 + (f_X10_bytesOf ((f_X2_write x2 (M 11 1) (M 2 x3.toNatClampNeg) M) 11 1))) (x3 + 1) (f_X2_write x2 (M 11 1) (M 2 x3.toNatClampNeg) M))) := rfl
theorem smB_u (n : Nat) (x1 x2 x3 x4 : Int32) (M : St) : f_X4_storeManyBefore_24 (n + 1) x1 x2 x3 x4 M = (if 16 ≤ x4 then (xup M 2 x2.toNatClampNeg x3) else (if ((ius x1 x4) &&& 1) = 0 then f_X4_storeManyBefore_24 n x1 x2 x3 (x4 + 1) M else f_X4_storeManyBefore_24 n x1 x2 (x3 - (f_X10_bytesOf (M 11 1))) (x4 + 1) (f_X2_write (x3 - (f_X10_bytesOf (M 11 1))) (M 11 1) (M 2 (15 - x4).toNatClampNeg) M))) := rfl
theorem smM_o {n : Nat} {x1 x3 x4 x5 x6 x7 x8 : Int32} {M : St} (c : ¬ x3 = 4) : f_X11_extendOrStore_96 (n + 1) x1 x3 x4 x5 x6 x7 x8 M = (if 16 ≤ x8 then M else (if ((x5 >>> (x8 &&& 31)) &&& 1) = 0 then f_X11_extendOrStore_96 n x1 x3 x4 x5 x6 x7 (x8 + 1) M else f_X11_extendOrStore_96 n x1 x3 x4 x5 x6 (x7 + x6) (x8 + 1) (f_X11_write x7 x1 ((M 15 x8.toNatClampNeg) &&& (f_X11_mask x1)) M))) := by
  simp only [f_X11_extendOrStore_96, f_X11_extendOrStore_182, f_X11_extendOrStore_131, f_X11_extendOrStore_156, f_X11_extendOrStore_180, xb_l, if_neg c]
theorem smM_4 {n : Nat} {x1 x3 x4 x5 x6 x7 x8 : Int32} {M : St} (c : x3 = 4) : f_X11_extendOrStore_96 (n + 1) x1 x3 x4 x5 x6 x7 x8 M = (if 16 ≤ x8 then (xup M 15 (8 + x4).toNatClampNeg x7) else (if ((x5 >>> (x8 &&& 31)) &&& 1) = 0 then f_X11_extendOrStore_96 n x1 x3 x4 x5 x6 x7 (x8 + 1) M else f_X11_extendOrStore_96 n x1 x3 x4 x5 x6 (x7 - x6) (x8 + 1) (f_X11_write (x7 - x6) x1 ((M 15 (15 - x8).toNatClampNeg) &&& (f_X11_mask x1)) M))) := by
  simp only [f_X11_extendOrStore_96, f_X11_extendOrStore_182, f_X11_extendOrStore_131, f_X11_extendOrStore_156, f_X11_extendOrStore_180, xb_l, if_pos c]
theorem smA_err : ∀ (n : Nat) (li ad k : Int32) (A : St), ¬ A 4 10 = 0 → f_X4_storeMany_60 n li ad k A = A
  | 0, _, _, _, _, _ => rfl
  | n + 1, li, ad, k, A, h => by
    rw [smA_u, wr_err h, smA_err n _ _ _ A h, smA_err n _ _ _ A h, ite_self, ite_self]
theorem smB_err : ∀ (n : Nat) (li x2 ad k : Int32) (A : St), ¬ A 4 10 = 0 → FA A (f_X4_storeManyBefore_24 n li x2 ad k A)
  | 0, _, _, _, _, _, _ => FA.r
  | n + 1, li, x2, ad, k, A, h => by
    rw [smB_u, wr_err h]
    exact FA.i FA.r.x2 (FA.i (smB_err n _ _ _ _ A h) (smB_err n _ _ _ _ A h))
theorem smM_err {x1 x3 x4 x6 : Int32} : ∀ (n : Nat) (li ad k : Int32) (B : St), ¬ B 14 20 = 0 → FB B (f_X11_extendOrStore_96 n x1 x3 x4 li x6 ad k B)
  | 0, _, _, _, _, _ => FB.r
  | n + 1, li, ad, k, B, h => by
    by_cases c : x3 = 4
    · rw [smM_4 c, wrM_err h]
      exact FB.i FB.r.x15 (FB.i (smM_err n _ _ _ B h) (smM_err n _ _ _ B h))
    · rw [smM_o c, wrM_err h]
      exact FB.i FB.r (FB.i (smM_err n _ _ _ B h) (smM_err n _ _ _ B h))
theorem k16 {k : Nat} (h : k ≤ 16) : ((16 : Int32) ≤ nI k) ↔ 16 ≤ k := nI_leI (a := 16) (b := k) (by decide) (by omega)
theorem smA {D : Nat → Int32} {s x4 : Int32} {m : Nat} (hs : s = 0 ∨ s = 1 ∨ s = 2) (d1 : D 1 = s) (m4 : ¬ nI m = 4) : ∀ (n k : Nat) (ad ad' li li' : Int32) (A B : St), R id D A B → k ≤ 16 → 16 - k < n → (A 4 10 = 0 → ad = ad' ∧ li = li' ∧ xrg 0 65535 li) → R id D (f_X4_storeMany_60 n li ad (nI k) A) (f_X11_extendOrStore_96 n s (nI m) x4 li' ((1 : Int32) <<< (s &&& 31)) ad' (nI k) B)
  | 0, _, _, _, _, _, _, _, _, _, hn, _ => absurd hn (Nat.not_lt_zero _)
  | n + 1, k, ad, ad', li, li', A, B, h, hk, hn, hv => by
    by_cases e : A 4 10 = 0
    · obtain ⟨rfl, rfl, hx⟩ := hv e
      rw [smA_u, smM_o m4]
      by_cases c : 16 ≤ k
      · rw [if_pos ((k16 hk).mpr c), if_pos ((k16 hk).mpr c)]
        exact h
      · rw [if_neg (fun x => c ((k16 hk).mp x)), if_neg (fun x => c ((k16 hk).mp x)), bk hx (by omega), nI_1]
        by_cases cb : (li >>> ((nI k) &&& 31)) &&& 1 = 0
        · rw [if_pos cb, if_pos cb]
          exact smA hs d1 m4 n (k + 1) _ _ _ _ _ _ h (by omega) (by omega) (fun _ => ⟨rfl, rfl, hx⟩)
        · rw [if_neg cb, if_neg cb, nI_clamp (show k < 2 ^ 31 by omega), h.d, d1]
          have w := wr (a := ad) (a' := ad) (v := A 2 k) (v' := B 15 k &&& f_X11_mask s) h (fun e => ⟨rfl, by rw [(h.g e).reg k (by omega), mask_eq, mm2]⟩) hs
          rw [w.d, d1]
          exact smA hs d1 m4 n (k + 1) _ _ _ _ _ _ w (by omega) (by omega) (fun _ => ⟨rfl, rfl, hx⟩)
    · rw [smA_err _ _ _ _ A e]
      exact h.bad e FA.r (smM_err _ _ _ _ B (fun x => e (h.b.err.1.trans x)))
theorem smB {D : Nat → Int32} {s : Int32} {l : Nat} (hs : s = 0 ∨ s = 1 ∨ s = 2) (d1 : D 1 = s) (hl : l < 8) : ∀ (n k : Nat) (ad ad' li li' : Int32) (A B : St), R id D A B → k ≤ 16 → 16 - k < n → (A 4 10 = 0 → ad = ad' ∧ li = li' ∧ xrg 0 65535 li) → R id D (f_X4_storeManyBefore_24 n li (nI (8 + l)) ad (nI k) A) (f_X11_extendOrStore_96 n s (nI 4) (nI l) li' ((1 : Int32) <<< (s &&& 31)) ad' (nI k) B)
  | 0, _, _, _, _, _, _, _, _, _, hn, _ => absurd hn (Nat.not_lt_zero _)
  | n + 1, k, ad, ad', li, li', A, B, h, hk, hn, hv => by
    by_cases e : A 4 10 = 0
    · obtain ⟨rfl, rfl, hx⟩ := hv e
      rw [smB_u, smM_4 (show nI 4 = 4 from rfl)]
      by_cases c : 16 ≤ k
      · rw [if_pos ((k16 hk).mpr c), if_pos ((k16 hk).mpr c), n8r, nI_clamp (show 8 + l < 2 ^ 31 by omega)]
        exact h.setr (by omega) (fun _ => rfl)
      · rw [if_neg (fun x => c ((k16 hk).mp x)), if_neg (fun x => c ((k16 hk).mp x)), bk hx (by omega), nI_1]
        by_cases cb : (li >>> ((nI k) &&& 31)) &&& 1 = 0
        · rw [if_pos cb, if_pos cb]
          exact smB hs d1 hl n (k + 1) _ _ _ _ _ _ h (by omega) (by omega) (fun _ => ⟨rfl, rfl, hx⟩)
        · have e15 : (15 : Int32) - nI k = nI (15 - k) := by
            have := (show ∀ k : Fin 16, (15 : Int32) - nI k.val = nI (15 - k.val) by decide) ⟨k, by omega⟩
            exact this
          rw [if_neg cb, if_neg cb, e15, nI_clamp (show 15 - k < 2 ^ 31 by omega), h.d, d1]
          have w := wr (a := ad - f_X10_bytesOf s) (a' := ad - ((1 : Int32) <<< (s &&& 31))) (v := A 2 (15 - k)) (v' := B 15 (15 - k) &&& f_X11_mask s) h (fun e => ⟨rfl, by rw [(h.g e).reg (15 - k) (by omega), mask_eq, mm2]⟩) hs
          exact smB hs d1 hl n (k + 1) _ _ _ _ _ _ w (by omega) (by omega) (fun _ => ⟨rfl, rfl, hx⟩)
    · exact h.bad e (smB_err _ _ _ _ _ A e) (smM_err _ _ _ _ B (fun x => e (h.b.err.1.trans x)))
/-- where no size tells -/
theorem fszC {m l : Nat} {s : Int32} {A : St} (hl : l < 8) (ct : m = 2 ∨ m = 5 ∨ m = 6 ∨ (m = 7 ∧ l ≤ 3)) : f_X6_find (eB m l) s A = f_X6_find (eB m l) 1 A := by
  have hof := eB_of ⟨m, by omega⟩ ⟨l, hl⟩
  dsimp only at hof
  rcases ct with rfl | rfl | rfl | ⟨rfl, h3⟩
  · rw [fcl2 hof, fcl2 hof]
  · rw [fcl5 hof, fcl5 hof]
  · rw [fcl6 hof, fcl6 hof]
  · rcases (show l = 0 ∨ l = 1 ∨ l = 2 ∨ l = 3 by omega) with rfl | rfl | rfl | rfl
    · rw [fcl7 hof, fcl7 hof]
    · rw [fcl8 hof, fcl8 hof]
    · rw [fcl9 hof, fcl9 hof]
    · rw [fcl10 hof, fcl10 hof]
theorem findC {F : Int32 → Int32} {D : Nat → Int32} {A B : St} {m l : Nat} {s : Int32} (h : R F D A B) (hl : l < 8) (ct : m = 2 ∨ m = 5 ∨ m = 6 ∨ (m = 7 ∧ l ≤ 3)) : R F D (f_X6_find (eB m l) s A) (f_X11_find (eB m l) 1 B) ∧ ((f_X6_find (eB m l) s A) 4 10 = 0 → A 4 10 = 0 ∧ (f_X6_find (eB m l) s A) 10 3 = (f_X11_find (eB m l) 1 B) 14 26) := by
  have f := find (m := m) (r := l) (s := 1) h (by decide) (by unfold okE; omega)
  rw [fszC hl ct]
  refine ⟨f.1, fun e => ⟨(f.2 e).1, ?_⟩⟩
  have ro := (f.2 e).2
  unfold RO at ro
  rw [if_neg (by omega), if_neg (by omega)] at ro
  exact ro.2.2.2
theorem stM {D : Nat → Int32} {A B : St} {s : Int32} {m l : Nat} (h : R id D A B) (hs : s = 1 ∨ s = 2) (hl : l < 8) (d1 : D 1 = s) (d3 : D 3 = eB m l) (ct : m = 4 ∨ m = 2 ∨ m = 5 ∨ m = 6 ∨ (m = 7 ∧ l ≤ 3)) : R id D (f_X4_storeMany A) (f_X11_extendOrStore s (eB m l) B) := by
  have hs3 : s = 0 ∨ s = 1 ∨ s = 2 := by rcases hs with rfl | rfl <;> decide
  have hm : m < 8 := by omega
  obtain ⟨f1, f2⟩ := fetch1 h
  have hof := eB_of ⟨m, hm⟩ ⟨l, hl⟩
  dsimp only at hof
  unfold f_X4_storeMany f_X4_storeManyBefore f_X11_extendOrStore f_X11_extendOrStore_69 f_X11_extendOrStore_91
  simp only [xb_l, if_true]
  rw [f1.d, d3, d1, eBm hm hl, eBr hm hl, n8r, nI_clamp (show 8 + l < 2 ^ 31 by omega)]
  by_cases m4 : m = 4
  · subst m4
    rw [if_pos (show f_X9_of (eB 4 l) = 4 from hof), if_neg (show ¬ nI 4 = 0 by decide), if_pos (show nI 4 = 4 from rfl), if_pos (show nI 4 = 4 from rfl)]
    exact smB hs3 d1 hl 17 0 _ _ _ _ _ _ f1 (by decide) (by decide) (fun e => ⟨(f1.g e).reg (8 + l) (by omega), (f2 e).1, (f2 e).2⟩)
  · have n4 : ¬ nI m = 4 := nq_4 m4 (by omega)
    have hof4 : ¬ f_X9_of (eB m l) = 4 := by
      rw [hof]
      split
      · exact n4
      · exact nq_4 (by omega) (by omega)
    have fc := findC (s := s) f1 hl (show m = 2 ∨ m = 5 ∨ m = 6 ∨ (m = 7 ∧ l ≤ 3) by omega)
    rw [if_neg hof4, if_neg (nzi (by omega) hm), if_neg n4, if_neg n4]
    exact smA hs3 d1 n4 17 0 _ _ _ _ _ _ fc.1 (by decide) (by decide) (fun e => ⟨(fc.2 e).2, f2 (fc.2 e).1⟩)
/-- the relation but for one register -/
def RX (j : Nat) (D : Nat → Int32) (A B : St) : Prop := RB A B ∧ A 11 = D ∧ (A 4 10 = 0 → (∀ i, i < 18 → i ≠ j → A 2 i = B 15 i) ∧ A 2 18 = B 14 2 ∧ (A 2 18) &&& 42783 = A 2 18 ∧ A 12 6 = B 14 23 ∧ A 12 7 = B 14 24)
theorem RX.of {j : Nat} {D : Nat → Int32} {A B : St} (h : R id D A B) : RX j D A B := ⟨h.b, h.d, fun e => ⟨fun i hi _ => (h.g e).reg i hi, (h.g e).s0, (h.g e).sr, (h.g e).tr, (h.g e).sp⟩⟩
theorem RX.err {j : Nat} {D : Nat → Int32} {A B : St} (h : RX j D A B) (e : ¬ A 4 10 = 0) : R id D A B := R.mk h.1 h.2.1 (fun x => absurd x e) (fun _ => rfl)
theorem RX.all {j : Nat} {D : Nat → Int32} {A B : St} (h : RX j D A B) (hj : 18 ≤ j) : R id D A B := R.mk h.1 h.2.1 (fun e => RG.mk (fun i hi => (h.2.2 e).1 i hi (by omega)) (h.2.2 e).2.1 (h.2.2 e).2.2.1 (h.2.2 e).2.2.2.1 (h.2.2 e).2.2.2.2) (fun _ => rfl)
theorem RX.fin {j : Nat} {D : Nat → Int32} {A B : St} {v v' : Int32} (h : RX j D A B) (hj : j < 18) (hv : A 4 10 = 0 → v = v') : R id D (xup A 2 j v) (xup B 15 j v') := by
  refine R.mk (h.1.cg (fun p hp => xup_other (xnot_at hp rfl)) (fun p k hp => xup_o2 (Or.inl (x2_place 15 hp rfl)))) ((xup_other (by decide)).trans h.2.1) (fun e => ?_) (fun _ => rfl)
  rw [xup_o2 (Or.inl (by decide))] at e
  obtain ⟨g1, g2, g3, g4, g5⟩ := h.2.2 e
  have := hv e; subst this
  refine RG.mk (fun i hi => ?_) ?_ ?_ ?_ ?_
  · rw [xup_ite, xup_ite]
    by_cases c : i = j
    · subst c; simp
    · simp [c]; exact g1 i hi c
  · rw [xup_o2 (Or.inr (by omega)), xo4 rfl]; exact g2
  · rw [xup_o2 (Or.inr (by omega))]; exact g3
  · rw [xo4 rfl, xo4 rfl]; exact g4
  · rw [xo4 rfl, xo4 rfl]; exact g5
theorem RX.setr {j k : Nat} {D : Nat → Int32} {A B : St} {v v' : Int32} (h : RX j D A B) (hk : k < 18) (hv : A 4 10 = 0 → v = v') : RX j D (xup A 2 k v) (xup B 15 k v') := by
  refine ⟨h.1.cg (fun p hp => xup_other (xnot_at hp rfl)) (fun p k hp => xup_o2 (Or.inl (x2_place 15 hp rfl))), (xup_other (by decide)).trans h.2.1, fun e => ?_⟩
  rw [xup_o2 (Or.inl (by decide))] at e
  obtain ⟨g1, g2, g3, g4, g5⟩ := h.2.2 e
  have := hv e; subst this
  refine ⟨fun i hi hj => ?_, ?_, ?_, ?_, ?_⟩
  · rw [xup_ite, xup_ite]
    by_cases c : i = k
    · subst c; simp
    · simp [c]; exact g1 i hi hj
  · rw [xup_o2 (Or.inr (by omega)), xo4 rfl]; exact g2
  · rw [xup_o2 (Or.inr (by omega))]; exact g3
  · rw [xo4 rfl, xo4 rfl]; exact g4
  · rw [xo4 rfl, xo4 rfl]; exact g5
theorem RX.rd {j : Nat} {D : Nat → Int32} {A B : St} {a s : Int32} (h : RX j D A B) (e : A 4 10 = 0) (hs : s = 0 ∨ s = 1 ∨ s = 2) : RX j D (f_X2_read a s 1 A).2 (f_X11_read a s 1 B).2 ∧ ((f_X2_read a s 1 A).2 4 10 = 0 → (f_X2_read a s 1 A).1 = (f_X11_read a s 1 B).1) := by
  obtain ⟨g1, g2, g3, g4, g5⟩ := h.2.2 e
  have hS : supC A = supB B := by unfold supC supB; rw [g2]
  have c := rd_core (a := a) (way := 1) h.1 hS e hs (by decide)
  refine ⟨⟨c.1, (fr_X2_read rfl).trans h.2.1, fun _ => ?_⟩, fun x => (c.2 x).1⟩
  have a2 : (f_X2_read a s 1 A).2 2 = A 2 := fr_X2_read rfl
  have a12 : (f_X2_read a s 1 A).2 12 = A 12 := fr_X2_read rfl
  have b15 : ∀ i, (f_X11_read a s 1 B).2 15 i = B 15 i := fun i => g_X11_read rfl
  rw [a2, a12, g_X11_read rfl, g_X11_read rfl, g_X11_read rfl]
  exact ⟨fun i hi hj => by rw [b15]; exact g1 i hi hj, g2, g3, g4, g5⟩
theorem lmA_u (n : Nat) (x1 x2 x3 : Int32) (M : St) : f_X4_loadMany_40 (n + 1) x1 x2 x3 M = (if 16 ≤ x3 then (if (f_X9_of (M 11 2)) = 3 then (xup M 2 (8 + ((M 11 2) &&& 7)).toNatClampNeg x2) else M) else (if ((ius x1 x3) &&& 1) = 0 then f_X4_loadMany_40 n x1 x2 (x3 + 1) M else f_X4_loadMany_40 n x1 (x2 + (f_X10_bytesOf ((f_X2_read x2 (M 11 1) 1 M).2 11 1))) (x3 + 1) (xup (f_X2_read x2 (M 11 1) 1 M).2 2 x3.toNatClampNeg (f_X10_extended (f_X2_read x2 (M 11 1) 1 M).1 ((f_X2_read x2 (M 11 1) 1 M).2 11 1))))) := rfl
theorem lmM_u (n : Nat) (x1 x2 x3 x4 x5 x6 : Int32) (M : St) : f_X11_loadMany_53 (n + 1) x1 x2 x3 x4 x5 x6 M = (if 16 ≤ x6 then (if (x2 >>> ((3 : Int32) &&& 31)) = 3 then (xup M 15 x4.toNatClampNeg x5) else M) else (if ((x3 >>> (x6 &&& 31)) &&& 1) = 0 then f_X11_loadMany_53 n x1 x2 x3 x4 x5 (x6 + 1) M else f_X11_loadMany_53 n x1 x2 x3 x4 (x5 + ((1 : Int32) <<< (x1 &&& 31))) (x6 + 1) (xup (f_X11_read x5 x1 1 M).2 15 x6.toNatClampNeg (f_X11_extend (f_X11_read x5 x1 1 M).1 x1)))) := rfl
theorem lmA_err : ∀ (n : Nat) (li ad k : Int32) (A0 A : St), FA A0 A → ¬ A0 4 10 = 0 → FA A0 (f_X4_loadMany_40 n li ad k A)
  | 0, _, _, _, _, _, f, _ => f
  | n + 1, li, ad, k, A0, A, f, h => by
    have hA : ¬ A 4 10 = 0 := by rw [f 4 rfl]; exact h
    rw [lmA_u, rdC_err hA]
    exact FA.i (FA.i f.x2 f) (FA.i (lmA_err n _ _ _ A0 A f h) (lmA_err n _ _ _ A0 _ f.x2 h))
theorem lmM_err {x1 x2 x4 : Int32} : ∀ (n : Nat) (li ad k : Int32) (B0 B : St), FB B0 B → ¬ B0 14 20 = 0 → FB B0 (f_X11_loadMany_53 n x1 x2 li x4 ad k B)
  | 0, _, _, _, _, _, f, _ => f
  | n + 1, li, ad, k, B0, B, f, h => by
    have hB : ¬ B 14 20 = 0 := by rw [f 14 20 rfl]; exact h
    rw [lmM_u, rdM_err hB]
    exact FB.i (FB.i f.x15 f) (FB.i (lmM_err n _ _ _ B0 B f h) (lmM_err n _ _ _ B0 _ f.x15 h))
theorem lmX {D : Nat → Int32} {s : Int32} {m l : Nat} (hs : s = 0 ∨ s = 1 ∨ s = 2) (hm : m < 8) (hl : l < 8) (d1 : D 1 = s) (d2 : D 2 = eB m l) : ∀ (n k : Nat) (ad ad' li li' : Int32) (A B : St), RX (if m = 3 then 8 + l else 100) D A B → k ≤ 16 → 16 - k < n → (A 4 10 = 0 → ad = ad' ∧ li = li' ∧ xrg 0 65535 li) → R id D (f_X4_loadMany_40 n li ad (nI k) A) (f_X11_loadMany_53 n s (eB m l) li' (nI (8 + l)) ad' (nI k) B)
  | 0, _, _, _, _, _, _, _, _, _, hn, _ => absurd hn (Nat.not_lt_zero _)
  | n + 1, k, ad, ad', li, li', A, B, h, hk, hn, hv => by
    by_cases e : A 4 10 = 0
    · obtain ⟨rfl, rfl, hx⟩ := hv e
      rw [lmA_u, lmM_u, eBm hm hl]
      by_cases c : 16 ≤ k
      · rw [if_pos ((k16 hk).mpr c), if_pos ((k16 hk).mpr c), h.2.1, d2, eBr hm hl, n8r, nI_clamp (show 8 + l < 2 ^ 31 by omega)]
        have hof := eB_of ⟨m, hm⟩ ⟨l, hl⟩
        dsimp only at hof
        by_cases m3 : m = 3
        · subst m3
          rw [if_pos (show f_X9_of (eB 3 l) = 3 from hof), if_pos (show nI 3 = 3 from rfl)]
          rw [if_pos rfl] at h
          exact h.fin (by omega) (fun _ => rfl)
        · have n3 : ¬ nI m = 3 := nq_3 m3 (by omega)
          have hof3 : ¬ f_X9_of (eB m l) = 3 := by
            rw [hof]
            split
            · exact n3
            · exact nq_3 (by omega) (by omega)
          rw [if_neg hof3, if_neg n3]
          rw [if_neg m3] at h
          exact h.all (by decide)
      · rw [if_neg (fun x => c ((k16 hk).mp x)), if_neg (fun x => c ((k16 hk).mp x)), bk hx (by omega), nI_1]
        by_cases cb : (li >>> ((nI k) &&& 31)) &&& 1 = 0
        · rw [if_pos cb, if_pos cb]
          exact lmX hs hm hl d1 d2 n (k + 1) _ _ _ _ _ _ h (by omega) (by omega) (fun _ => ⟨rfl, rfl, hx⟩)
        · rw [if_neg cb, if_neg cb, nI_clamp (show k < 2 ^ 31 by omega), h.2.1, d1]
          obtain ⟨r1, r2⟩ := h.rd (a := ad) e hs
          rw [r1.2.1, d1]
          refine lmX hs hm hl d1 d2 n (k + 1) _ _ _ _ _ _ (r1.setr (by omega) (fun x => by rw [r2 x]; rfl)) (by omega) (by omega) (fun _ => ⟨rfl, rfl, hx⟩)
    · exact (h.err e).bad e (lmA_err _ _ _ _ A A FA.r e) (lmM_err _ _ _ _ B B FB.r (fun x => e (h.1.err.1.trans x)))
theorem ldM {D : Nat → Int32} {A B : St} {s : Int32} {m l : Nat} (h : R id D A B) (hs : s = 1 ∨ s = 2) (hl : l < 8) (d1 : D 1 = s) (d2 : D 2 = eB m l) (ct : m = 3 ∨ m = 2 ∨ m = 5 ∨ m = 6 ∨ (m = 7 ∧ l ≤ 3)) : R id D (f_X4_loadMany A) (f_X11_loadMany s (eB m l) B) := by
  have hs3 : s = 0 ∨ s = 1 ∨ s = 2 := by rcases hs with rfl | rfl <;> decide
  have hm : m < 8 := by omega
  obtain ⟨f1, f2⟩ := fetch1 h
  have hof := eB_of ⟨m, hm⟩ ⟨l, hl⟩
  dsimp only at hof
  unfold f_X4_loadMany f_X11_loadMany f_X11_loadMany_27 f_X11_loadMany_48
  simp only [xb_l, if_true]
  rw [f1.d, d2, d1, eBm hm hl, eBr hm hl, n8r, nI_clamp (show 8 + l < 2 ^ 31 by omega)]
  by_cases m3 : m = 3
  · subst m3
    rw [if_pos (show nI 3 = 3 from rfl), if_pos (show nI 3 = 3 from rfl), fcl3 hof, eBr (by decide) hl, n8r, nI_clamp (show 8 + l < 2 ^ 31 by omega)]
    rw [show (xup (xup (xup (f_X6_fetch 1 A).2 10 2 3) 10 3 ((f_X6_fetch 1 A).2 2 (8 + l))) 2 (8 + l) ((f_X6_fetch 1 A).2 2 (8 + l) + f_X6_stride (nI l) s)) 10 3 = (f_X6_fetch 1 A).2 2 (8 + l) by rw [xo4 rfl, xs4]]
    refine lmX hs3 (by decide) hl d1 d2 17 0 _ _ _ _ _ _ ?_ (by decide) (by decide) (fun e => ?_)
    · rw [if_pos rfl]
      have f3 : R id D (xup (xup (f_X6_fetch 1 A).2 10 2 3) 10 3 ((f_X6_fetch 1 A).2 2 (8 + l))) (f_X11_fetch B).2 := f1.setA.setA
      refine ⟨f3.b.cg (fun p hp => xup_other (xnot_at hp rfl)) (fun _ _ _ => rfl), (xup_other (by decide)).trans f3.d, fun e => ?_⟩
      rw [xup_o2 (Or.inl (by decide))] at e
      have g := f3.g e
      exact ⟨fun i hi hj => by rw [xup_o2 (Or.inr hj)]; exact g.reg i hi, by rw [xup_o2 (Or.inr (by omega))]; exact g.s0, by rw [xup_o2 (Or.inr (by omega))]; exact g.sr, by rw [xo4 rfl]; exact g.tr, by rw [xo4 rfl]; exact g.sp⟩
    · rw [xo4 rfl, xo4 rfl, xo4 rfl] at e
      exact ⟨(f1.g e).reg (8 + l) (by omega), (f2 e).1, (f2 e).2⟩
  · have n3 : ¬ nI m = 3 := nq_3 m3 (by omega)
    have fc := findC (s := s) f1 hl (show m = 2 ∨ m = 5 ∨ m = 6 ∨ (m = 7 ∧ l ≤ 3) by omega)
    rw [if_neg n3, if_neg n3]
    exact lmX hs3 hm hl d1 d2 17 0 _ _ _ _ _ _ (RX.of fc.1) (by decide) (by decide) (fun e => ⟨(fc.2 e).2, f2 (fc.2 e).1⟩)
