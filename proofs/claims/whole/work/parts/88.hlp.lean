/-! helpers for the groups -/
theorem nz3 {z : Nat} (h : z < 3) : ¬ nI z = 3 := fun e => by
  have := (nI_eq (a := z) (b := 3) (by omega) (by decide)).mp e
  omega
theorem sz3 {z : Nat} (h : z < 3) : nI z = 0 ∨ nI z = 1 ∨ nI z = 2 := by
  rcases (show z = 0 ∨ z = 1 ∨ z = 2 by omega) with rfl | rfl | rfl
  · exact Or.inl rfl
  · exact Or.inr (Or.inl rfl)
  · exact Or.inr (Or.inr rfl)
theorem anyE {m l z : Nat} (hm : m < 8) (hl : l < 8) (hz : z < 3) (h : ¬ f_X9_isAny (eB m l) (nI z) = 0) : okE m l ∧ ¬ (m = 1 ∧ z = 0) := by
  have k := kndA ⟨m, hm⟩ ⟨l, hl⟩ ⟨z, hz⟩
  dsimp only at k
  rw [k, b2d0] at h
  unfold okE
  omega
theorem opnE {m l : Nat} (hm : m < 8) (hl : l < 8) (h : ¬ f_X9_isOpen (eB m l) = 0) : m < 7 ∨ l ≤ 1 := by
  have k := (kndB ⟨m, hm⟩ ⟨l, hl⟩).1
  dsimp only at k
  rw [k, b2d0] at h
  omega
theorem datE {m l : Nat} (hm : m < 8) (hl : l < 8) (h : ¬ f_X9_isData (eB m l) = 0) : okE m l ∧ m ≠ 1 := by
  have k := (kndB ⟨m, hm⟩ ⟨l, hl⟩).2.1
  dsimp only at k
  rw [k, b2d0] at h
  unfold okE
  omega
theorem odE {m l : Nat} (hm : m < 8) (hl : l < 8) (h : ¬ f_X9_isOpenData (eB m l) = 0) : okW m l := by
  have k := (kndB ⟨m, hm⟩ ⟨l, hl⟩).2.2.1
  dsimp only at k
  rw [k, b2d0] at h
  unfold okW
  omega
theorem omE {m l : Nat} (hm : m < 8) (hl : l < 8) (h : ¬ f_X9_isOpenMemory (eB m l) = 0) : okW m l ∧ 2 ≤ m := by
  have k := (kndB ⟨m, hm⟩ ⟨l, hl⟩).2.2.2.1
  dsimp only at k
  rw [k, b2d0] at h
  unfold okW
  omega
theorem ctE {m l : Nat} (hm : m < 8) (hl : l < 8) (h : ¬ f_X9_isControl (eB m l) = 0) : m = 2 ∨ m = 5 ∨ m = 6 ∨ (m = 7 ∧ l ≤ 3) := by
  have k := (kndB ⟨m, hm⟩ ⟨l, hl⟩).2.2.2.2
  dsimp only at k
  rw [k, b2d0] at h
  omega
theorem e8 {m l : Nat} (hm : m < 8) (hl : l < 8) : (8 ≤ eB m l) ↔ 1 ≤ m := by
  have : (nI 8 ≤ nI (8 * m + l)) ↔ 8 ≤ 8 * m + l := nI_leI (by decide) (by omega)
  exact this.trans (by omega)
theorem e16 {m l : Nat} (hm : m < 8) (hl : l < 8) : (16 ≤ eB m l) ↔ 2 ≤ m := by
  have : (nI 16 ≤ nI (8 * m + l)) ↔ 16 ≤ 8 * m + l := nI_leI (by decide) (by omega)
  exact this.trans (by omega)
theorem bef4 : ∀ l : Fin 8, f_X9_before (nI l.val) = eB 4 l.val := by decide
theorem beh3 : ∀ l : Fin 8, f_X9_behind (nI l.val) = eB 3 l.val := by decide
theorem bef {l : Nat} (h : l < 8) : (32 : Int32) ||| nI l = eB 4 l := bef4 ⟨l, h⟩
theorem beh {l : Nat} (h : l < 8) : (24 : Int32) ||| nI l = eB 3 l := beh3 ⟨l, h⟩
theorem eBr {m l : Nat} (hm : m < 8) (hl : l < 8) : eB m l &&& 7 = nI l := eB_r ⟨m, hm⟩ ⟨l, hl⟩
theorem eBm {m l : Nat} (hm : m < 8) (hl : l < 8) : (eB m l) >>> ((3 : Int32) &&& 31) = nI m := eB_m ⟨m, hm⟩ ⟨l, hl⟩
theorem nIl {n : Nat} (h : n < 8) : (nI n).toNatClampNeg = n := nI_clamp (by omega)
theorem okW4 {l : Nat} (h : l < 8) : okW 4 l := by unfold okW; omega
theorem okE3 {l : Nat} (h : l < 8) : okE 3 l := by unfold okE; omega
theorem okE4 {l : Nat} (h : l < 8) : okE 4 l := by unfold okE; omega
theorem mm2 {x k : Int32} : (x &&& k) &&& k = x &&& k := by rw [Int32.and_assoc, Int32.and_self]
theorem mmx {x y k : Int32} : (x ^^^ (y &&& k)) &&& k = (x ^^^ y) &&& k := bt_ext (fun i _ => by
  simp only [bt_xor, bt_and]
  cases bt x i <;> cases bt y i <;> cases bt k i <;> rfl)
theorem mma {x y k : Int32} : (x &&& (y &&& k)) &&& k = (x &&& y) &&& k := bt_ext (fun i _ => by
  simp only [bt_and]
  cases bt x i <;> cases bt y i <;> cases bt k i <;> rfl)
theorem mmo {x y k : Int32} : (x ||| (y &&& k)) &&& k = (x ||| y) &&& k := bt_ext (fun i _ => by
  simp only [bt_or, bt_and]
  cases bt x i <;> cases bt y i <;> cases bt k i <;> rfl)
theorem EX_bad {w a2 a3 a4 : Int32} {op : Nat} {M : St} (hleg : f_X11_isLegal w = 0) : EX w (f_X3_pair op a2 a3 a4 0 M) := by
  unfold f_X3_pair
  rw [if_pos rfl]
  exact Or.inl ⟨hleg, rfl⟩
/-- after an error nothing but the devices counts -/
theorem R.bad {F : Int32 → Int32} {D : Nat → Int32} {A B A' B' : St} (h : R F D A B) (he : ¬ A 4 10 = 0) (hA : FA A A') (hB : FB B B') : R F D A' B' := h.rg hA hB (fun e => absurd e he)
theorem FA.r {A : St} : FA A A := fun _ _ => rfl
theorem FB.r {B : St} : FB B B := fun _ _ _ => rfl
theorem FA.x2 {A A' : St} {j : Nat} {v : Int32} (h : FA A A') : FA A (xup A' 2 j v) := fun p hp => (xup_other (xnot_at hp rfl)).trans (h p hp)
theorem FA.x12 {A A' : St} {j : Nat} {v : Int32} (h : FA A A') : FA A (xup A' 12 j v) := fun p hp => (xup_other (xnot_at hp rfl)).trans (h p hp)
theorem FA.i {A A1 A2 : St} {c : Prop} [Decidable c] (h1 : FA A A1) (h2 : FA A A2) : FA A (if c then A1 else A2) := by
  split
  · exact h1
  · exact h2
theorem FB.i {B B1 B2 : St} {c : Prop} [Decidable c] (h1 : FB B B1) (h2 : FB B B2) : FB B (if c then B1 else B2) := by
  split
  · exact h1
  · exact h2
theorem FB.x15 {B B' : St} {j : Nat} {v : Int32} (h : FB B B') : FB B (xup B' 15 j v) := fun p k hp => (xup_o2 (Or.inl (x2_place 15 hp rfl))).trans (h p k hp)
theorem FB.x2 {B B' : St} {v : Int32} (h : FB B B') : FB B (xup B' 14 2 v) := fun p k hp => (xup_o2 (x2_field 14 2 hp rfl)).trans (h p k hp)
theorem FB.x23 {B B' : St} {v : Int32} (h : FB B B') : FB B (xup B' 14 23 v) := fun p k hp => (xup_o2 (x2_field 14 23 hp rfl)).trans (h p k hp)
theorem FB.x24 {B B' : St} {v : Int32} (h : FB B B') : FB B (xup B' 14 24 v) := fun p k hp => (xup_o2 (x2_field 14 24 hp rfl)).trans (h p k hp)
/-- an address register changed by a source -/
theorem adr {D : Nat → Int32} {A B : St} {s : Int32} {m l r : Nat} (upd : Int32 → Int32 → Int32) (h : R id D A B) (hs : s = 0 ∨ s = 1 ∨ s = 2) (he : okE m l) (h2 : D 2 = eB m l) (h1 : D 1 = s) (h3 : D 3 = nI (8 + r)) (hr : r < 8) : R id D (xup (f_X4_readSource A).2 2 (8 + (((f_X4_readSource A).2 11 3) &&& 7)).toNatClampNeg (upd ((f_X4_readSource A).2 2 (8 + (((f_X4_readSource A).2 11 3) &&& 7)).toNatClampNeg) (f_X10_extended (f_X4_readSource A).1 ((f_X4_readSource A).2 11 1)))) (xup (f_X11_loadAt (eB m l) s B).2 15 (8 + nI r).toNatClampNeg (upd ((f_X11_loadAt (eB m l) s B).2 15 (8 + nI r).toNatClampNeg) (f_X11_extend (f_X11_loadAt (eB m l) s B).1 s))) := by
  obtain ⟨l1, l2⟩ := src (m := m) (r := l) h hs he h2 h1
  have e7 : nI (8 + r) &&& 7 = nI r := by rw [← eB1]; exact eBr (by decide) hr
  rw [l1.d, h3, h1, e7, n8r, nI_clamp (show 8 + r < 2 ^ 31 by omega)]
  exact l1.setr (by omega) (fun e => by rw [(l1.g e).reg (8 + r) (by omega), (l2 e).2.2.1]; rfl)
/-- flags and a whole register -/
theorem tst_set {D : Nat → Int32} {A B : St} {s v v' : Int32} {j : Nat} (h : R id D A B) (hj : j < 18) (hv : A 4 10 = 0 → v = v') : R id D (xup (f_X1_tested v s A).2 2 j (f_X1_tested v s A).1) (f_X11_test s v' (xup B 15 j v')) := by
  rw [tested_eq, test_eq]
  have p := (h.pend (f_X1_signs v s)).setr (j := j) (v := v) (v' := v') hj (fun e => hv (by rwa [xo4 rfl] at e))
  refine p.settle (fun e => ?_)
  rw [xo4 rfl, xo4 rfl] at e
  rw [hv e]
/-- two registers exchanged -/
theorem xch {F : Int32 → Int32} {D : Nat → Int32} {A B : St} {i j : Nat} (h : R F D A B) (hi : i < 18) (hj : j < 18) : R F D (xup (xup A 2 i (A 2 j)) 2 j (A 2 i)) (xup (xup B 15 j (B 15 i)) 15 i (B 15 j)) := by
  have e : xup (xup B 15 j (B 15 i)) 15 i (B 15 j) = xup (xup B 15 i (B 15 j)) 15 j (B 15 i) := by
    funext p k
    simp only [xup_ite]
    by_cases c1 : p = 15 ∧ k = i
    · by_cases c2 : p = 15 ∧ k = j
      · obtain ⟨rfl, rfl⟩ := c1
        obtain ⟨_, rfl⟩ := c2
        rw [if_pos ⟨rfl, rfl⟩]
      · rw [if_pos c1, if_neg c2, if_pos c1]
    · rw [if_neg c1, if_neg c1]
  rw [e]
  refine (h.setr hi (fun e => (h.g e).reg j hj)).setr hj (fun e => ?_)
  rw [xo4 rfl] at e
  exact (h.g e).reg i hi
/-- the kind of operand that the reference has found, error or not -/
theorem f25 {m l : Nat} {s : Int32} {B : St} (hs : s = 0 ∨ s = 1 ∨ s = 2) (he : okE m l) : (f_X11_find (eB m l) s B) 14 25 = if m = 0 then nI l else if m = 1 then nI (8 + l) else if m = 7 ∧ l = 4 then 17 else 16 := by
  have hm : m < 8 := by unfold okE at he; omega
  have hl : l < 8 := by unfold okE at he; omega
  rw [find35 hm hl]
  rcases (show m = 0 ∨ m = 1 ∨ m = 2 ∨ m = 3 ∨ m = 4 ∨ m = 5 ∨ m = 6 ∨ m = 7 by omega) with rfl | rfl | rfl | rfl | rfl | rfl | rfl | rfl
  · rw [fmo0, xo4 rfl, xs4]; rfl
  · rw [fmo1, xo4 rfl, xs4]; rfl
  · rw [fmo2, xo4 rfl, xs4]; rfl
  · rw [fmo3]; simp only [xb_l, if_true]; rw [xo4 rfl, xo4 rfl, xs4]; rfl
  · rw [fmo4]; simp only [xb_l, if_true]; rw [xo4 rfl, xo4 rfl, xs4]; rfl
  · rw [fmo5]; simp only [xb_l, if_true]; rw [xo4 rfl, g_X11_fetch rfl, xs4]; rfl
  · rw [fmo6]; simp only [xb_l, if_true]; rw [xo4 rfl, g_X11_index rfl, xs4]; rfl
  · have hl4 : l ≤ 4 := by unfold okE at he; omega
    rw [fmo7]
    rcases (show l = 0 ∨ l = 1 ∨ l = 2 ∨ l = 3 ∨ l = 4 by omega) with rfl | rfl | rfl | rfl | rfl
    · rw [fn0]; simp only [xb_l, if_true]; rw [xo4 rfl, g_X11_fetch rfl, xs4]; rfl
    · rw [fn1]; simp only [xb_l, if_true]; rw [xo4 rfl, g_X11_number rfl, xs4]; rfl
    · rw [fn2]; simp only [xb_l, if_true]; rw [xo4 rfl, g_X11_fetch rfl, xs4]; rfl
    · rw [fn3]; simp only [xb_l, if_true]; rw [xo4 rfl, g_X11_index rfl, xs4]; rfl
    · rw [fn4]; simp only [xb_l, if_true]; rw [xo4 rfl, g_X11_number rfl, xs4]; rfl
theorem f25W {m l : Nat} {s : Int32} {B : St} (hs : s = 0 ∨ s = 1 ∨ s = 2) (he : okW m l) : (f_X11_find (eB m l) s B) 14 25 = if m = 0 then nI l else 16 := by
  rw [f25 hs he.e]
  unfold okW at he
  by_cases c : m = 0
  · rw [if_pos c, if_pos c]
  · rw [if_neg c, if_neg c, if_neg (by omega), if_neg (by omega)]
theorem f26a {l : Nat} {s : Int32} {B : St} (hl : l < 8) : f_X11_find (eB 1 l) s B = xup (xup B 14 25 (nI (8 + l))) 14 26 (B 15 (8 + l)) := by
  rw [find35 (by decide) hl, fmo1, xo4 rfl, nI_clamp (show 8 + l < 2 ^ 31 by omega)]
theorem tested1 (v s : Int32) (A : St) : (f_X1_tested v s A).1 = v := rfl
theorem nzi {n : Nat} (h0 : n ≠ 0) (h : n < 8) : ¬ nI n = 0 := fun e => h0 ((nI_eq (a := n) (b := 0) (by omega) (by decide)).mp e)
theorem nze {n k : Nat} (h0 : n ≠ k) (h : n < 100) (hk : k < 100) : ¬ nI n = nI k := fun e => h0 ((nI_eq (a := n) (b := k) (by omega) (by omega)).mp e)
theorem nq_0 {n : Nat} (h : n ≠ 0) (hn : n < 100) : ¬ nI n = 0 := nze (k := 0) h hn (by decide)
theorem nq_1 {n : Nat} (h : n ≠ 1) (hn : n < 100) : ¬ nI n = 1 := nze (k := 1) h hn (by decide)
theorem nq_2 {n : Nat} (h : n ≠ 2) (hn : n < 100) : ¬ nI n = 2 := nze (k := 2) h hn (by decide)
theorem nq_3 {n : Nat} (h : n ≠ 3) (hn : n < 100) : ¬ nI n = 3 := nze (k := 3) h hn (by decide)
theorem nq_4 {n : Nat} (h : n ≠ 4) (hn : n < 100) : ¬ nI n = 4 := nze (k := 4) h hn (by decide)
theorem nq_5 {n : Nat} (h : n ≠ 5) (hn : n < 100) : ¬ nI n = 5 := nze (k := 5) h hn (by decide)
theorem nq_6 {n : Nat} (h : n ≠ 6) (hn : n < 100) : ¬ nI n = 6 := nze (k := 6) h hn (by decide)
theorem nq_7 {n : Nat} (h : n ≠ 7) (hn : n < 100) : ¬ nI n = 7 := nze (k := 7) h hn (by decide)
theorem nq_8 {n : Nat} (h : n ≠ 8) (hn : n < 100) : ¬ nI n = 8 := nze (k := 8) h hn (by decide)
theorem nq_9 {n : Nat} (h : n ≠ 9) (hn : n < 100) : ¬ nI n = 9 := nze (k := 9) h hn (by decide)
theorem nq_10 {n : Nat} (h : n ≠ 10) (hn : n < 100) : ¬ nI n = 10 := nze (k := 10) h hn (by decide)
theorem nq_11 {n : Nat} (h : n ≠ 11) (hn : n < 100) : ¬ nI n = 11 := nze (k := 11) h hn (by decide)
theorem nq_12 {n : Nat} (h : n ≠ 12) (hn : n < 100) : ¬ nI n = 12 := nze (k := 12) h hn (by decide)
theorem nq_13 {n : Nat} (h : n ≠ 13) (hn : n < 100) : ¬ nI n = 13 := nze (k := 13) h hn (by decide)
theorem nq_14 {n : Nat} (h : n ≠ 14) (hn : n < 100) : ¬ nI n = 14 := nze (k := 14) h hn (by decide)
theorem nq_15 {n : Nat} (h : n ≠ 15) (hn : n < 100) : ¬ nI n = 15 := nze (k := 15) h hn (by decide)
theorem nq_16 {n : Nat} (h : n ≠ 16) (hn : n < 100) : ¬ nI n = 16 := nze (k := 16) h hn (by decide)
theorem nq_17 {n : Nat} (h : n ≠ 17) (hn : n < 100) : ¬ nI n = 17 := nze (k := 17) h hn (by decide)
theorem nq_18 {n : Nat} (h : n ≠ 18) (hn : n < 100) : ¬ nI n = 18 := nze (k := 18) h hn (by decide)
theorem nq_19 {n : Nat} (h : n ≠ 19) (hn : n < 100) : ¬ nI n = 19 := nze (k := 19) h hn (by decide)
theorem nq_20 {n : Nat} (h : n ≠ 20) (hn : n < 100) : ¬ nI n = 20 := nze (k := 20) h hn (by decide)
theorem nq_21 {n : Nat} (h : n ≠ 21) (hn : n < 100) : ¬ nI n = 21 := nze (k := 21) h hn (by decide)
theorem nq_22 {n : Nat} (h : n ≠ 22) (hn : n < 100) : ¬ nI n = 22 := nze (k := 22) h hn (by decide)
theorem nq_23 {n : Nat} (h : n ≠ 23) (hn : n < 100) : ¬ nI n = 23 := nze (k := 23) h hn (by decide)
theorem nq_24 {n : Nat} (h : n ≠ 24) (hn : n < 100) : ¬ nI n = 24 := nze (k := 24) h hn (by decide)
theorem nq_25 {n : Nat} (h : n ≠ 25) (hn : n < 100) : ¬ nI n = 25 := nze (k := 25) h hn (by decide)
theorem nq_26 {n : Nat} (h : n ≠ 26) (hn : n < 100) : ¬ nI n = 26 := nze (k := 26) h hn (by decide)
theorem nq_27 {n : Nat} (h : n ≠ 27) (hn : n < 100) : ¬ nI n = 27 := nze (k := 27) h hn (by decide)
theorem nq_28 {n : Nat} (h : n ≠ 28) (hn : n < 100) : ¬ nI n = 28 := nze (k := 28) h hn (by decide)
