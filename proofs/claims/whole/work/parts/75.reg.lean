/-! registers, fetch, push, pull -/
theorem R.setr {F : Int32 → Int32} {D : Nat → Int32} {A B : St} {j : Nat} {v v' : Int32} (h : R F D A B) (hj : j < 18) (hv : A 4 10 = 0 → v = v') : R F D (xup A 2 j v) (xup B 15 j v') := by
  refine h.rg (fun p hp => xup_other (xnot_at hp rfl)) (fun p k hp => xup_o2 (Or.inl (x2_place 15 hp rfl))) (fun e g => ?_)
  have := hv e; subst this
  refine RG.mk (fun i hi => ?_) ?_ ?_ ?_ ?_
  · rw [xup_ite, xup_ite]
    by_cases c : i = j
    · subst c; simp
    · simp [c]; exact g.reg i hi
  · rw [xup_o2 (Or.inr (by omega)), xo4 rfl]; exact g.st
  · rw [xup_o2 (Or.inr (by omega))]; exact g.sr
  · rw [xo4 rfl, xo4 rfl]; exact g.tr
  · rw [xo4 rfl, xo4 rfl]; exact g.sp
theorem R.sets {F : Int32 → Int32} {D : Nat → Int32} {A B : St} {v v' : Int32} (h : R F D A B) (hv : A 4 10 = 0 → v = F v' ∧ v &&& 42783 = v) : R F D (xup A 2 18 v) (xup B 14 2 v') := by
  refine h.rg (fun p hp => xup_other (xnot_at hp rfl)) (fun p k hp => xup_o2 (x2_field 14 2 hp rfl)) (fun e g => ?_)
  obtain ⟨h1, h2⟩ := hv e
  refine RG.mk (fun i hi => ?_) ?_ ?_ ?_ ?_
  · rw [xup_o2 (Or.inr (by omega)), xo4 rfl]; exact g.reg i hi
  · rw [xs4, xs4]; exact h1
  · rw [xs4]; exact h2
  · rw [xo4 rfl, xo4 rfl]; exact g.tr
  · rw [xo4 rfl, xo4 rfl]; exact g.sp
theorem R.setA {F : Int32 → Int32} {D : Nat → Int32} {A B : St} {k : Nat} {v : Int32} (h : R F D A B) : R F D (xup A 10 k v) B := by
  refine h.rg (fun p hp => xup_other (xnot_at hp rfl)) (fun p k hp => rfl) (fun e g => ?_)
  refine RG.mk (fun i hi => ?_) ?_ ?_ ?_ ?_
  · rw [xo4 rfl]; exact g.reg i hi
  · rw [xo4 rfl]; exact g.st
  · rw [xo4 rfl]; exact g.sr
  · rw [xo4 rfl]; exact g.tr
  · rw [xo4 rfl]; exact g.sp
theorem R.set25 {F : Int32 → Int32} {D : Nat → Int32} {A B : St} {v : Int32} (h : R F D A B) : R F D A (xup B 14 25 v) := by
  refine h.rg (fun p hp => rfl) (fun p k hp => xup_o2 (x2_field 14 25 hp rfl)) (fun e g => ?_)
  exact RG.mk (fun i hi => by rw [xo4 rfl]; exact g.reg i hi) (by rw [xo4 rfl]; exact g.st) g.sr (by rw [xo4 rfl]; exact g.tr) (by rw [xo4 rfl]; exact g.sp)
theorem R.set26 {F : Int32 → Int32} {D : Nat → Int32} {A B : St} {v : Int32} (h : R F D A B) : R F D A (xup B 14 26 v) := by
  refine h.rg (fun p hp => rfl) (fun p k hp => xup_o2 (x2_field 14 26 hp rfl)) (fun e g => ?_)
  exact RG.mk (fun i hi => by rw [xo4 rfl]; exact g.reg i hi) (by rw [xo4 rfl]; exact g.st) g.sr (by rw [xo4 rfl]; exact g.tr) (by rw [xo4 rfl]; exact g.sp)
theorem R.trap {F : Int32 → Int32} {D : Nat → Int32} {A B : St} {v v' : Int32} (h : R F D A B) (hv : A 4 10 = 0 → v = v') : R F D (xup A 12 6 v) (xup B 14 23 v') := by
  refine h.rg (fun p hp => xup_other (xnot_at hp rfl)) (fun p k hp => xup_o2 (x2_field 14 23 hp rfl)) (fun e g => ?_)
  have := hv e; subst this
  exact RG.mk (fun i hi => by rw [xo4 rfl, xo4 rfl]; exact g.reg i hi) (by rw [xo4 rfl, xo4 rfl]; exact g.st) (by rw [xo4 rfl]; exact g.sr) (by rw [xs4, xs4]) (by rw [xo4 rfl, xo4 rfl]; exact g.sp)
theorem R.stops {F : Int32 → Int32} {D : Nat → Int32} {A B : St} {v v' : Int32} (h : R F D A B) (hv : A 4 10 = 0 → v = v') : R F D (xup A 12 7 v) (xup B 14 24 v') := by
  refine h.rg (fun p hp => xup_other (xnot_at hp rfl)) (fun p k hp => xup_o2 (x2_field 14 24 hp rfl)) (fun e g => ?_)
  have := hv e; subst this
  exact RG.mk (fun i hi => by rw [xo4 rfl, xo4 rfl]; exact g.reg i hi) (by rw [xo4 rfl, xo4 rfl]; exact g.st) (by rw [xo4 rfl]; exact g.sr) (by rw [xo4 rfl, xo4 rfl]; exact g.tr) (by rw [xs4, xs4])
theorem zero_shl16 : ((0 : Int32) <<< ((16 : Int32) &&& 31)) = 0 := by decide
theorem ftw_u (n : Nat) (x1 x2 x3 : Int32) (M : St) : f_X6_fetch_13 (n + 1) x1 x2 x3 M = (if x3 ≤ 0 then (if x1 = 0 then ((x2 &&& 255), M) else (x2, M)) else f_X6_fetch_13 n x1 ((x2 <<< ((16 : Int32) &&& 31)) ||| (f_X2_read (M 2 17) 1 3 M).1) (x3 + (-1)) (xup (f_X2_read (M 2 17) 1 3 M).2 2 17 ((f_X2_read (M 2 17) 1 3 M).2 2 17 + 2))) := rfl
theorem fetchC1 {A : St} : f_X6_fetch 1 A = ((f_X2_read (A 2 17) 1 3 A).1, xup (f_X2_read (A 2 17) 1 3 A).2 2 17 ((f_X2_read (A 2 17) 1 3 A).2 2 17 + 2)) := by
  unfold f_X6_fetch f_X6_fetch_12
  rw [if_neg (by decide), show (1 : Int32).toInt.toNat + 1 = 1 + 1 by decide, ftw_u, if_neg (by decide), show (1 : Int32) + (-1) = 0 by decide, ftw_u, if_pos (by decide), if_neg (by decide), zero_shl16, Int32.zero_or]
theorem fetchC0 {A : St} : f_X6_fetch 0 A = ((f_X6_fetch 1 A).1 &&& 255, (f_X6_fetch 1 A).2) := by
  rw [fetchC1]
  unfold f_X6_fetch f_X6_fetch_12
  rw [if_neg (by decide), show (1 : Int32).toInt.toNat + 1 = 1 + 1 by decide, ftw_u, if_neg (by decide), show (1 : Int32) + (-1) = 0 by decide, ftw_u, if_pos (by decide), if_pos (by decide), zero_shl16, Int32.zero_or]
theorem fetchC2 {A : St} : f_X6_fetch 2 A = (((f_X6_fetch 1 A).1 <<< ((16 : Int32) &&& 31)) ||| (f_X6_fetch 1 (f_X6_fetch 1 A).2).1, (f_X6_fetch 1 (f_X6_fetch 1 A).2).2) := by
  rw [fetchC1 (A := (f_X6_fetch 1 A).2), fetchC1]
  dsimp only
  unfold f_X6_fetch f_X6_fetch_12
  rw [if_pos rfl, show (2 : Int32).toInt.toNat + 1 = 1 + 1 + 1 by decide, ftw_u, if_neg (by decide), show (2 : Int32) + (-1) = 1 by decide, ftw_u, if_neg (by decide), show (1 : Int32) + (-1) = 0 by decide, ftw_u, if_pos (by decide), if_neg (by decide), zero_shl16, Int32.zero_or]
theorem fetch1 {F : Int32 → Int32} {D : Nat → Int32} {A B : St} (h : R F D A B) : RV F D (fun x y => x = y ∧ xrg 0 65535 x) (f_X6_fetch 1 A) (f_X11_fetch B) := by
  obtain ⟨h1, h2⟩ := rd (a := A 2 17) (a' := B 15 17) (s := 1) (way := 3) h (fun e => (h.g e).reg 17 (by decide)) (Or.inr (Or.inl rfl)) (by decide)
  rw [fetchC1]
  unfold f_X11_fetch f_X11_fetch_46
  rw [xb_l]
  generalize f_X2_read (A 2 17) 1 3 A = qa at *
  generalize f_X11_read (B 15 17) 1 3 B = qb at *
  have he : qb.2 14 20 = qa.2 4 10 := h1.b.err.1.symm
  rw [he]
  have hx : R F D (xup qa.2 2 17 (qa.2 2 17 + 2)) (if qa.2 4 10 = 0 then (qb.1, xup qb.2 15 (17 : Int32).toNatClampNeg (qb.2 15 17 + 2)) else (qb.1, xup qb.2 15 (17 : Int32).toNatClampNeg (qb.2 15 17))).2 := by
    by_cases e : qa.2 4 10 = 0
    · rw [if_pos e]
      exact h1.setr (j := 17) (by decide) (fun _ => by rw [(h1.g e).reg 17 (by decide)])
    · rw [if_neg e]
      exact h1.setr (j := 17) (by decide) (fun g => absurd g e)
  refine ⟨hx, fun e => ?_⟩
  have e' : qa.2 4 10 = 0 := by
    have : (xup qa.2 2 17 (qa.2 2 17 + 2)) 4 10 = qa.2 4 10 := xo4 rfl
    exact this ▸ e
  rw [if_pos e']
  exact ⟨(h2 e').1, (h2 e').2.2 rfl⟩
theorem mask_eq (s : Int32) : f_X11_mask s = f_X10_maskOf s := rfl
theorem ext_eq (a s : Int32) : f_X11_extend a s = f_X10_extended a s := rfl
theorem and_self16 {x : Int32} (h : xrg 0 65535 x) : x &&& 65535 = x := by
  obtain ⟨j, hj, rfl⟩ := xrg_nat (n := 65536) h (by decide) (by decide)
  rw [pk_andN (by omega) 16 (by decide)]
  congr 1; omega
theorem and_self8 {x : Int32} (h : xrg 0 255 x) : x &&& 255 = x := by
  obtain ⟨j, hj, rfl⟩ := xrg_nat (n := 256) h (by decide) (by decide)
  rw [pk_andN (by omega) 8 (by decide)]
  congr 1; omega
theorem rgS_mask {s x : Int32} (hs : s = 0 ∨ s = 1 ∨ s = 2) (h : rgS s x) : x &&& f_X10_maskOf s = x := by
  rcases hs with rfl | rfl | rfl
  · exact and_self8 (h.1 rfl)
  · exact and_self16 (h.2 rfl)
  · exact Int32.and_neg_one
theorem rgS_and {s x : Int32} : rgS s (x &&& f_X10_maskOf s) := by
  refine ⟨fun e => ?_, fun e => ?_⟩
  · subst e; exact x_rg_and (by decide) (by decide)
  · subst e; exact x_rg_and (by decide) (by decide)
/-- the number of an instruction -/
theorem number {F : Int32 → Int32} {D : Nat → Int32} {A B : St} {s : Int32} (h : R F D A B) (hs : s = 0 ∨ s = 1 ∨ s = 2) : RV F D (fun x y => x = y ∧ rgS s x) (f_X6_fetch s A) (f_X11_number s B) := by
  have f1 := fetch1 h
  unfold f_X11_number
  rw [xb_l]
  rcases hs with rfl | rfl | rfl
  · rw [if_neg (by decide), fetchC0]
    refine ⟨f1.1, fun e => ?_⟩
    obtain ⟨g1, g2⟩ := f1.2 e
    dsimp only
    rw [g1]
    exact ⟨rfl, rgS_and (s := 0)⟩
  · rw [if_neg (by decide)]
    refine ⟨f1.1, fun e => ?_⟩
    obtain ⟨g1, g2⟩ := f1.2 e
    dsimp only
    rw [← g1]
    refine ⟨(and_self16 g2).symm, fun e => absurd e (by decide), fun _ => g2⟩
  · rw [if_pos (by decide), fetchC2, xb_l]
    have f2 := fetch1 f1.1
    unfold RV
    dsimp only
    refine ⟨f2.1, fun e => ?_⟩
    obtain ⟨g1, g2⟩ := f2.2 e
    have e0 : (f_X6_fetch 1 A).2 4 10 = 0 := by
      by_cases c : (f_X6_fetch 1 A).2 4 10 = 0
      · exact c
      · exfalso
        have : (f_X6_fetch 1 (f_X6_fetch 1 A).2).2 4 10 = (f_X6_fetch 1 A).2 4 10 := by
          generalize (f_X6_fetch 1 A).2 = N at c
          rw [fetchC1]
          dsimp only
          rw [xo4 rfl]
          unfold f_X2_read f_X2_allows
          simp only [xb_l, if_neg c, if_true]
        exact c (this ▸ e)
    obtain ⟨g3, g4⟩ := f1.2 e0
    rw [g1, g3]
    exact ⟨rfl, fun e => absurd e (by decide), fun e => absurd e (by decide)⟩
theorem push {F : Int32 → Int32} {D : Nat → Int32} {A B : St} {s v v' : Int32} (h : R F D A B) (hs : s = 0 ∨ s = 1 ∨ s = 2) (hv : A 4 10 = 0 → v &&& f_X10_maskOf s = v' &&& f_X10_maskOf s) : R F D (f_X6_push s v A) (f_X11_push s v' B) := by
  unfold f_X6_push f_X11_push
  rw [xb_l, xb_l]
  refine wr (h.setr (j := 15) (by decide) (fun e => ?_)) (fun e => ?_) hs
  · rw [(h.g e).reg 15 (by decide)]; rfl
  · rw [xo4 rfl] at e
    exact ⟨by rw [(h.g e).reg 15 (by decide)]; rfl, hv e⟩
theorem pull {F : Int32 → Int32} {D : Nat → Int32} {A B : St} {s : Int32} (h : R F D A B) (hs : s = 0 ∨ s = 1 ∨ s = 2) : RV F D (fun x y => x = y ∧ rgS s x) (f_X6_pull s A) (f_X11_pull s B) := by
  obtain ⟨h1, h2⟩ := rd (a := A 2 15) (a' := B 15 15) (s := s) (way := 1) h (fun e => (h.g e).reg 15 (by decide)) hs (by decide)
  unfold f_X6_pull f_X11_pull
  rw [xb_l, xb_l]
  refine ⟨h1.setr (j := 15) (by decide) (fun e => ?_), fun e => ?_⟩
  · rw [(h1.g e).reg 15 (by decide)]; rfl
  · dsimp only at e ⊢
    rw [xo4 rfl] at e
    exact h2 e
