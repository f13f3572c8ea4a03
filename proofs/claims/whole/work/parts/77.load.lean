/-! load, store, the source -/
theorem load {F : Int32 → Int32} {D : Nat → Int32} {A B : St} {s : Int32} {m r : Nat} (h : R F D A B) (hs : s = 0 ∨ s = 1 ∨ s = 2) (he : okE m r) (ho : A 4 10 = 0 → RO s m r A B) : R F D (f_X6_read s A).2 (f_X11_load s B).2 ∧ ((f_X6_read s A).2 4 10 = 0 → A 4 10 = 0 ∧ RO s m r (f_X6_read s A).2 (f_X11_load s B).2 ∧ (f_X6_read s A).1 = (f_X11_load s B).1 ∧ rgS s (f_X6_read s A).1) := by
  unfold f_X6_read f_X11_load f_X11_load_47 f_X6_isRegister
  by_cases h0 : A 4 10 = 0
  · have hO := ho h0
    have hO' := hO
    unfold RO at hO
    by_cases c1 : m ≤ 1
    · rw [if_pos c1] at hO
      obtain ⟨⟨w1, w2⟩, o2, o3⟩ := hO
      have hk : 8 * m + r < 16 := by unfold okE at he; omega
      have n1 : ¬ A 10 2 = 11 := fun e => by rw [e] at w2; exact absurd w2 (by decide)
      have n2 : ¬ 1 < A 10 2 := by rw [x_lt]; show ¬ (1 : Int) < _; omega
      rw [if_neg n1, if_neg n2, if_neg (by decide), o2, o3]
      rw [show (16 : Int32) = nI 16 from rfl, show (17 : Int32) = nI 17 from rfl, if_neg (fun e => by rw [nI_eq (by omega) (by decide)] at e; omega), if_neg (fun e => by rw [nI_eq (by omega) (by decide)] at e; omega)]
      rw [pk_andN (by omega) 4 (by decide), nI_clamp (by omega), nI_clamp (by omega), Nat.mod_eq_of_lt hk]
      refine ⟨h, fun _ => ⟨h0, hO', ?_, rgS_and⟩⟩
      dsimp only
      rw [(h.g h0).reg _ (by omega)]; rfl
    · rw [if_neg c1] at hO
      by_cases c2 : m = 7 ∧ r = 4
      · rw [if_pos c2] at hO
        obtain ⟨o1, o2, o3, o4⟩ := hO
        rw [if_pos o1, o2, if_neg (by decide), if_pos rfl]
        refine ⟨h, fun _ => ⟨h0, hO', ?_, o4⟩⟩
        dsimp only
        rw [← o3, mask_eq, rgS_mask hs o4]
      · rw [if_neg c2] at hO
        obtain ⟨o1, o2, o3, o4⟩ := hO
        rw [if_neg o2, if_pos o1, if_pos rfl, if_pos o3, xb_l, xb_l]
        obtain ⟨r1, r2⟩ := rd (a := A 10 3) (a' := B 14 26) (s := s) (way := 1) h (fun _ => o4) hs (by decide)
        refine ⟨r1, fun e => ⟨h0, ?_, (r2 e).1, (r2 e).2⟩⟩
        exact hO'.w (fr_X2_read rfl) (g_X11_read rfl) (g_X11_read rfl)
  · obtain ⟨e1, e2⟩ := rd_err (a := A 10 3) (a' := B 14 26) (s := s) (way := 1) h.b h0
    rw [e1, e2, xb_l, xb_l]
    have k1 : (if A 10 2 = 11 then (A 10 3, A) else if (if 1 < A 10 2 then (0 : Int32) else 1) = 0 then ((0 : Int32), A) else (A 2 (A 10 3 &&& 15).toNatClampNeg &&& f_X10_maskOf s, A)).2 = A := by
      split
      · rfl
      · split <;> rfl
    have k2 : (if B 14 25 = 16 then ((0 : Int32), B) else if B 14 25 = 17 then (B 14 26 &&& f_X11_mask s, B) else (B 15 (B 14 25).toNatClampNeg &&& f_X11_mask s, B)).2 = B := by
      split
      · rfl
      · split <;> rfl
    refine ⟨?_, fun e => ?_⟩
    · have := h
      rw [← k1, ← k2] at this
      exact this
    · exfalso
      have : A 4 10 = 0 := by
        rw [← k1]; exact e
      exact h0 this
def okW (m r : Nat) : Prop := m = 0 ∧ r < 8 ∨ 2 ≤ m ∧ m < 7 ∧ r < 8 ∨ m = 7 ∧ r ≤ 3
theorem okW.e {m r : Nat} (h : okW m r) : okE m r := by unfold okW at h; unfold okE; omega
theorem store {F : Int32 → Int32} {D : Nat → Int32} {A B : St} {s v v' : Int32} {m r : Nat} (h : R F D A B) (hs : s = 0 ∨ s = 1 ∨ s = 2) (he : okW m r) (ho : A 4 10 = 0 → RO s m r A B ∧ v &&& f_X10_maskOf s = v' &&& f_X10_maskOf s) : R F D (f_X6_write s v A) (f_X11_store s v' B) ∧ ((f_X6_write s v A) 4 10 = 0 → A 4 10 = 0) := by
  unfold f_X6_write f_X11_store f_X6_isRegister
  by_cases h0 : A 4 10 = 0
  · refine ⟨?_, fun _ => h0⟩
    obtain ⟨hO, hv⟩ := ho h0
    unfold RO at hO
    by_cases c1 : m ≤ 1
    · rw [if_pos c1] at hO
      obtain ⟨⟨w1, w2⟩, o2, o3⟩ := hO
      have hk : 8 * m + r < 8 := by unfold okW at he; omega
      have n2 : ¬ 1 < A 10 2 := by rw [x_lt]; show ¬ (1 : Int) < _; omega
      rw [if_neg n2, if_neg (by decide), o2, o3]
      rw [show (16 : Int32) = nI 16 from rfl, show (8 : Int32) = nI 8 from rfl, if_neg (fun e => by rw [nI_eq (by omega) (by decide)] at e; omega), if_neg (fun e => by rw [nI_leI (by decide) (by omega)] at e; omega)]
      rw [pk_andN (by omega) 4 (by decide), nI_clamp (by omega), nI_clamp (by omega), Nat.mod_eq_of_lt (show 8 * m + r < 2 ^ 4 by omega), mask_eq, hv, (h.g h0).reg _ (by omega)]
      exact h.setr (by omega) (fun _ => rfl)
    · rw [if_neg c1] at hO
      have c2 : ¬ (m = 7 ∧ r = 4) := by unfold okW at he; omega
      rw [if_neg c2] at hO
      obtain ⟨o1, o2, o3, o4⟩ := hO
      rw [if_pos o1, if_pos rfl, if_pos o3, xb_l, xb_l]
      refine wr h (fun _ => ⟨o4, ?_⟩) hs
      rw [mask_eq, Int32.and_assoc, Int32.and_self]
      exact hv
  · have hb0 : ¬ B 14 20 = 0 := fun e => h0 (h.b.err.1.trans e)
    have e1 : f_X2_write (A 10 3) s v A = A := by
      unfold f_X2_write f_X2_allows
      simp only [xb_l, if_neg h0, if_true]
    have e2 : f_X11_write (B 14 26) s (v' &&& f_X11_mask s) B = B := by
      unfold f_X11_write f_X11_fails
      simp only [xb_l, if_neg hb0]
      rw [if_neg (by decide)]
    rw [e1, e2, xb_l, xb_l]
    have g : ∀ X Y : St, (X = A ∨ X = xup A 2 (A 10 3 &&& 15).toNatClampNeg ((A 2 (A 10 3 &&& 15).toNatClampNeg &&& (f_X10_maskOf s ^^^ -1)) ||| (v &&& f_X10_maskOf s))) → (Y = B ∨ Y = xup B 15 (B 14 25).toNatClampNeg ((B 15 (B 14 25).toNatClampNeg &&& (f_X11_mask s ^^^ -1)) ||| (v' &&& f_X11_mask s))) → R F D X Y ∧ (X 4 10 = 0 → A 4 10 = 0) := by
      intro X Y hX hY
      have x4 : X 4 10 = A 4 10 := by
        rcases hX with rfl | rfl
        · rfl
        · exact xup_o2 (Or.inl (by decide))
      refine ⟨h.rg (fun p hp => ?_) (fun p k hp => ?_) (fun e => absurd e h0), fun e => x4 ▸ e⟩
      · rcases hX with rfl | rfl
        · rfl
        · exact xup_other (xnot_at hp rfl)
      · rcases hY with rfl | rfl
        · rfl
        · exact xup_o2 (Or.inl (x2_place 15 hp rfl))
    apply g
    · split
      · exact Or.inl rfl
      · exact Or.inr rfl
    · split
      · exact Or.inl rfl
      · split
        · exact Or.inl rfl
        · exact Or.inr rfl
/-- find and load -/
theorem loadAt {F : Int32 → Int32} {D : Nat → Int32} {A B : St} {s : Int32} {m r : Nat} (h : R F D A B) (hs : s = 0 ∨ s = 1 ∨ s = 2) (he : okE m r) : (xb (f_X6_find (eB m r) s A) fun q1 => xb (f_X6_read s q1) fun q4 => R F D q4.2 (f_X11_loadAt (eB m r) s B).2 ∧ (q4.2 4 10 = 0 → A 4 10 = 0 ∧ RO s m r q4.2 (f_X11_loadAt (eB m r) s B).2 ∧ q4.1 = (f_X11_loadAt (eB m r) s B).1 ∧ rgS s q4.1)) := by
  obtain ⟨f1, f2⟩ := find (m := m) (r := r) h hs he
  obtain ⟨l1, l2⟩ := load (m := m) (r := r) f1 hs he (fun e => (f2 e).2)
  unfold f_X11_loadAt
  simp only [xb_l]
  exact ⟨l1, fun e => ⟨(f2 (l2 e).1).1, (l2 e).2⟩⟩
