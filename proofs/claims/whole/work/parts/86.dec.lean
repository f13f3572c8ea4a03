/-! the words of instructions and their parts -/
def wd (g r d z m l : Nat) : Int32 := nI (4096 * g + 512 * r + 256 * d + 64 * z + 8 * m + l)
theorem iusN {n k : Nat} (hn : n < 65536) (hk : k < 32) : ius (nI n) (nI k) = nI (n / 2 ^ k) := by
  apply Int32.toBitVec_inj.mp
  apply BitVec.eq_of_toNat_eq
  have : n / 2 ^ k ≤ n := Nat.div_le_self _ _
  rw [ius_nI _ k hk, BitVec.toNat_ushiftRight, pk_tn (by omega), pk_tn (by omega), Nat.shiftRight_eq_div_pow]
theorem sarN {n k : Nat} (hn : n < 65536) (hk : k < 32) : (nI n) >>> ((nI k) &&& 31) = nI (n / 2 ^ k) := by
  apply Int32.toInt_inj.mp
  have : n / 2 ^ k ≤ n := Nat.div_le_self _ _
  rw [nI_toInt (by omega)]
  show ((nI n) >>> ((nI k) &&& 31)).toBitVec.toInt = _
  rw [sar_nI _ k hk, BitVec.toInt_sshiftRight, Int.shiftRight_eq_div_pow]
  have : (nI n).toBitVec.toInt = (n : Int) := nI_toInt (by omega)
  rw [this]
  rfl
/-- the bounds of a word's parts -/
def wB (g r d z m l : Nat) : Prop := g < 16 ∧ r < 8 ∧ d < 2 ∧ z < 4 ∧ m < 8 ∧ l < 8
theorem wd_all {n : Nat} (hn : n < 65536) : ∃ g r d z m l, wB g r d z m l ∧ nI n = wd g r d z m l := by
  refine ⟨n / 4096, n / 512 % 8, n / 256 % 2, n / 64 % 4, n / 8 % 8, n % 8, ?_, ?_⟩
  · unfold wB; omega
  · unfold wd; congr 1; omega
theorem wd_g {g r d z m l : Nat} (h : wB g r d z m l) : ius (wd g r d z m l) 12 = nI g ∧ (wd g r d z m l) >>> ((12 : Int32) &&& 31) = nI g := by
  obtain ⟨h1, h2, h3, h4, h5, h6⟩ := h
  unfold wd
  rw [show (12 : Int32) = nI 12 from rfl, iusN (by omega) (by decide), sarN (by omega) (by decide)]
  have : (4096 * g + 512 * r + 256 * d + 64 * z + 8 * m + l) / 2 ^ 12 = g := by omega
  rw [this]; exact ⟨rfl, rfl⟩
theorem wd_r {g r d z m l : Nat} (h : wB g r d z m l) : (ius (wd g r d z m l) 9) &&& 7 = nI r ∧ ((wd g r d z m l) >>> ((9 : Int32) &&& 31)) &&& 7 = nI r := by
  obtain ⟨h1, h2, h3, h4, h5, h6⟩ := h
  unfold wd
  rw [show (9 : Int32) = nI 9 from rfl, iusN (by omega) (by decide), sarN (by omega) (by decide), pk_andN (by omega) 3 (by decide)]
  have : (4096 * g + 512 * r + 256 * d + 64 * z + 8 * m + l) / 2 ^ 9 % 2 ^ 3 = r := by omega
  rw [this]; exact ⟨rfl, rfl⟩
theorem wd_d {g r d z m l : Nat} (h : wB g r d z m l) : (ius (wd g r d z m l) 8) &&& 1 = nI d := by
  obtain ⟨h1, h2, h3, h4, h5, h6⟩ := h
  unfold wd
  rw [show (8 : Int32) = nI 8 from rfl, iusN (by omega) (by decide), pk_andN (by omega) 1 (by decide)]
  have : (4096 * g + 512 * r + 256 * d + 64 * z + 8 * m + l) / 2 ^ 8 % 2 ^ 1 = d := by omega
  rw [this]
theorem wd_cc {g r d z m l : Nat} (h : wB g r d z m l) : (ius (wd g r d z m l) 8) &&& 15 = nI (2 * r + d) ∧ ((wd g r d z m l) >>> ((8 : Int32) &&& 31)) &&& 15 = nI (2 * r + d) := by
  obtain ⟨h1, h2, h3, h4, h5, h6⟩ := h
  unfold wd
  rw [show (8 : Int32) = nI 8 from rfl, iusN (by omega) (by decide), sarN (by omega) (by decide), pk_andN (by omega) 4 (by decide)]
  have : (4096 * g + 512 * r + 256 * d + 64 * z + 8 * m + l) / 2 ^ 8 % 2 ^ 4 = 2 * r + d := by omega
  rw [this]; exact ⟨rfl, rfl⟩
theorem wd_z {g r d z m l : Nat} (h : wB g r d z m l) : (ius (wd g r d z m l) 6) &&& 3 = nI z ∧ ((wd g r d z m l) >>> ((6 : Int32) &&& 31)) &&& 3 = nI z := by
  obtain ⟨h1, h2, h3, h4, h5, h6⟩ := h
  unfold wd
  rw [show (6 : Int32) = nI 6 from rfl, iusN (by omega) (by decide), sarN (by omega) (by decide), pk_andN (by omega) 2 (by decide)]
  have : (4096 * g + 512 * r + 256 * d + 64 * z + 8 * m + l) / 2 ^ 6 % 2 ^ 2 = z := by omega
  rw [this]; exact ⟨rfl, rfl⟩
theorem wd_c {g r d z m l : Nat} (h : wB g r d z m l) : (ius (wd g r d z m l) 6) &&& 63 = nI (8 * r + (4 * d + z)) ∧ ((wd g r d z m l) >>> ((6 : Int32) &&& 31)) &&& 63 = nI (8 * r + (4 * d + z)) := by
  obtain ⟨h1, h2, h3, h4, h5, h6⟩ := h
  unfold wd
  rw [show (6 : Int32) = nI 6 from rfl, iusN (by omega) (by decide), sarN (by omega) (by decide), pk_andN (by omega) 6 (by decide)]
  have : (4096 * g + 512 * r + 256 * d + 64 * z + 8 * m + l) / 2 ^ 6 % 2 ^ 6 = 8 * r + (4 * d + z) := by omega
  rw [this]; exact ⟨rfl, rfl⟩
theorem wd_m {g r d z m l : Nat} (h : wB g r d z m l) : (ius (wd g r d z m l) 3) &&& 7 = nI m := by
  obtain ⟨h1, h2, h3, h4, h5, h6⟩ := h
  unfold wd
  rw [show (3 : Int32) = nI 3 from rfl, iusN (by omega) (by decide), pk_andN (by omega) 3 (by decide)]
  have : (4096 * g + 512 * r + 256 * d + 64 * z + 8 * m + l) / 2 ^ 3 % 2 ^ 3 = m := by omega
  rw [this]
theorem wd_e {g r d z m l : Nat} (h : wB g r d z m l) : (wd g r d z m l) &&& 63 = eB m l := by
  obtain ⟨h1, h2, h3, h4, h5, h6⟩ := h
  unfold wd eB
  rw [pk_andN (by omega) 6 (by decide)]
  congr 1; omega
theorem wd_l {g r d z m l : Nat} (h : wB g r d z m l) : (wd g r d z m l) &&& 7 = nI l := by
  obtain ⟨h1, h2, h3, h4, h5, h6⟩ := h
  unfold wd
  rw [pk_andN (by omega) 3 (by decide)]
  congr 1; omega
theorem wd_256 {g r d z m l : Nat} (h : wB g r d z m l) : ((wd g r d z m l) &&& 256 = 0) ↔ d = 0 := by
  have h' := h
  obtain ⟨h1, h2, h3, h4, h5, h6⟩ := h
  have e := andp (x := wd g r d z m l) (p := 256) (k := 8) (by decide) (by decide)
  rw [e]
  have e2 : (wd g r d z m l).toBitVec.getLsbD 8 = decide (d = 1) := by
    unfold wd
    show (BitVec.ofNat 32 _).getLsbD 8 = _
    rw [BitVec.getLsbD_ofNat, Nat.testBit_eq_decide_div_mod_eq]
    have : (4096 * g + 512 * r + 256 * d + 64 * z + 8 * m + l) / 2 ^ 8 % 2 = d := by omega
    rw [this]; simp
  rw [e2]
  rcases (show d = 0 ∨ d = 1 by omega) with rfl | rfl <;> simp
theorem wd_32 {g r d z m l : Nat} (h : wB g r d z m l) : ((wd g r d z m l) &&& 32 = 0) ↔ m < 4 := by
  obtain ⟨h1, h2, h3, h4, h5, h6⟩ := h
  have e := andp (x := wd g r d z m l) (p := 32) (k := 5) (by decide) (by decide)
  rw [e]
  have e2 : (wd g r d z m l).toBitVec.getLsbD 5 = decide (4 ≤ m) := by
    unfold wd
    show (BitVec.ofNat 32 _).getLsbD 5 = _
    rw [BitVec.getLsbD_ofNat, Nat.testBit_eq_decide_div_mod_eq]
    have : (4096 * g + 512 * r + 256 * d + 64 * z + 8 * m + l) / 2 ^ 5 % 2 = m / 4 := by omega
    rw [this]
    by_cases c : 4 ≤ m
    · have : m / 4 = 1 := by omega
      simp [c, this]
    · have : m / 4 = 0 := by omega
      simp [c, this]
  rw [e2]
  by_cases c : 4 ≤ m
  · simp [c]
  · simp [c]; omega
/-- kinds of operands, closed -/
theorem fitA : ∀ m l : Fin 8, ∀ s : Fin 3, f_X11_fits (eB m.val l.val) (nI s.val) 0 = f_X9_isAny (eB m.val l.val) (nI s.val) ∧ f_X11_fits (eB m.val l.val) (nI s.val) 8 = (if f_X9_isAny (eB m.val l.val) (nI s.val) = 0 then 0 else f_X9_isOpen (eB m.val l.val)) := by decide +kernel
theorem fitB : ∀ m l : Fin 8, ∀ s : Fin 4, f_X11_fits (eB m.val l.val) (nI s.val) 1 = f_X9_isData (eB m.val l.val) ∧ f_X11_fits (eB m.val l.val) (nI s.val) 9 = f_X9_isOpenData (eB m.val l.val) ∧ f_X11_fits (eB m.val l.val) (nI s.val) 10 = f_X9_isOpenMemory (eB m.val l.val) := by decide +kernel
theorem fitC : ∀ m l : Fin 8, f_X11_fits (eB m.val l.val) 2 4 = f_X9_isControl (eB m.val l.val) ∧ f_X11_fits (eB m.val l.val) 1 4 = f_X9_isControl (eB m.val l.val) ∧ f_X11_fits (eB m.val l.val) 1 12 = (if f_X9_isOpen (eB m.val l.val) = 0 then 0 else f_X9_isControl (eB m.val l.val)) := by decide +kernel
theorem kndA : ∀ m l : Fin 8, ∀ s : Fin 3, f_X9_isAny (eB m.val l.val) (nI s.val) = b2i (decide ((m.val < 7 ∨ l.val ≤ 4) ∧ ¬ (m.val = 1 ∧ s.val = 0))) := by decide +kernel
theorem kndB : ∀ m l : Fin 8, f_X9_isOpen (eB m.val l.val) = b2i (decide (m.val < 7 ∨ l.val ≤ 1)) ∧ f_X9_isData (eB m.val l.val) = b2i (decide ((m.val < 7 ∨ l.val ≤ 4) ∧ ¬ m.val = 1)) ∧ f_X9_isOpenData (eB m.val l.val) = b2i (decide ((m.val < 7 ∨ l.val ≤ 1) ∧ ¬ m.val = 1)) ∧ f_X9_isOpenMemory (eB m.val l.val) = b2i (decide ((m.val < 7 ∨ l.val ≤ 1) ∧ 2 ≤ m.val)) ∧ f_X9_isControl (eB m.val l.val) = b2i (decide (m.val = 2 ∨ m.val = 5 ∨ m.val = 6 ∨ (m.val = 7 ∧ l.val ≤ 3))) := by decide +kernel
theorem b2d0 {p : Prop} [Decidable p] : b2i (decide p) = 0 ↔ ¬ p := by
  by_cases h : p <;> simp [h, b2i]
def EX (w : Int32) (q : Nat × St) : Prop := (f_X11_isLegal w = 0 ∧ q.1 = 65) ∨ (¬ f_X11_isLegal w = 0 ∧ q.1 < 62 ∧ (opP.getD q.1 0 = 0 ↔ f_X11_isPrivileged w = 0) ∧ ∀ B, R id (q.2 11) (xup (xup q.2 12 6 0) 12 7 0) B → R id (q.2 11) (f_X4_perform q.1 q.2) (f_X11_perform w B))
/-- an operation with its fields -/
theorem EX_pair {w a2 a3 a4 a5 : Int32} {op : Nat} {M : St} (hw : M 11 0 = w) (hleg : f_X11_isLegal w = 0 ↔ a5 = 0) (hop : op < 62) (hpv : ¬ a5 = 0 → (opP.getD op 0 = 0 ↔ f_X11_isPrivileged w = 0)) (hx : ¬ a5 = 0 → ∀ (D : Nat → Int32) (N B : St), D 0 = w → D 1 = a4 → D 2 = a2 → D 3 = a3 → R id D (xup (xup N 12 6 0) 12 7 0) B → R id D (f_X4_perform op N) (f_X11_perform w B)) : EX w (f_X3_pair op a2 a3 a4 a5 M) := by
  unfold f_X3_pair
  by_cases c : a5 = 0
  · rw [if_pos c]
    exact Or.inl ⟨hleg.mpr c, rfl⟩
  · rw [if_neg c]
    refine Or.inr ⟨fun e => c (hleg.mp e), hop, hpv c, fun B hB => hx c _ _ B ?_ ?_ ?_ ?_ hB⟩
    · dsimp only; rw [xo4 rfl, xo4 rfl, xo4 rfl]; exact hw
    · dsimp only; rw [xs4]
    · dsimp only; rw [xo4 rfl, xo4 rfl, xs4]
    · dsimp only; rw [xo4 rfl, xs4]
theorem EX_lit {w : Int32} {op : Nat} {M : St} (hw : M 11 0 = w) (hleg : ¬ f_X11_isLegal w = 0) (hop : op < 62) (hpv : opP.getD op 0 = 0 ↔ f_X11_isPrivileged w = 0) (hx : ∀ (D : Nat → Int32) (N B : St), D 0 = w → R id D (xup (xup N 12 6 0) 12 7 0) B → R id D (f_X4_perform op N) (f_X11_perform w B)) : EX w (op, M) :=
  Or.inr ⟨hleg, hop, hpv, fun B hB => hx _ _ B hw hB⟩
theorem EX_not {w : Int32} {M : St} (hleg : f_X11_isLegal w = 0) : EX w (65, M) := Or.inl ⟨hleg, rfl⟩
