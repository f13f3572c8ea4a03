/-! RANGES of ints, the store's invariant, posts -/
abbrev St : Type := Nat → Nat → Int32
def xrg (lo hi : Int) (x : Int32) : Prop := lo ≤ x.toInt ∧ x.toInt ≤ hi
theorem x_rgw {lo hi lo' hi' : Int} {x : Int32} (h : xrg lo hi x) (h1 : lo' ≤ lo) (h2 : hi ≤ hi') : xrg lo' hi' x := ⟨Int.le_trans h1 h.1, Int.le_trans h.2 h2⟩
theorem x_rgt (x : Int32) : xrg (-2147483648) 2147483647 x := ⟨Int32.le_toInt x, Int.le_of_lt_add_one (Int32.toInt_lt x)⟩
theorem x_rgc {x : Int32} {k : Int} (h : x.toInt = k) : xrg k k x := ⟨by rw [h]; exact Int.le_refl _, by rw [h]; exact Int.le_refl _⟩
theorem x_rgv {lo hi : Int} {x : Int32} {n : Nat} (h : xrg lo hi x) (h1 : 0 ≤ lo) (h2 : hi < n) : vp_in x n := vp_in_iff.mpr ⟨Int.le_trans h1 h.1, Int.lt_of_le_of_lt h.2 h2⟩
theorem x_rgb {x : Int32} (h : xrg 0 1 x) : x = 0 ∨ x = 1 := by
  obtain ⟨h1, h2⟩ := h
  rcases (show x.toInt = 0 ∨ x.toInt = 1 by omega) with h | h
  · exact Or.inl (Int32.toInt_inj.mp h)
  · exact Or.inr (Int32.toInt_inj.mp h)
theorem x_rg_toInt_add {a b c d : Int} {x y : Int32} (h : xrg a b x) (h' : xrg c d y) (h1 : -2147483648 ≤ a + c) (h2 : b + d ≤ 2147483647) : (x + y).toInt = x.toInt + y.toInt := by
  obtain ⟨p1, p2⟩ := h
  obtain ⟨q1, q2⟩ := h'
  rw [Int32.toInt_add]
  apply Int.bmod_eq_of_le <;> omega
theorem x_rg_add {a b c d : Int} {x y : Int32} (h : xrg a b x) (h' : xrg c d y) (h1 : -2147483648 ≤ a + c) (h2 : b + d ≤ 2147483647) : xrg (a + c) (b + d) (x + y) := by
  have e := x_rg_toInt_add h h' h1 h2
  obtain ⟨p1, p2⟩ := h
  obtain ⟨q1, q2⟩ := h'
  refine ⟨?_, ?_⟩ <;> rw [e] <;> omega
theorem x_rg_sub {a b c d : Int} {x y : Int32} (h : xrg a b x) (h' : xrg c d y) (h1 : -2147483648 ≤ a - d) (h2 : b - c ≤ 2147483647) : xrg (a - d) (b - c) (x - y) := by
  obtain ⟨p1, p2⟩ := h
  obtain ⟨q1, q2⟩ := h'
  have e : (x - y).toInt = x.toInt - y.toInt := by
    rw [Int32.toInt_sub]
    apply Int.bmod_eq_of_le <;> omega
  refine ⟨?_, ?_⟩ <;> rw [e] <;> omega
theorem x_rg_and {x m : Int32} {k : Int} (hm : m.toInt = k) (h0 : 0 ≤ k) : xrg 0 k (x &&& m) := by
  have hmn : m.toBitVec.toNat = k.toNat := by
    have h1 : m.toBitVec.toInt = k := hm
    rw [BitVec.toInt_eq_toNat_cond] at h1
    split at h1 <;> omega
  have hlt : m.toBitVec.toNat < 2 ^ 31 := by
    have h1 : m.toInt < 2 ^ 31 := Int32.toInt_lt m
    omega
  have hle : (x &&& m).toBitVec.toNat ≤ m.toBitVec.toNat := by
    show (x.toBitVec &&& m.toBitVec).toNat ≤ _
    rw [BitVec.toNat_and]
    exact Nat.and_le_right
  have e : (x &&& m).toInt = ((x &&& m).toBitVec.toNat : Int) := by
    show (x &&& m).toBitVec.toInt = _
    rw [BitVec.toInt_eq_toNat_of_lt]
    omega
  refine ⟨?_, ?_⟩ <;> rw [e] <;> omega
theorem x_rg_or {a b : Int} {x y : Int32} (k : Nat) (hk : k ≤ 30) (h : xrg 0 a x) (h' : xrg 0 b y) (h1 : a < 2 ^ k) (h2 : b < 2 ^ k) : xrg 0 (2 ^ k - 1) (x ||| y) := by
  have hpw : (2 : Int) ^ k ≤ 2 ^ 30 := by
    have := Nat.pow_le_pow_right (n := 2) (by omega) hk
    exact_mod_cast this
  have cv : ∀ z : Int32, ∀ c : Int, xrg 0 c z → c < 2 ^ k → z.toBitVec.toNat < 2 ^ k := by
    intro z c hz hc
    obtain ⟨z1, z2⟩ := hz
    have hz3 : z.toBitVec.toInt = z.toInt := rfl
    have hz4 : (z.toBitVec.toNat : Int) = z.toInt := by
      rw [← hz3, BitVec.toInt_eq_toNat_cond]
      split
      · rfl
      · rename_i hge
        rw [BitVec.toInt_eq_toNat_cond, if_neg hge] at hz3
        have := z.toBitVec.isLt
        omega
    have : (z.toBitVec.toNat : Int) < 2 ^ k := by omega
    exact_mod_cast this
  have hx := cv x a h h1
  have hy := cv y b h' h2
  have hor : (x ||| y).toBitVec.toNat < 2 ^ k := by
    show (x.toBitVec ||| y.toBitVec).toNat < _
    rw [BitVec.toNat_or]
    exact Nat.or_lt_two_pow hx hy
  have hor' : ((x ||| y).toBitVec.toNat : Int) < 2 ^ k := by exact_mod_cast hor
  have e : (x ||| y).toInt = ((x ||| y).toBitVec.toNat : Int) := by
    show (x ||| y).toBitVec.toInt = _
    rw [BitVec.toInt_eq_toNat_of_lt]
    omega
  refine ⟨?_, ?_⟩ <;> rw [e] <;> omega
theorem x_lt {x y : Int32} : x < y ↔ x.toInt < y.toInt := Int32.lt_iff_toInt_lt
theorem x_le {x y : Int32} : x ≤ y ↔ x.toInt ≤ y.toInt := Int32.le_iff_toInt_le
/-- what a comparison tells of its two sides -/
theorem x_c_lt {a b c d : Int} {x y : Int32} (h : xrg a b x) (h' : xrg c d y) (hc : x < y) : xrg a (d - 1) x ∧ xrg (a + 1) d y := by
  rw [x_lt] at hc; obtain ⟨p1, p2⟩ := h; obtain ⟨q1, q2⟩ := h'
  exact ⟨⟨p1, by omega⟩, ⟨by omega, q2⟩⟩
theorem x_c_nlt {a b c d : Int} {x y : Int32} (h : xrg a b x) (h' : xrg c d y) (hc : ¬ x < y) : xrg c b x ∧ xrg c b y := by
  rw [x_lt] at hc; obtain ⟨p1, p2⟩ := h; obtain ⟨q1, q2⟩ := h'
  exact ⟨⟨by omega, p2⟩, ⟨q1, by omega⟩⟩
theorem x_c_le {a b c d : Int} {x y : Int32} (h : xrg a b x) (h' : xrg c d y) (hc : x ≤ y) : xrg a d x ∧ xrg a d y := by
  rw [x_le] at hc; obtain ⟨p1, p2⟩ := h; obtain ⟨q1, q2⟩ := h'
  exact ⟨⟨p1, by omega⟩, ⟨by omega, q2⟩⟩
theorem x_c_nle {a b c d : Int} {x y : Int32} (h : xrg a b x) (h' : xrg c d y) (hc : ¬ x ≤ y) : xrg (c + 1) b x ∧ xrg c (b - 1) y := by
  rw [x_le] at hc; obtain ⟨p1, p2⟩ := h; obtain ⟨q1, q2⟩ := h'
  exact ⟨⟨by omega, p2⟩, ⟨q1, by omega⟩⟩
theorem x_c_eq {a b c d : Int} {x y : Int32} (h : xrg a b x) (h' : xrg c d y) (hc : x = y) : xrg c d x ∧ xrg a b y := by subst hc; exact ⟨h', h⟩
theorem x_c_ne {a b : Int} {x y : Int32} (h : xrg a b x) (hy : y.toInt = a) (hc : ¬ x = y) : xrg (a + 1) b x := by
  obtain ⟨p1, p2⟩ := h
  refine ⟨?_, p2⟩
  have : x.toInt ≠ y.toInt := fun e => hc (Int32.toInt_inj.mp e)
  omega
theorem x_c_neh {a b : Int} {x y : Int32} (h : xrg a b x) (hy : y.toInt = b) (hc : ¬ x = y) : xrg a (b - 1) x := by
  obtain ⟨p1, p2⟩ := h
  refine ⟨p1, ?_⟩
  have : x.toInt ≠ y.toInt := fun e => hc (Int32.toInt_inj.mp e)
  omega
/-- a name for a computed thing -/
def xb {α β : Sort _} (x : α) (f : α → β) : β := f x
/-- the store's invariant: ranges of fields -/
def Inv (I : List (Nat × Nat × Int × Int)) (M : St) : Prop := ∀ q ∈ I, xrg q.2.2.1 q.2.2.2 (M q.1 q.2.1)
theorem Inv.at {I : List (Nat × Nat × Int × Int)} {M : St} (h : Inv I M) (k : Nat) {p j : Nat} {lo hi : Int} (hk : I[k]? = some (p, j, lo, hi)) : xrg lo hi (M p j) := h _ (List.mem_of_getElem? hk)
theorem Inv.arr {I : List (Nat × Nat × Int × Int)} {M : St} (h : Inv I M) (p j : Nat) (v : Int32) (hn : I.all (fun q => decide (q.1 ≠ p)) = true) : Inv I (xup M p j v) := by
  intro q hq
  have h1 := List.all_eq_true.mp hn q hq
  simp only [decide_eq_true_eq] at h1
  rw [xup_other h1]
  exact h q hq
theorem Inv.fld {I : List (Nat × Nat × Int × Int)} {M : St} (h : Inv I M) (p j : Nat) (v : Int32) (hn : I.all (fun q => decide (q.1 ≠ p ∨ q.2.1 ≠ j)) = true) : Inv I (xup M p j v) := by
  intro q hq
  have h1 := List.all_eq_true.mp hn q hq
  simp only [decide_eq_true_eq] at h1
  by_cases hp : q.1 = p
  · rcases h1 with h1 | h1
    · exact absurd hp h1
    · rw [hp, xup_self]
      show xrg _ _ (upd (M p) j v q.2.1)
      rw [pk_un h1, ← hp]
      exact h q hq
  · rw [xup_other hp]
    exact h q hq
theorem Inv.set {I : List (Nat × Nat × Int × Int)} {M : St} (h : Inv I M) (p j : Nat) {v : Int32} {lo hi : Int} (hv : xrg lo hi v) (hn : I.all (fun q => decide (q.1 = p ∧ q.2.1 = j → q.2.2.1 ≤ lo ∧ hi ≤ q.2.2.2)) = true) : Inv I (xup M p j v) := by
  intro q hq
  have h1 := List.all_eq_true.mp hn q hq
  simp only [decide_eq_true_eq] at h1
  by_cases hp : q.1 = p
  · by_cases hj : q.2.1 = j
    · obtain ⟨h2, h3⟩ := h1 ⟨hp, hj⟩
      rw [hp, hj, xup_self]
      show xrg _ _ (upd (M p) j v j)
      rw [pk_us]
      exact x_rgw hv h2 h3
    · rw [hp, xup_self]
      show xrg _ _ (upd (M p) j v q.2.1)
      rw [pk_un hj, ← hp]
      exact h q hq
  · rw [xup_other hp]
    exact h q hq
/-- posts: an int and a store, a store, a long and a store, a constant of the enum and a store -/
def PoI (r : Int32) (M : St) (L : Nat → Nat → Int64) : Option Value → xG → Prop := fun v σ => v = some (.int r) ∧ σ = (M, L)
def PoV (M : St) (L : Nat → Nat → Int64) : Option Value → xG → Prop := fun v σ => v = none ∧ σ = (M, L)
def PoJ (r : Int64) (M : St) (L : Nat → Nat → Int64) : Option Value → xG → Prop := fun v σ => v = some (.long r) ∧ σ = (M, L)
def PoE (r : Nat) (M : St) (L : Nat → Nat → Int64) : Option Value → xG → Prop := fun v σ => v = some (.ref (1000 + r)) ∧ σ = (M, L)
def xfin (ret : Option FieldType) (lay : List xL) (Po : Option Value → xG → Prop) : Option Value → List xL → xG → Prop := fun v lay' σ' => lay' = lay ∧ xrok ret v ∧ (∀ w, v = some w → xrIn lay.length w) ∧ Po v σ'
theorem x_finI {rt : FieldType} {lay : List xL} {r : Int32} {M : St} {L : Nat → Nat → Int64} {P : Option Value → xG → Prop} (hr : narrow rt (.int r) = .int r) (hP : P (some (.int r)) (M, L)) : xfin (some rt) lay P (some (.int r)) lay (M, L) := ⟨rfl, hr, (fun w h => by cases h; trivial), hP⟩
theorem x_finV {lay : List xL} {M : St} {L : Nat → Nat → Int64} {P : Option Value → xG → Prop} (hP : P none (M, L)) : xfin none lay P none lay (M, L) := ⟨rfl, trivial, (fun w h => by cases h), hP⟩
theorem x_finJ {lay : List xL} {r : Int64} {M : St} {L : Nat → Nat → Int64} {P : Option Value → xG → Prop} (hP : P (some (.long r)) (M, L)) : xfin (some .long) lay P (some (.long r)) lay (M, L) := ⟨rfl, trivial, (fun w h => by cases h; trivial), hP⟩
theorem x_finE {C : String} {lay : List xL} {r : Nat} {M : St} {L : Nat → Nat → Int64} {P : Option Value → xG → Prop} (hP : P (some (.ref (1000 + r))) (M, L)) : xfin (some (.object C)) lay P (some (.ref (1000 + r))) lay (M, L) := ⟨rfl, trivial, (fun w h => by cases h; exact Or.inr (Nat.le_add_right _ _)), hP⟩
theorem x_nb {r : Int32} (h : xrg 0 1 r) : narrow .boolean (.int r) = .int r := (x_bool (x_rgb h)).1
def ius (x y : Int32) : Int32 := (x.toUInt32 >>> (y.toUInt32 &&& Int32.toUInt32 31)).toInt32
def lus (x : Int64) (y : Int32) : Int64 := (x.toUInt64 >>> (y.toInt64.toUInt64 &&& Int64.toUInt64 63)).toInt64
