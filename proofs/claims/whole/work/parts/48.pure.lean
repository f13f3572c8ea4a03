/-! what perform's callers know: DIVIDE comes with words, and its source is a word -/
def pdv (q : Nat × St) : Prop := q.1 = 17 → q.2 11 1 = 1
theorem pd_pair {a1 : Nat} {a2 a3 a4 a5 : Int32} {M : St} (h : a1 ≠ 17 ∨ a4 = 1) : pdv (f_X3_pair a1 a2 a3 a4 a5 M) := by
  unfold f_X3_pair pdv
  split
  · intro e; cases e
  · intro e
    rcases h with h | h
    · exact absurd e h
    · show a4 = 1; exact h
theorem pd_lit {k : Nat} {M : St} (h : k ≠ 17) : pdv (k, M) := fun e => absurd e h
theorem pd_ite {c : Prop} [Decidable c] {A B : Nat × St} (h1 : pdv A) (h2 : pdv B) : pdv (if c then A else B) := by
  split
  · exact h1
  · exact h2

theorem pn_ite {c : Prop} [Decidable c] {a b : Nat} (h1 : a ≠ 17) (h2 : b ≠ 17) : (if c then a else b) ≠ 17 := by
  split
  · exact h1
  · exact h2
theorem pd_moving_68 {x1 : Int32} {x2 : Int32} {x3 : Int32} {s0 : Nat} {M : St} (hs0 : s0 ≠ 17) : pdv (f_X3_moving_68 x1 x2 x3 s0 M) := by
  unfold f_X3_moving_68
  exact (pd_pair (Or.inl hs0))
theorem pd_moving_50 {x1 : Int32} {x2 : Int32} {s0 : Int32} {M : St} : pdv (f_X3_moving_50 x1 x2 s0 M) := by
  unfold f_X3_moving_50
  exact (pd_ite (pd_moving_68 (by decide)) (pd_moving_68 (by decide)))
theorem pd_moving_49 {x1 : Int32} {x2 : Int32} {M : St} : pdv (f_X3_moving_49 x1 x2 M) := by
  unfold f_X3_moving_49
  exact (pd_moving_50)
theorem pd_moving {M : St} : pdv (f_X3_moving M) := by
  unfold f_X3_moving
  exact (pd_ite (pd_moving_49) (pd_ite (pd_moving_49) (pd_ite (pd_moving_49) (pd_moving_50))))
theorem pd_single {a1 : Nat} {a2 : Int32} {a3 : Int32} {M : St} (ha1 : a1 ≠ 17) : pdv (f_X3_single a1 a2 a3 M) := by
  unfold f_X3_single
  exact (pd_pair (Or.inl ha1))
theorem pd_ofLastEight {M : St} : f_X3_ofLastEight M ≠ 17 := by
  unfold f_X3_ofLastEight
  exact (pn_ite (by decide) (pn_ite (by decide) (pn_ite (by decide) (pn_ite (by decide) (pn_ite (by decide) (pn_ite (by decide) (pn_ite (by decide) (pn_ite (by decide) (by decide)))))))))
theorem pd_withoutOperands {M : St} : f_X3_withoutOperands M ≠ 17 := by
  unfold f_X3_withoutOperands
  exact (pn_ite (by decide) (pn_ite (by decide) (pn_ite (by decide) (pn_ite (by decide) (pn_ite (by decide) (pn_ite (by decide) (pn_ite pd_ofLastEight (by decide))))))))
theorem pd_ofGroupThree_152 {x1 : Int32} {x2 : Int32} {M : St} : pdv (f_X3_ofGroupThree_152 x1 x2 M) := by
  unfold f_X3_ofGroupThree_152
  exact (pd_single (by decide))
theorem pd_ofGroupThree_172 {x1 : Int32} {x2 : Int32} {M : St} : pdv (f_X3_ofGroupThree_172 x1 x2 M) := by
  unfold f_X3_ofGroupThree_172
  exact (pd_single (by decide))
theorem pd_ofGroupThree_200 {x1 : Int32} {x2 : Int32} {M : St} : pdv (f_X3_ofGroupThree_200 x1 x2 M) := by
  unfold f_X3_ofGroupThree_200
  exact (pd_single (by decide))
theorem pd_ofGroupThree_229 {x1 : Int32} {x2 : Int32} {M : St} : pdv (f_X3_ofGroupThree_229 x1 x2 M) := by
  unfold f_X3_ofGroupThree_229
  exact (pd_single (by decide))
theorem pd_ofGroupThree_252 {x1 : Int32} {x2 : Int32} {M : St} : pdv (f_X3_ofGroupThree_252 x1 x2 M) := by
  unfold f_X3_ofGroupThree_252
  exact (pd_single (by decide))
theorem pd_ofGroupThree_310 {x1 : Int32} {M : St} : pdv (f_X3_ofGroupThree_310 x1 M) := by
  unfold f_X3_ofGroupThree_310
  exact (pd_ite (pd_single (by decide)) (pd_single (by decide)))
theorem pd_ofGroupThree_348 {x1 : Int32} {M : St} : pdv (f_X3_ofGroupThree_348 x1 M) := by
  unfold f_X3_ofGroupThree_348
  exact (pd_single (by decide))
theorem pd_ofGroupThree {M : St} : pdv (f_X3_ofGroupThree M) := by
  unfold f_X3_ofGroupThree
  exact (pd_ite (pd_ofGroupThree_152) (pd_ite (pd_ofGroupThree_152) (pd_ite (pd_ofGroupThree_152) (pd_ite (pd_single (by decide)) (pd_ite (pd_ofGroupThree_172) (pd_ite (pd_ofGroupThree_172) (pd_ite (pd_ofGroupThree_172) (pd_ite (pd_single (by decide)) (pd_ite (pd_ofGroupThree_200) (pd_ite (pd_ofGroupThree_200) (pd_ite (pd_ofGroupThree_200) (pd_ite (pd_single (by decide)) (pd_ite (pd_ofGroupThree_229) (pd_ite (pd_ofGroupThree_229) (pd_ite (pd_ofGroupThree_229) (pd_ite (pd_single (by decide)) (pd_ite (pd_ofGroupThree_252) (pd_ite (pd_ofGroupThree_252) (pd_ite (pd_ofGroupThree_252) (pd_ite (pd_single (by decide)) (pd_ite (pd_ite (pd_single (by decide)) (pd_single (by decide))) (pd_ite (pd_ofGroupThree_310) (pd_ite (pd_ofGroupThree_310) (pd_ite (pd_lit (by decide)) (pd_ite (pd_ofGroupThree_348) (pd_ite (pd_ofGroupThree_348) (pd_ite (pd_single (by decide)) (pd_ite (pd_single (by decide)) (pd_ite (pd_lit pd_withoutOperands) (pd_lit (by decide)))))))))))))))))))))))))))))))
theorem pd_withAddress_12 {x1 : Nat} {s0 : Int32} {M : St} (hx1 : x1 ≠ 17) : pdv (f_X3_withAddress_12 x1 s0 M) := by
  unfold f_X3_withAddress_12
  exact (pd_pair (Or.inl hx1))
theorem pd_withAddress {a1 : Nat} {M : St} (ha1 : a1 ≠ 17) : pdv (f_X3_withAddress a1 M) := by
  unfold f_X3_withAddress
  exact (pd_ite (pd_withAddress_12 ha1) (pd_withAddress_12 ha1))
theorem pd_summing {a1 : Nat} {a2 : Nat} {a3 : Nat} {M : St} (ha1 : a1 ≠ 17) (ha2 : a2 ≠ 17) (ha3 : a3 ≠ 17) : pdv (f_X3_summing a1 a2 a3 M) := by
  unfold f_X3_summing
  exact (pd_ite (pd_withAddress ha3) (pd_ite (pd_pair (Or.inl ha1)) (pd_ite (pd_pair (Or.inl ha2)) (pd_ite (pd_pair (Or.inl ha2)) (pd_pair (Or.inl ha1))))))
theorem pd_comparing {M : St} : pdv (f_X3_comparing M) := by
  unfold f_X3_comparing
  exact (pd_ite (pd_withAddress (by decide)) (pd_ite (pd_pair (Or.inl (by decide))) (pd_ite (pd_pair (Or.inl (by decide))) (pd_pair (Or.inl (by decide))))))
theorem pd_exchanging_62 {s0 : Int32} {s1 : Int32} {s2 : Int32} {s3 : Int32} {s4 : Nat} {M : St} (hs4 : s4 ≠ 17) : pdv (f_X3_exchanging_62 s0 s1 s2 s3 s4 M) := by
  unfold f_X3_exchanging_62
  exact (pd_pair (Or.inl hs4))
theorem pd_exchanging_57 {s0 : Int32} {s1 : Int32} {s2 : Int32} {s3 : Nat} {M : St} (hs3 : s3 ≠ 17) : pdv (f_X3_exchanging_57 s0 s1 s2 s3 M) := by
  unfold f_X3_exchanging_57
  exact (pd_exchanging_62 hs3)
theorem pd_exchanging_30 {s0 : Int32} {M : St} : pdv (f_X3_exchanging_30 s0 M) := by
  unfold f_X3_exchanging_30
  exact (pd_ite (pd_exchanging_57 (by decide)) (pd_ite (pd_exchanging_57 (by decide)) (pd_exchanging_62 (by decide))))
theorem pd_exchanging_26 {M : St} : pdv (f_X3_exchanging_26 M) := by
  unfold f_X3_exchanging_26
  exact (pd_exchanging_30)
theorem pd_exchanging {M : St} : pdv (f_X3_exchanging M) := by
  unfold f_X3_exchanging
  exact (pd_ite (pd_ite (pd_exchanging_30) (pd_exchanging_26)) (pd_exchanging_26))
theorem pd_joining_123 {x1 : Nat} {x3 : Nat} {x4 : Int32} {M : St} (hx1 : x1 ≠ 17) (hx3 : x3 ≠ 17) : pdv (f_X3_joining_123 x1 x3 x4 M) := by
  unfold f_X3_joining_123
  exact (pd_ite (pd_pair (Or.inl hx3)) (pd_ite (pd_exchanging) (pd_lit (by decide))))
theorem pd_joining {a1 : Nat} {a2 : Nat} {a3 : Nat} {M : St} (ha1 : a1 ≠ 17) (ha3 : a3 ≠ 17) : pdv (f_X3_joining a1 a2 a3 M) := by
  unfold f_X3_joining
  exact (pd_ite (pd_pair (Or.inr rfl)) (pd_ite (pd_pair (Or.inl ha1)) (pd_ite (pd_ite (pd_ite (pd_pair (Or.inl ha3)) (pd_joining_123 ha1 ha3)) (pd_joining_123 ha1 ha3)) (pd_pair (Or.inl ha1)))))
theorem pd_quick_85 {x1 : Int32} {s0 : Nat} {M : St} (hs0 : s0 ≠ 17) : pdv (f_X3_quick_85 x1 s0 M) := by
  unfold f_X3_quick_85
  exact (pd_single hs0)
theorem pd_quick_67 {s0 : Int32} {M : St} : pdv (f_X3_quick_67 s0 M) := by
  unfold f_X3_quick_67
  exact (pd_ite (pd_quick_85 (by decide)) (pd_quick_85 (by decide)))
theorem pd_quick_66 {M : St} : pdv (f_X3_quick_66 M) := by
  unfold f_X3_quick_66
  exact (pd_quick_67)
theorem pd_quick {M : St} : pdv (f_X3_quick M) := by
  unfold f_X3_quick
  exact (pd_ite (pd_ite (pd_lit (by decide)) (pd_single (by decide))) (pd_ite (pd_quick_66) (pd_ite (pd_quick_66) (pd_quick_67))))
theorem pd_bits_36 {x3 : Int32} {s0 : Int32} {s1 : Nat} {M : St} (hs1 : s1 ≠ 17) : pdv (f_X3_bits_36 x3 s0 s1 M) := by
  unfold f_X3_bits_36
  exact (pd_single hs1)
theorem pd_bits_18 {x1 : Nat} {s0 : Int32} {M : St} (hx1 : x1 ≠ 17) : pdv (f_X3_bits_18 x1 s0 M) := by
  unfold f_X3_bits_18
  exact (pd_ite (pd_bits_36 hx1) (pd_bits_36 hx1))
theorem pd_bits {a1 : Nat} {a2 : Int32} {M : St} (ha1 : a1 ≠ 17) : pdv (f_X3_bits a1 a2 M) := by
  unfold f_X3_bits
  exact (pd_ite (pd_bits_18 ha1) (pd_bits_18 ha1))
theorem pd_byRegister {M : St} : pdv (f_X3_byRegister M) := by
  unfold f_X3_byRegister
  exact (pd_ite (pd_lit (by decide)) (pd_bits (by decide)))
theorem pd_withNumber_100 {s0 : Int32} {s1 : Int32} {s2 : Int32} {s3 : Int32} {s4 : Nat} {M : St} (hs4 : s4 ≠ 17) : pdv (f_X3_withNumber_100 s0 s1 s2 s3 s4 M) := by
  unfold f_X3_withNumber_100
  exact (pd_pair (Or.inl hs4))
theorem pd_withNumber_99 {s0 : Int32} {s1 : Int32} {s2 : Int32} {s3 : Nat} {M : St} (hs3 : s3 ≠ 17) : pdv (f_X3_withNumber_99 s0 s1 s2 s3 M) := by
  unfold f_X3_withNumber_99
  exact (pd_withNumber_100 hs3)
theorem pd_withNumber_65 {x1 : Nat} {M : St} (hx1 : x1 ≠ 17) : pdv (f_X3_withNumber_65 x1 M) := by
  unfold f_X3_withNumber_65
  exact (pd_ite (pd_withNumber_99 hx1) (pd_ite (pd_withNumber_99 hx1) (pd_withNumber_100 hx1)))
theorem pd_withNumber_26 {x1 : Nat} {s0 : Int32} {M : St} (hx1 : x1 ≠ 17) : pdv (f_X3_withNumber_26 x1 s0 M) := by
  unfold f_X3_withNumber_26
  exact (pd_ite (pd_withNumber_65 hx1) (pd_ite (pd_ite (pd_withNumber_65 hx1) (pd_ite (pd_lit (by decide)) (pd_lit (by decide)))) (pd_withNumber_65 hx1)))
theorem pd_withNumber_21 {x1 : Nat} {M : St} (hx1 : x1 ≠ 17) : pdv (f_X3_withNumber_21 x1 M) := by
  unfold f_X3_withNumber_21
  exact (pd_withNumber_26 hx1)
theorem pd_withNumber {a1 : Nat} {M : St} (ha1 : a1 ≠ 17) : pdv (f_X3_withNumber a1 M) := by
  unfold f_X3_withNumber
  exact (pd_ite (pd_withNumber_21 ha1) (pd_ite (pd_withNumber_21 ha1) (pd_ite (pd_withNumber_21 ha1) (pd_withNumber_26 ha1))))
theorem pd_byNumber_108 {s0 : Int32} {s1 : Nat} {M : St} (hs1 : s1 ≠ 17) : pdv (f_X3_byNumber_108 s0 s1 M) := by
  unfold f_X3_byNumber_108
  exact (pd_bits hs1)
theorem pd_byNumber_107 {s0 : Nat} {M : St} (hs0 : s0 ≠ 17) : pdv (f_X3_byNumber_107 s0 M) := by
  unfold f_X3_byNumber_107
  exact (pd_byNumber_108 hs0)
theorem pd_byNumber {M : St} : pdv (f_X3_byNumber M) := by
  unfold f_X3_byNumber
  exact (pd_ite (pd_withNumber (by decide)) (pd_ite (pd_withNumber (by decide)) (pd_ite (pd_withNumber (by decide)) (pd_ite (pd_withNumber (by decide)) (pd_ite (pd_ite (pd_byNumber_107 (by decide)) (pd_ite (pd_byNumber_107 (by decide)) (pd_byNumber_108 (by decide)))) (pd_ite (pd_withNumber (by decide)) (pd_ite (pd_withNumber (by decide)) (pd_lit (by decide)))))))))
theorem pd_shifting_57 {s0 : Int32} {s1 : Int32} {s2 : Nat} {M : St} (hs2 : s2 ≠ 17) : pdv (f_X3_shifting_57 s0 s1 s2 M) := by
  unfold f_X3_shifting_57
  exact (pd_single hs2)
theorem pd_shifting_56 {s0 : Int32} {s1 : Nat} {M : St} (hs1 : s1 ≠ 17) : pdv (f_X3_shifting_56 s0 s1 M) := by
  unfold f_X3_shifting_56
  exact (pd_shifting_57 hs1)
theorem pd_shifting {M : St} : pdv (f_X3_shifting M) := by
  unfold f_X3_shifting
  exact (pd_ite (pd_ite (pd_shifting_56 (by decide)) (pd_ite (pd_shifting_56 (by decide)) (pd_shifting_57 (by decide)))) (pd_pair (Or.inl (by decide))))
theorem pd_ofGroupFourteen {M : St} : pdv (f_X3_ofGroupFourteen M) := by
  unfold f_X3_ofGroupFourteen
  exact (pd_ite (pd_lit (by decide)) (pd_ite (pd_single (by decide)) (pd_ite (pd_single (by decide)) (pd_lit (by decide)))))
theorem pd_decode_88 {M : St} : pdv (f_X3_decode_88 M) := by
  unfold f_X3_decode_88
  exact (pd_moving)
theorem pd_decode {a1 : Int32} {M : St} : pdv (f_X3_decode a1 M) := by
  unfold f_X3_decode
  exact (pd_ite (pd_decode_88) (pd_ite (pd_decode_88) (pd_ite (pd_decode_88) (pd_ite (pd_ofGroupThree) (pd_ite (pd_summing (by decide) (by decide) (by decide)) (pd_ite (pd_summing (by decide) (by decide) (by decide)) (pd_ite (pd_comparing) (pd_ite (pd_joining (by decide) (by decide)) (pd_ite (pd_joining (by decide) (by decide)) (pd_ite (pd_quick) (pd_ite (pd_lit (by decide)) (pd_ite (pd_lit (by decide)) (pd_ite (pd_ite (pd_byRegister) (pd_byNumber)) (pd_ite (pd_shifting) (pd_ite (pd_ofGroupFourteen) (pd_lit (by decide)))))))))))))))))
theorem xb_l {α β : Type} (x : α) (f : α → β) : xb x f = f x := rfl
theorem begin_div {M M' : St} {r : Nat} (h : f_X7_begin M = (r, M')) : r = 17 → M' 11 1 = 1 := by
  unfold f_X7_begin at h
  simp only [xb_l] at h
  split at h
  · split at h
    · have h2 := congrArg Prod.fst h
      have h3 := congrArg Prod.snd h
      dsimp only at h2 h3
      intro e
      rw [← h3]
      exact pd_decode (h2.trans e)
    · split at h
      · have h2 := congrArg Prod.fst h
        dsimp only at h2
        intro e
        omega
      · have h2 := congrArg Prod.fst h
        have h3 := congrArg Prod.snd h
        dsimp only at h2 h3
        intro e
        rw [← h3]
        exact pd_decode (h2.trans e)
  · have h2 := congrArg Prod.fst h
    dsimp only at h2
    intro e
    omega
theorem rs_rng {M M' : St} {r : Int32} (hI : InvK INVC M) (hs : M 11 1 = 1) (h : f_X4_readSource (xup (xup M 12 6 0) 12 7 0) = (r, M')) : xrg 0 65535 r := by
  sorry
