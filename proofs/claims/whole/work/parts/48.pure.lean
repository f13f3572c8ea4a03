/-! what perform's callers know: DIVIDE comes with words, and its source is a word -/
def pdv (q : Nat × St) : Prop := q.1 = 17 → q.2 11 1 = 1
theorem pd_pair {a1 : Nat} {a2 a3 a4 a5 : Int32} {M : St} (h : a1 ≠ 17 ∨ a4 = 1) : pdv (f_X3_pair a1 a2 a3 a4 a5 M) := by
  unfold f_X3_pair pdv
  split
  · intro e; cases e
  · intro e
    rcases h with h | h
    · exact absurd e h
    · show a4 = 1; exact h
theorem pd_lit {k : Nat} {M : St} (h : k ≠ 17) : pdv (k, M) := fun e => absurd e h
theorem pd_ite {c : Prop} [Decidable c] {A B : Nat × St} (h1 : pdv A) (h2 : pdv B) : pdv (if c then A else B) := by
  split
  · exact h1
  · exact h2

theorem pn_ite {c : Prop} [Decidable c] {a b : Nat} (h1 : a ≠ 17) (h2 : b ≠ 17) : (if c then a else b) ≠ 17 := by
  split
  · exact h1
  · exact h2
theorem pd_moving_68 {x1 : Int32} {x2 : Int32} {x3 : Int32} {s0 : Nat} {M : St} (hs0 : s0 ≠ 17) : pdv (f_X3_moving_68 x1 x2 x3 s0 M) := by
  unfold f_X3_moving_68
  exact (pd_pair (Or.inl hs0))
theorem pd_moving_50 {x1 : Int32} {x2 : Int32} {s0 : Int32} {M : St} : pdv (f_X3_moving_50 x1 x2 s0 M) := by
  unfold f_X3_moving_50
  exact (pd_ite (pd_moving_68 (by decide)) (pd_moving_68 (by decide)))
theorem pd_moving_49 {x1 : Int32} {x2 : Int32} {M : St} : pdv (f_X3_moving_49 x1 x2 M) := by
  unfold f_X3_moving_49
  exact (pd_moving_50)
theorem pd_moving {M : St} : pdv (f_X3_moving M) := by
  unfold f_X3_moving
  exact (pd_ite (pd_moving_49) (pd_ite (pd_moving_49) (pd_ite (pd_moving_49) (pd_moving_50))))
theorem pd_single {a1 : Nat} {a2 : Int32} {a3 : Int32} {M : St} (ha1 : a1 ≠ 17) : pdv (f_X3_single a1 a2 a3 M) := by
  unfold f_X3_single
  exact (pd_pair (Or.inl ha1))
theorem pd_ofLastEight {M : St} : f_X3_ofLastEight M ≠ 17 := by
  unfold f_X3_ofLastEight
  exact (pn_ite (by decide) (pn_ite (by decide) (pn_ite (by decide) (pn_ite (by decide) (pn_ite (by decide) (pn_ite (by decide) (pn_ite (by decide) (pn_ite (by decide) (by decide)))))))))
theorem pd_withoutOperands {M : St} : f_X3_withoutOperands M ≠ 17 := by
  unfold f_X3_withoutOperands
  exact (pn_ite (by decide) (pn_ite (by decide) (pn_ite (by decide) (pn_ite (by decide) (pn_ite (by decide) (pn_ite (by decide) (pn_ite pd_ofLastEight (by decide))))))))
theorem pd_ofGroupThree_152 {x1 : Int32} {x2 : Int32} {M : St} : pdv (f_X3_ofGroupThree_152 x1 x2 M) := by
  unfold f_X3_ofGroupThree_152
  exact (pd_single (by decide))
theorem pd_ofGroupThree_172 {x1 : Int32} {x2 : Int32} {M : St} : pdv (f_X3_ofGroupThree_172 x1 x2 M) := by
  unfold f_X3_ofGroupThree_172
  exact (pd_single (by decide))
theorem pd_ofGroupThree_200 {x1 : Int32} {x2 : Int32} {M : St} : pdv (f_X3_ofGroupThree_200 x1 x2 M) := by
  unfold f_X3_ofGroupThree_200
  exact (pd_single (by decide))
theorem pd_ofGroupThree_229 {x1 : Int32} {x2 : Int32} {M : St} : pdv (f_X3_ofGroupThree_229 x1 x2 M) := by
  unfold f_X3_ofGroupThree_229
  exact (pd_single (by decide))
theorem pd_ofGroupThree_252 {x1 : Int32} {x2 : Int32} {M : St} : pdv (f_X3_ofGroupThree_252 x1 x2 M) := by
  unfold f_X3_ofGroupThree_252
  exact (pd_single (by decide))
theorem pd_ofGroupThree_310 {x1 : Int32} {M : St} : pdv (f_X3_ofGroupThree_310 x1 M) := by
  unfold f_X3_ofGroupThree_310
  exact (pd_ite (pd_single (by decide)) (pd_single (by decide)))
theorem pd_ofGroupThree_348 {x1 : Int32} {M : St} : pdv (f_X3_ofGroupThree_348 x1 M) := by
  unfold f_X3_ofGroupThree_348
  exact (pd_single (by decide))
theorem pd_ofGroupThree {M : St} : pdv (f_X3_ofGroupThree M) := by
  unfold f_X3_ofGroupThree
  exact (pd_ite (pd_ofGroupThree_152) (pd_ite (pd_ofGroupThree_152) (pd_ite (pd_ofGroupThree_152) (pd_ite (pd_single (by decide)) (pd_ite (pd_ofGroupThree_172) (pd_ite (pd_ofGroupThree_172) (pd_ite (pd_ofGroupThree_172) (pd_ite (pd_single (by decide)) (pd_ite (pd_ofGroupThree_200) (pd_ite (pd_ofGroupThree_200) (pd_ite (pd_ofGroupThree_200) (pd_ite (pd_single (by decide)) (pd_ite (pd_ofGroupThree_229) (pd_ite (pd_ofGroupThree_229) (pd_ite (pd_ofGroupThree_229) (pd_ite (pd_single (by decide)) (pd_ite (pd_ofGroupThree_252) (pd_ite (pd_ofGroupThree_252) (pd_ite (pd_ofGroupThree_252) (pd_ite (pd_single (by decide)) (pd_ite (pd_ite (pd_single (by decide)) (pd_single (by decide))) (pd_ite (pd_ofGroupThree_310) (pd_ite (pd_ofGroupThree_310) (pd_ite (pd_lit (by decide)) (pd_ite (pd_ofGroupThree_348) (pd_ite (pd_ofGroupThree_348) (pd_ite (pd_single (by decide)) (pd_ite (pd_single (by decide)) (pd_ite (pd_lit pd_withoutOperands) (pd_lit (by decide)))))))))))))))))))))))))))))))
theorem pd_withAddress_12 {x1 : Nat} {s0 : Int32} {M : St} (hx1 : x1 ≠ 17) : pdv (f_X3_withAddress_12 x1 s0 M) := by
  unfold f_X3_withAddress_12
  exact (pd_pair (Or.inl hx1))
theorem pd_withAddress {a1 : Nat} {M : St} (ha1 : a1 ≠ 17) : pdv (f_X3_withAddress a1 M) := by
  unfold f_X3_withAddress
  exact (pd_ite (pd_withAddress_12 ha1) (pd_withAddress_12 ha1))
theorem pd_summing {a1 : Nat} {a2 : Nat} {a3 : Nat} {M : St} (ha1 : a1 ≠ 17) (ha2 : a2 ≠ 17) (ha3 : a3 ≠ 17) : pdv (f_X3_summing a1 a2 a3 M) := by
  unfold f_X3_summing
  exact (pd_ite (pd_withAddress ha3) (pd_ite (pd_pair (Or.inl ha1)) (pd_ite (pd_pair (Or.inl ha2)) (pd_ite (pd_pair (Or.inl ha2)) (pd_pair (Or.inl ha1))))))
theorem pd_comparing {M : St} : pdv (f_X3_comparing M) := by
  unfold f_X3_comparing
  exact (pd_ite (pd_withAddress (by decide)) (pd_ite (pd_pair (Or.inl (by decide))) (pd_ite (pd_pair (Or.inl (by decide))) (pd_pair (Or.inl (by decide))))))
theorem pd_exchanging_62 {s0 : Int32} {s1 : Int32} {s2 : Int32} {s3 : Int32} {s4 : Nat} {M : St} (hs4 : s4 ≠ 17) : pdv (f_X3_exchanging_62 s0 s1 s2 s3 s4 M) := by
  unfold f_X3_exchanging_62
  exact (pd_pair (Or.inl hs4))
theorem pd_exchanging_57 {s0 : Int32} {s1 : Int32} {s2 : Int32} {s3 : Nat} {M : St} (hs3 : s3 ≠ 17) : pdv (f_X3_exchanging_57 s0 s1 s2 s3 M) := by
  unfold f_X3_exchanging_57
  exact (pd_exchanging_62 hs3)
theorem pd_exchanging_30 {s0 : Int32} {M : St} : pdv (f_X3_exchanging_30 s0 M) := by
  unfold f_X3_exchanging_30
  exact (pd_ite (pd_exchanging_57 (by decide)) (pd_ite (pd_exchanging_57 (by decide)) (pd_exchanging_62 (by decide))))
theorem pd_exchanging_26 {M : St} : pdv (f_X3_exchanging_26 M) := by
  unfold f_X3_exchanging_26
  exact (pd_exchanging_30)
theorem pd_exchanging {M : St} : pdv (f_X3_exchanging M) := by
  unfold f_X3_exchanging
  exact (pd_ite (pd_ite (pd_exchanging_30) (pd_exchanging_26)) (pd_exchanging_26))
theorem pd_joining_123 {x1 : Nat} {x3 : Nat} {x4 : Int32} {M : St} (hx1 : x1 ≠ 17) (hx3 : x3 ≠ 17) : pdv (f_X3_joining_123 x1 x3 x4 M) := by
  unfold f_X3_joining_123
  exact (pd_ite (pd_pair (Or.inl hx3)) (pd_ite (pd_exchanging) (pd_lit (by decide))))
theorem pd_joining {a1 : Nat} {a2 : Nat} {a3 : Nat} {M : St} (ha1 : a1 ≠ 17) (ha3 : a3 ≠ 17) : pdv (f_X3_joining a1 a2 a3 M) := by
  unfold f_X3_joining
  exact (pd_ite (pd_pair (Or.inr rfl)) (pd_ite (pd_pair (Or.inl ha1)) (pd_ite (pd_ite (pd_ite (pd_pair (Or.inl ha3)) (pd_joining_123 ha1 ha3)) (pd_joining_123 ha1 ha3)) (pd_pair (Or.inl ha1)))))
theorem pd_quick_85 {x1 : Int32} {s0 : Nat} {M : St} (hs0 : s0 ≠ 17) : pdv (f_X3_quick_85 x1 s0 M) := by
  unfold f_X3_quick_85
  exact (pd_single hs0)
theorem pd_quick_67 {s0 : Int32} {M : St} : pdv (f_X3_quick_67 s0 M) := by
  unfold f_X3_quick_67
  exact (pd_ite (pd_quick_85 (by decide)) (pd_quick_85 (by decide)))
theorem pd_quick_66 {M : St} : pdv (f_X3_quick_66 M) := by
  unfold f_X3_quick_66
  exact (pd_quick_67)
theorem pd_quick {M : St} : pdv (f_X3_quick M) := by
  unfold f_X3_quick
  exact (pd_ite (pd_ite (pd_lit (by decide)) (pd_single (by decide))) (pd_ite (pd_quick_66) (pd_ite (pd_quick_66) (pd_quick_67))))
theorem pd_bits_36 {x3 : Int32} {s0 : Int32} {s1 : Nat} {M : St} (hs1 : s1 ≠ 17) : pdv (f_X3_bits_36 x3 s0 s1 M) := by
  unfold f_X3_bits_36
  exact (pd_single hs1)
theorem pd_bits_18 {x1 : Nat} {s0 : Int32} {M : St} (hx1 : x1 ≠ 17) : pdv (f_X3_bits_18 x1 s0 M) := by
  unfold f_X3_bits_18
  exact (pd_ite (pd_bits_36 hx1) (pd_bits_36 hx1))
theorem pd_bits {a1 : Nat} {a2 : Int32} {M : St} (ha1 : a1 ≠ 17) : pdv (f_X3_bits a1 a2 M) := by
  unfold f_X3_bits
  exact (pd_ite (pd_bits_18 ha1) (pd_bits_18 ha1))
theorem pd_byRegister {M : St} : pdv (f_X3_byRegister M) := by
  unfold f_X3_byRegister
  exact (pd_ite (pd_lit (by decide)) (pd_bits (by decide)))
theorem pd_withNumber_100 {s0 : Int32} {s1 : Int32} {s2 : Int32} {s3 : Int32} {s4 : Nat} {M : St} (hs4 : s4 ≠ 17) : pdv (f_X3_withNumber_100 s0 s1 s2 s3 s4 M) := by
  unfold f_X3_withNumber_100
  exact (pd_pair (Or.inl hs4))
theorem pd_withNumber_99 {s0 : Int32} {s1 : Int32} {s2 : Int32} {s3 : Nat} {M : St} (hs3 : s3 ≠ 17) : pdv (f_X3_withNumber_99 s0 s1 s2 s3 M) := by
  unfold f_X3_withNumber_99
  exact (pd_withNumber_100 hs3)
theorem pd_withNumber_65 {x1 : Nat} {M : St} (hx1 : x1 ≠ 17) : pdv (f_X3_withNumber_65 x1 M) := by
  unfold f_X3_withNumber_65
  exact (pd_ite (pd_withNumber_99 hx1) (pd_ite (pd_withNumber_99 hx1) (pd_withNumber_100 hx1)))
theorem pd_withNumber_26 {x1 : Nat} {s0 : Int32} {M : St} (hx1 : x1 ≠ 17) : pdv (f_X3_withNumber_26 x1 s0 M) := by
  unfold f_X3_withNumber_26
  exact (pd_ite (pd_withNumber_65 hx1) (pd_ite (pd_ite (pd_withNumber_65 hx1) (pd_ite (pd_lit (by decide)) (pd_lit (by decide)))) (pd_withNumber_65 hx1)))
theorem pd_withNumber_21 {x1 : Nat} {M : St} (hx1 : x1 ≠ 17) : pdv (f_X3_withNumber_21 x1 M) := by
  unfold f_X3_withNumber_21
  exact (pd_withNumber_26 hx1)
theorem pd_withNumber {a1 : Nat} {M : St} (ha1 : a1 ≠ 17) : pdv (f_X3_withNumber a1 M) := by
  unfold f_X3_withNumber
  exact (pd_ite (pd_withNumber_21 ha1) (pd_ite (pd_withNumber_21 ha1) (pd_ite (pd_withNumber_21 ha1) (pd_withNumber_26 ha1))))
theorem pd_byNumber_108 {s0 : Int32} {s1 : Nat} {M : St} (hs1 : s1 ≠ 17) : pdv (f_X3_byNumber_108 s0 s1 M) := by
  unfold f_X3_byNumber_108
  exact (pd_bits hs1)
theorem pd_byNumber_107 {s0 : Nat} {M : St} (hs0 : s0 ≠ 17) : pdv (f_X3_byNumber_107 s0 M) := by
  unfold f_X3_byNumber_107
  exact (pd_byNumber_108 hs0)
theorem pd_byNumber {M : St} : pdv (f_X3_byNumber M) := by
  unfold f_X3_byNumber
  exact (pd_ite (pd_withNumber (by decide)) (pd_ite (pd_withNumber (by decide)) (pd_ite (pd_withNumber (by decide)) (pd_ite (pd_withNumber (by decide)) (pd_ite (pd_ite (pd_byNumber_107 (by decide)) (pd_ite (pd_byNumber_107 (by decide)) (pd_byNumber_108 (by decide)))) (pd_ite (pd_withNumber (by decide)) (pd_ite (pd_withNumber (by decide)) (pd_lit (by decide)))))))))
theorem pd_shifting_57 {s0 : Int32} {s1 : Int32} {s2 : Nat} {M : St} (hs2 : s2 ≠ 17) : pdv (f_X3_shifting_57 s0 s1 s2 M) := by
  unfold f_X3_shifting_57
  exact (pd_single hs2)
theorem pd_shifting_56 {s0 : Int32} {s1 : Nat} {M : St} (hs1 : s1 ≠ 17) : pdv (f_X3_shifting_56 s0 s1 M) := by
  unfold f_X3_shifting_56
  exact (pd_shifting_57 hs1)
theorem pd_shifting {M : St} : pdv (f_X3_shifting M) := by
  unfold f_X3_shifting
  exact (pd_ite (pd_ite (pd_shifting_56 (by decide)) (pd_ite (pd_shifting_56 (by decide)) (pd_shifting_57 (by decide)))) (pd_pair (Or.inl (by decide))))
theorem pd_ofGroupFourteen {M : St} : pdv (f_X3_ofGroupFourteen M) := by
  unfold f_X3_ofGroupFourteen
  exact (pd_ite (pd_lit (by decide)) (pd_ite (pd_single (by decide)) (pd_ite (pd_single (by decide)) (pd_lit (by decide)))))
theorem pd_decode_88 {M : St} : pdv (f_X3_decode_88 M) := by
  unfold f_X3_decode_88
  exact (pd_moving)
theorem pd_decode {a1 : Int32} {M : St} : pdv (f_X3_decode a1 M) := by
  unfold f_X3_decode
  exact (pd_ite (pd_decode_88) (pd_ite (pd_decode_88) (pd_ite (pd_decode_88) (pd_ite (pd_ofGroupThree) (pd_ite (pd_summing (by decide) (by decide) (by decide)) (pd_ite (pd_summing (by decide) (by decide) (by decide)) (pd_ite (pd_comparing) (pd_ite (pd_joining (by decide) (by decide)) (pd_ite (pd_joining (by decide) (by decide)) (pd_ite (pd_quick) (pd_ite (pd_lit (by decide)) (pd_ite (pd_lit (by decide)) (pd_ite (pd_ite (pd_byRegister) (pd_byNumber)) (pd_ite (pd_shifting) (pd_ite (pd_ofGroupFourteen) (pd_lit (by decide)))))))))))))))))
theorem xb_l {α β : Type} (x : α) (f : α → β) : xb x f = f x := rfl
theorem begin_div {M M' : St} {r : Nat} (h : f_X7_begin M = (r, M')) : r = 17 → M' 11 1 = 1 := by
  unfold f_X7_begin at h
  simp only [xb_l] at h
  split at h
  · split at h
    · have h2 := congrArg Prod.fst h
      have h3 := congrArg Prod.snd h
      dsimp only at h2 h3
      intro e
      rw [← h3]
      exact pd_decode (h2.trans e)
    · split at h
      · have h2 := congrArg Prod.fst h
        dsimp only at h2
        intro e
        omega
      · have h2 := congrArg Prod.fst h
        have h3 := congrArg Prod.snd h
        dsimp only at h2 h3
        intro e
        rw [← h3]
        exact pd_decode (h2.trans e)
  · have h2 := congrArg Prod.fst h
    dsimp only at h2
    intro e
    omega
theorem al125_inv {x1 x3 : Int32} {M : St} (hI : InvK INVC M) : InvK INVC (f_X2_allows_125 x1 x3 M).2 := (hI.fld 4 11 x1 (by decide)).fld 4 12 x3 (by decide)
theorem al105_inv {x1 x3 x6 x7 : Int32} {M : St} (hI : InvK INVC M) : InvK INVC (f_X2_allows_105 x1 x3 x6 x7 M).2 := by
  unfold f_X2_allows_105
  split
  · split
    · exact al125_inv (hI.set 4 10 (x_rgc (x := 2) (k := 2) (by decide)) (by decide))
    · exact hI
  · exact hI
theorem al84_inv {x1 x2 x3 x6 s0 : Int32} {M : St} (hI : InvK INVC M) : InvK INVC (f_X2_allows_84 x1 x2 x3 x6 s0 M).2 := by
  unfold f_X2_allows_84
  split
  · exact al105_inv hI
  · split
    · exact al105_inv hI
    · exact al125_inv (hI.set 4 10 (x_rgc (x := 3) (k := 3) (by decide)) (by decide))
theorem al53_inv {x1 x2 x3 x4 x5 s0 : Int32} {M : St} (hI : InvK INVC M) : InvK INVC (f_X2_allows_53 x1 x2 x3 x4 x5 s0 M).2 := by
  unfold f_X2_allows_53 f_X2_allows_83
  split
  · exact al84_inv hI
  · split
    · exact al84_inv hI
    · split
      · exact al84_inv hI
      · exact al84_inv hI
theorem al_inv {a1 a2 a3 : Int32} {M : St} (hI : InvK INVC M) : InvK INVC (f_X2_allows a1 a2 a3 M).2 := by
  unfold f_X2_allows f_X2_allows_52 f_X2_allows_48
  split
  · split
    · exact al53_inv hI
    · split
      · split
        · exact al53_inv hI
        · exact al53_inv hI
      · exact al53_inv hI
  · exact hI
theorem rb_all {a : Int32} {M : St} (hI : InvK INVC M) : xrg 0 255 (f_X2_readByte a M).1 ∧ InvK INVC (f_X2_readByte a M).2 := by
  have i0 := hI.at 0 (p := 4) (j := 3) (lo := 0) (hi := 15) rfl
  have i1 := hI.at 1 (p := 4) (j := 4) (lo := 0) (hi := 16) rfl
  have i3 := hI.at 3 (p := 4) (j := 7) (lo := 0) (hi := 65535) rfl
  have i4 := hI.at 4 (p := 4) (j := 8) (lo := 0) (hi := 7) rfl
  have c1 : xrg 1 1 1 := x_rgc (by decide)
  have c0 : xrg 0 0 0 := x_rgc (by decide)
  unfold f_X2_readByte
  split
  · split
    · split
      · exact ⟨x_rgw c0 (by decide) (by decide), hI⟩
      · rename_i hz
        have i1' : xrg 1 16 (M 4 4) := x_c_ne i1 (by decide) hz
        refine ⟨hI.a6 _, ?_⟩
        have h1 := x_rg_rem (y := 16) (k := 16) (x_rg_add i0 c1 (by decide) (by decide)) (by decide) (by decide) (by decide)
        have h2 := x_rg_sub i1' c1 (by decide) (by decide)
        exact (hI.set 4 3 h1 (by decide)).set 4 4 h2 (by decide)
    · split
      · exact ⟨x_rgw i1 (by decide) (by decide), hI⟩
      · split
        · exact ⟨x_rg_ush (k := 8) (hi := 255) i3 (by decide) (by decide) (by decide), hI⟩
        · split
          · exact ⟨x_rg_and (k := 255) (by decide) (by decide), hI⟩
          · split
            · exact ⟨x_rgw i4 (by decide) (by decide), hI⟩
            · split
              · split
                · exact ⟨x_rgw c0 (by decide) (by decide), hI⟩
                · exact ⟨x_rgw c1 (by decide) (by decide), hI⟩
              · exact ⟨x_rgw c0 (by decide) (by decide), hI⟩
  · exact ⟨hI.a5 _, hI⟩
theorem rd32_inv : ∀ (n : Nat) (x4 x5 x6 x7 : Int32) (M : St), InvK INVC M → InvK INVC (f_X2_read_32 n x4 x5 x6 x7 M).2
  | 0, _, _, _, _, _, h => h
  | n + 1, x4, x5, x6, x7, M, h => by
    unfold f_X2_read_32
    split
    · exact h
    · simp only [xb_l]
      exact rd32_inv n _ _ _ _ _ (rb_all h).2
theorem rd_inv {a1 a2 a3 : Int32} {M : St} (hI : InvK INVC M) : InvK INVC (f_X2_read a1 a2 a3 M).2 := by
  unfold f_X2_read
  simp only [xb_l]
  split
  · exact al_inv hI
  · exact rd32_inv _ _ _ _ _ _ (al_inv hI)
theorem rd1_rng {a1 a3 : Int32} {M : St} (hI : InvK INVC M) : xrg 0 65535 (f_X2_read a1 1 a3 M).1 := by
  unfold f_X2_read
  simp only [xb_l]
  split
  · show xrg 0 65535 (0 : Int32)
    exact ⟨by decide, by decide⟩
  · have e2 : f_X10_bytesOf 1 = 2 := by decide
    have e3 : ((2 : Int32).toInt - (0 : Int32).toInt).toNat + 1 = 3 := by decide
    rw [e2, e3]
    have h0 := al_inv (a1 := a1 &&& 16777215) (a2 := 2) (a3 := a3) hI
    generalize (f_X2_allows (a1 &&& 16777215) 2 a3 M).2 = M1 at h0
    have u : ∀ (n : Nat) (x4 x5 x6 x7 : Int32) (M : St), f_X2_read_32 (n + 1) x4 x5 x6 x7 M = (if x5 ≤ x7 then (x6, M) else f_X2_read_32 n x4 x5 ((x6 <<< ((8 : Int32) &&& 31)) ||| (f_X2_readByte (x4 + x7) M).1) (x7 + 1) (f_X2_readByte (x4 + x7) M).2) := fun _ _ _ _ _ _ => rfl
    rw [u, if_neg (by decide), u, if_neg (by decide), u, if_pos (by decide)]
    have b1 := rb_all (a := (a1 &&& 16777215) + 0) h0
    have b2 := rb_all (a := (a1 &&& 16777215) + (0 + 1)) b1.2
    have c0 : xrg 0 0 0 := x_rgc (by decide)
    have s1 : xrg 0 255 ((0 : Int32) <<< ((8 : Int32) &&& 31)) := ⟨by decide, by decide⟩
    have s2 := x_rg_or 8 (by decide) s1 b1.1 (by decide) (by decide)
    have s3 := x_rg_shl (c := 8) (k := 8) (hi := 65280) s2 (by decide) (by decide) (by decide)
    exact x_rgw (x_rg_or 16 (by decide) s3 b2.1 (by decide) (by decide)) (by decide) (by decide)
theorem ft_u (n : Nat) (x1 x2 x3 : Int32) (M : St) : f_X6_fetch_13 (n + 1) x1 x2 x3 M = (if x3 ≤ 0 then (if x1 = 0 then ((x2 &&& 255), M) else (x2, M)) else f_X6_fetch_13 n x1 ((x2 <<< ((16 : Int32) &&& 31)) ||| (f_X2_read (M 2 17) 1 3 M).1) (x3 + (-1)) (xup (f_X2_read (M 2 17) 1 3 M).2 2 17 (((f_X2_read (M 2 17) 1 3 M).2 2 17) + 2))) := rfl
theorem ft13_inv : ∀ (n : Nat) (x1 x2 x3 : Int32) (M : St), InvK INVC M → InvK INVC (f_X6_fetch_13 n x1 x2 x3 M).2
  | 0, _, _, _, _, h => h
  | n + 1, x1, x2, x3, M, h => by
    rw [ft_u]
    split
    · split
      · exact h
      · exact h
    · exact ft13_inv n _ _ _ _ ((rd_inv h).arr 2 17 _ (by decide))
theorem ft_inv {a : Int32} {M : St} (hI : InvK INVC M) : InvK INVC (f_X6_fetch a M).2 := by
  unfold f_X6_fetch f_X6_fetch_12
  split
  · exact ft13_inv _ _ _ _ _ hI
  · exact ft13_inv _ _ _ _ _ hI
theorem ft1_rng {M : St} (hI : InvK INVC M) : xrg 0 65535 (f_X6_fetch 1 M).1 := by
  unfold f_X6_fetch f_X6_fetch_12
  rw [if_neg (by decide)]
  have e1 : (1 : Int32).toInt.toNat + 1 = 2 := by decide
  rw [e1, ft_u, if_neg (by decide), ft_u, if_pos (by decide), if_neg (by decide)]
  have h1 := rd1_rng (a1 := M 2 17) (a3 := 3) hI
  have s1 : xrg 0 0 ((0 : Int32) <<< ((16 : Int32) &&& 31)) := ⟨by decide, by decide⟩
  exact x_rgw (x_rg_or 16 (by decide) s1 h1 (by decide) (by decide)) (by decide) (by decide)
theorem rb_fr {a : Int32} {M : St} {p : Nat} (hp : p ≠ 4) : (f_X2_readByte a M).2 p = M p := by
  unfold f_X2_readByte
  repeat' split
  all_goals first | rfl | (dsimp only; rw [xup_other hp, xup_other hp])
theorem al105_fr {x1 x3 x6 x7 : Int32} {M : St} {p : Nat} (hp : p ≠ 4) : (f_X2_allows_105 x1 x3 x6 x7 M).2 p = M p := by
  unfold f_X2_allows_105 f_X2_allows_125
  repeat' split
  all_goals first | rfl | (dsimp only; rw [xup_other hp, xup_other hp, xup_other hp])
theorem al84_fr {x1 x2 x3 x6 s0 : Int32} {M : St} {p : Nat} (hp : p ≠ 4) : (f_X2_allows_84 x1 x2 x3 x6 s0 M).2 p = M p := by
  unfold f_X2_allows_84
  split
  · exact al105_fr hp
  · split
    · exact al105_fr hp
    · unfold f_X2_allows_125
      dsimp only
      rw [xup_other hp, xup_other hp, xup_other hp]
theorem al_fr {a1 a2 a3 : Int32} {M : St} {p : Nat} (hp : p ≠ 4) : (f_X2_allows a1 a2 a3 M).2 p = M p := by
  unfold f_X2_allows f_X2_allows_52 f_X2_allows_48 f_X2_allows_53 f_X2_allows_83
  repeat' split
  all_goals first | exact al84_fr hp | rfl
theorem rd32_fr {p : Nat} (hp : p ≠ 4) : ∀ (n : Nat) (x4 x5 x6 x7 : Int32) (M : St), (f_X2_read_32 n x4 x5 x6 x7 M).2 p = M p
  | 0, _, _, _, _, _ => rfl
  | n + 1, x4, x5, x6, x7, M => by
    unfold f_X2_read_32
    split
    · rfl
    · simp only [xb_l]
      rw [rd32_fr hp n]
      exact rb_fr hp
theorem rd_fr {a1 a2 a3 : Int32} {M : St} {p : Nat} (hp : p ≠ 4) : (f_X2_read a1 a2 a3 M).2 p = M p := by
  unfold f_X2_read
  simp only [xb_l]
  split
  · exact al_fr hp
  · rw [rd32_fr hp]
    exact al_fr hp
theorem ft13_fr {p : Nat} (hp : p ≠ 4) (hq : p ≠ 2) : ∀ (n : Nat) (x1 x2 x3 : Int32) (M : St), (f_X6_fetch_13 n x1 x2 x3 M).2 p = M p
  | 0, _, _, _, _ => rfl
  | n + 1, x1, x2, x3, M => by
    rw [ft_u]
    split
    · split <;> rfl
    · rw [ft13_fr hp hq n, xup_other hq, rd_fr hp]
theorem ft_fr {a : Int32} {M : St} {p : Nat} (hp : p ≠ 4) (hq : p ≠ 2) : (f_X6_fetch a M).2 p = M p := by
  unfold f_X6_fetch f_X6_fetch_12
  split
  · exact ft13_fr hp hq _ _ _ _ _
  · exact ft13_fr hp hq _ _ _ _ _
theorem xup_at {M : St} {i j k : Nat} {v : Int32} : xup M i j v i k = if k = j then v else M i k := by
  rw [xup_self]; rfl
/-- find: the way, what else stays, a number of a word -/
def fdP (M N : St) : Prop := InvK INVC N ∧ N 11 = M 11 ∧ (N 10 2 = 11 → xrg 0 65535 (N 10 3))
theorem fd_ite {M A B : St} {c : Prop} [Decidable c] (h1 : c → fdP M A) (h2 : ¬ c → fdP M B) : fdP M (if c then A else B) := by
  by_cases h : c
  · rw [if_pos h]; exact h1 h
  · rw [if_neg h]; exact h2 h
theorem fd_reg {M N : St} {w v : Int32} (hI : InvK INVC N) (h11 : N 11 = M 11) (h10 : N 10 2 = w) (hw : ¬ w = 11) : fdP M (xup N 10 3 v) := by
  refine ⟨hI.fld 10 3 _ (by decide), by rw [xup_other (by decide)]; exact h11, fun e => ?_⟩
  rw [xup_at, if_neg (by decide), h10] at e
  exact absurd e hw
theorem fd_all {a1 : Int32} {M : St} (hI : InvK INVC M) : fdP M (f_X6_find a1 1 M) := by
  have hI1 : InvK INVC (xup M 10 2 (f_X9_of a1)) := hI.fld 10 2 _ (by decide)
  have h11 : (xup M 10 2 (f_X9_of a1)) 11 = M 11 := xup_other (by decide)
  have f11 : ∀ (a : Int32), (f_X6_fetch a (xup M 10 2 (f_X9_of a1))).2 11 = M 11 := fun a => (ft_fr (by decide) (by decide)).trans h11
  have h10 : (xup M 10 2 (f_X9_of a1)) 10 2 = f_X9_of a1 := by rw [xup_at, if_pos rfl]
  have f10 : ∀ (a : Int32), (f_X6_fetch a (xup M 10 2 (f_X9_of a1))).2 10 2 = f_X9_of a1 := fun a => by rw [ft_fr (by decide) (by decide)]; exact h10
  have fI : ∀ (a : Int32), InvK INVC (f_X6_fetch a (xup M 10 2 (f_X9_of a1))).2 := fun a => ft_inv hI1
  unfold f_X6_find f_X6_find_297
  refine fd_ite (fun hw => fd_reg hI1 h11 h10 (by rw [hw]; decide)) (fun _ => ?_)
  refine fd_ite (fun hw => fd_reg hI1 h11 h10 (by rw [hw]; decide)) (fun _ => ?_)
  refine fd_ite (fun hw => fd_reg hI1 h11 h10 (by rw [hw]; decide)) (fun _ => ?_)
  refine fd_ite (fun hw => ?_) (fun _ => ?_)
  · refine ⟨(hI1.fld 10 3 _ (by decide)).arr 2 _ _ (by decide), by rw [xup_other (by decide), xup_other (by decide)]; exact h11, fun e => ?_⟩
    rw [xup_other (by decide), xup_at, if_neg (by decide), h10, hw] at e
    exact absurd e (by decide)
  refine fd_ite (fun hw => fd_reg (w := f_X9_of a1) (hI1.arr 2 _ _ (by decide)) ((xup_other (by decide)).trans h11) ((congrFun (xup_other (by decide)) 2).trans h10) (by rw [hw]; decide)) (fun _ => ?_)
  refine fd_ite (fun hw => fd_reg (fI 1) (f11 1) (f10 1) (by rw [hw]; decide)) (fun _ => ?_)
  refine fd_ite (fun hw => fd_reg (fI 1) (f11 1) (f10 1) (by rw [hw]; decide)) (fun _ => ?_)
  refine fd_ite (fun hw => fd_reg (fI 1) (f11 1) (f10 1) (by rw [hw]; decide)) (fun _ => ?_)
  refine fd_ite (fun hw => fd_reg (fI 2) (f11 2) (f10 2) (by rw [hw]; decide)) (fun _ => ?_)
  refine fd_ite (fun hw => fd_reg (fI 1) (f11 1) (f10 1) (by rw [hw]; decide)) (fun _ => ?_)
  refine fd_ite (fun hw => fd_reg (fI 1) (f11 1) (f10 1) (by rw [hw]; decide)) (fun _ => ?_)
  refine fd_ite (fun hw => ?_) (fun hw => fd_reg hI1 h11 h10 hw)
  rw [xb_l]
  refine ⟨(fI 1).fld 10 3 _ (by decide), by rw [xup_other (by decide)]; exact f11 1, fun e => ?_⟩
  rw [xup_at, if_pos rfl]
  exact ft1_rng hI1
theorem rs_rng {M M' : St} {r : Int32} (hI : InvK INVC M) (hs : M 11 1 = 1) (h : f_X4_readSource (xup (xup M 12 6 0) 12 7 0) = (r, M')) : xrg 0 65535 r := by
  have hI1 : InvK INVC (xup (xup M 12 6 0) 12 7 0) := (hI.set 12 6 (x_rgc (x := 0) (k := 0) (by decide)) (by decide)).fld 12 7 0 (by decide)
  have hs1 : (xup (xup M 12 6 0) 12 7 0) 11 1 = 1 := by rw [xup_other (by decide), xup_other (by decide)]; exact hs
  generalize xup (xup M 12 6 0) 12 7 0 = N at hI1 hs1 h
  unfold f_X4_readSource at h
  simp only [xb_l] at h
  rw [hs1] at h
  obtain ⟨k1, k2, k3⟩ := fd_all (a1 := N 11 2) hI1
  have k4 : (f_X6_find (N 11 2) 1 N) 11 1 = 1 := by rw [k2]; exact hs1
  rw [k4] at h
  have h1 := congrArg Prod.fst h
  dsimp only at h1
  rw [← h1]
  generalize f_X6_find (N 11 2) 1 N = P at k1 k3
  unfold f_X6_read
  simp only [xb_l]
  split
  · rename_i e
    exact k3 e
  · split
    · exact rd1_rng k1
    · exact x_rg_and (k := 65535) (by decide) (by decide)
