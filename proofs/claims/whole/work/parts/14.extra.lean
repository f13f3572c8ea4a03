theorem x_nle {k b : Int32} (h : ¬ b ≤ k) : k < b := by
  rw [x_le] at h
  rw [x_lt]
  omega
theorem x_shr3_all : ∀ j : Fin 64, ∀ k : Fin 8, (nI j.val) >>> ((3 : Int32) &&& 31) = nI k.val → 8 * k.val ≤ j.val ∧ j.val ≤ 8 * k.val + 7 := by decide +kernel
theorem x_shr3 {x : Int32} (h : xrg 0 63 x) {k : Nat} (hk : k < 8) {c : Int32} (hc : x >>> ((3 : Int32) &&& 31) = c) (hcv : c = nI k := by decide) : xrg (8 * k) (8 * k + 7) x := by
  obtain ⟨h1, h2⟩ := h
  obtain ⟨j, hj, rfl⟩ := vp_in_of (x := x) (n := 64) (vp_in_iff.mpr ⟨h1, by omega⟩) (by decide)
  subst hcv
  have h3 := x_shr3_all ⟨j, hj⟩ ⟨k, hk⟩ hc
  have h4 : (nI j).toInt = j := nI_toInt (by omega)
  dsimp only at h3
  exact ⟨by rw [h4]; omega, by rw [h4]; omega⟩
theorem x_nz {x : Int32} (h : ¬ x = 0) : ¬ x.toInt64 = 0 := by
  intro e
  apply h
  apply Int32.toInt_inj.mp
  have h1 := congrArg Int64.toInt e
  rw [Int32.toInt_toInt64] at h1
  rw [h1]
  decide
