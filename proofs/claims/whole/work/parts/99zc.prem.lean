/-! WHAT THE STATEMENT GIVES OF THE START -/
abbrev gv_ : List Cond := flatC (Jvm.Cond.and given_1 narrow_1)
theorem gv_ex : ∀ i, i < 66 → Cond.exactly (.static RX5 (opN.getD i "") "LSupervisorMachine$Op;") RX5 ∈ gv_ := by decide +kernel
theorem gv_or : ∀ i, i < 66 → Cond.eq (.field (.static RX5 (opN.getD i "") "LSupervisorMachine$Op;") "java/lang/Enum" "ordinal" "I") (.int (opO.getD i 0)) ∈ gv_ := by decide +kernel
theorem gv_pr : ∀ i, i < 66 → Cond.eq (.field (.static RX5 (opN.getD i "") "LSupervisorMachine$Op;") RX5 "isPrivileged" "Z") (.int (opP.getD i 0)) ∈ gv_ := by decide +kernel
theorem gv_sw : ∀ j, j < 66 → Cond.eq (.elem (.static RX0 "$SwitchMap$SupervisorMachine$Op" "[I") (.int (Int32.ofNat j))) (.int (opS.getD j 0)) ∈ gv_ := by decide +kernel
theorem gv_sl : Cond.arrayOf (.static RX0 "$SwitchMap$SupervisorMachine$Op" "[I") .int ∈ gv_ ∧ Cond.eq (.length (.static RX0 "$SwitchMap$SupervisorMachine$Op" "[I")) (.int (Int32.ofNat 66)) ∈ gv_ ∧ Cond.isRef (.static "java/lang/Throwable" "UNASSIGNED_STACK" "[Ljava/lang/StackTraceElement;") ∈ gv_ ∧ Cond.isRef (.static "java/lang/Throwable" "SUPPRESSED_SENTINEL" "Ljava/util/List;") ∈ gv_ ∧ Cond.not (.castable "java/lang/IndexOutOfBoundsException" "java/lang/IllegalArgumentException") ∈ gv_ := by decide +kernel
theorem tb_ls : ∀ i, i < 66 → Cond.laysStatic RX5 (opN.getD i "") "LSupervisorMachine$Op;" ∈ lw_tbl := by decide +kernel
theorem tb_st : Cond.laysStatic RX0 "$SwitchMap$SupervisorMachine$Op" "[I" ∈ lw_tbl ∧ Cond.laysStatic "java/lang/Throwable" "UNASSIGNED_STACK" "[Ljava/lang/StackTraceElement;" ∈ lw_tbl ∧ Cond.laysStatic "java/lang/Throwable" "SUPPRESSED_SENTINEL" "Ljava/util/List;" ∈ lw_tbl ∧ Cond.initialized RX5 ∈ lw_tbl ∧ Cond.initialized RX0 ∈ lw_tbl ∧ Cond.initialized "java/lang/Throwable" ∈ lw_tbl := by decide +kernel
theorem tb_dw : ∀ w ∈ xdw, w ∈ lw_tbl := by decide +kernel
theorem tb_ns : ∀ q ∈ nst, Cond.methodLinkNest q.1 q.2.1 q.2.2.1 q.2.2.2 ∈ lw_tbl := by decide +kernel
theorem op_inj : ∀ i, i < 66 → ∀ j, j < 66 → opO.getD i 0 = opO.getD j 0 → i = j := by decide +kernel
theorem en_of {args : Array Value} {s : State} {A : Nat → Prop} (hts : ∀ w ∈ lw_tbl, w.before args s = true) (hg : ∀ w ∈ gv_, w.before args s = true) (hA : ∀ a : Nat, a < s.heap.size → ¬ A a) : ∃ ad : Nat → Nat, va_En RX5 "LSupervisorMachine$Op;" opN opF ad A s s.heap := by
  have hlen : opN.length = 66 := by decide
  have h0 : ∀ i : Nat, ∃ t : Nat, i < opN.length → (Term.static RX5 (opN.getD i "") "LSupervisorMachine$Op;").eval args s none [] s = some (.ref t) ∧ va_O RX5 t A s s.heap := by
    intro i
    by_cases hi : i < opN.length
    · obtain ⟨a, c, cell, k, q1, q2, q3, q4, q5, q6, -⟩ := Cond.exactly_spec (hg _ (gv_ex i (hlen ▸ hi)))
      exact ⟨a, fun _ => ⟨q1, cell, q3, q5, by rw [q6]; exact q2, hA a (Array.getElem?_eq_some_iff.mp q3).1⟩⟩
    · exact ⟨0, fun h => absurd h hi⟩
  obtain ⟨ad, had⟩ := Classical.axiomOfChoice h0
  have hfl : ∀ i, i < opN.length → ∀ q ∈ opF, va_OF q.1 q.2.1 q.2.2.1 (.int (q.2.2.2.getD i 0)) (ad i) A s s.heap := by
    intro i hi q hq
    have hv : (Term.field (.static RX5 (opN.getD i "") "LSupervisorMachine$Op;") q.1 q.2.1 q.2.2.1).eval args s none [] s = some (.int (q.2.2.2.getD i 0)) := by
      simp only [opF, List.mem_cons, List.not_mem_nil, or_false] at hq
      rcases hq with rfl | rfl
      · exact va_eqt (hg _ (gv_or i (hlen ▸ hi)))
      · exact va_eqt (hg _ (gv_pr i (hlen ▸ hi)))
    cases hfo : s.fieldFound? q.1 q.2.1 q.2.2.1 with
    | none =>
      rw [va_fe (had i hi).1] at hv
      simp [State.fieldOf?, State.fieldNamed?, hfo] at hv
    | some x =>
      obtain ⟨cf, k, fi, f⟩ := x
      obtain ⟨g1, cell, g2, g3, -, -, g6⟩ := Term.field_spec hfo (had i hi).1 hv
      exact ⟨cf, k, fi, f, cell, hfo, g1, g2, g3, g6, hA _ (Array.getElem?_eq_some_iff.mp g2).1⟩
  refine ⟨ad, fun i hi => ⟨va_Zref (hts _ (tb_ls i (hlen ▸ hi))) (hts _ tb_st.2.2.2.1) (had i hi).1 hA, (had i hi).2, hfl i hi⟩, fun i j hi hj e => ?_⟩
  have q1 := hfl i hi ("java/lang/Enum", "ordinal", "I", opO) List.mem_cons_self
  have q2 := hfl j hj ("java/lang/Enum", "ordinal", "I", opO) List.mem_cons_self
  obtain ⟨c1, k1, i1, f1, e1, a1, a2, a3, a4, a5, -⟩ := q1
  obtain ⟨c2, k2, i2, f2, e2, b1, b2, b3, b4, b5, -⟩ := q2
  have x1 := a1.symm.trans b1
  simp only [Option.some.injEq, Prod.mk.injEq] at x1
  obtain ⟨-, -, -, rfl⟩ := x1
  rw [e] at a3
  have x2 := a3.symm.trans b3
  simp only [Option.some.injEq] at x2
  subst x2
  have x3 := a5.symm.trans b5
  simp only [Option.some.injEq, Value.int.injEq] at x3
  exact op_inj i (hlen ▸ hi) j (hlen ▸ hj) x3
theorem xz_of {args : Array Value} {s : State} (b : Nat) (hts : ∀ w ∈ lw_tbl, w.before args s = true) (hg : ∀ w ∈ gv_, w.before args s = true) : ∃ ad : Nat → Nat, ad 3000 = b ∧ XZ ad (fun q => s.heap.size ≤ q) s s.heap := by
  have hA : ∀ a : Nat, a < s.heap.size → ¬ (fun q : Nat => s.heap.size ≤ q) a := fun a h => Nat.not_le.mpr h
  obtain ⟨ad9, hE⟩ := en_of hts hg hA
  obtain ⟨t, ht, hT⟩ := va_Tof (tm := .static RX0 "$SwitchMap$SupervisorMachine$Op" "[I") (N := 66) (f := fun j => .int (opS.getD j 0)) (by decide) (hg _ gv_sl.1) (va_eqt (hg _ gv_sl.2.1)) (fun j hj => va_eqt (hg _ (gv_sw j hj))) hA
  have e1 : ∀ i, i < 66 → (if 1000 + i = 3000 then b else if 1000 + i = 2000 then t else ad9 (1000 + i - 1000)) = ad9 i := by
    intro i hi
    rw [if_neg (by omega), if_neg (by omega), Nat.add_sub_cancel_left]
  have hlen : opN.length = 66 := by decide
  refine ⟨fun i => if i = 3000 then b else if i = 2000 then t else ad9 (i - 1000), rfl, ⟨⟨fun i hi => ?_, fun i j hi hj e => ?_⟩, va_Zref (hts _ tb_st.1) (hts _ tb_st.2.2.2.2.1) ht hA, hT, vx_Zqof (hts _ tb_st.2.1) (hts _ tb_st.2.2.2.2.2) (hg _ gv_sl.2.2.1) hA, vx_Zqof (hts _ tb_st.2.2.1) (hts _ tb_st.2.2.2.2.2) (hg _ gv_sl.2.2.2.1) hA, fun w hw => va_Nw.of (List.all_eq_true.mp (show xdw.all Cond.onTables = true by decide +kernel) w hw) (hts _ (tb_dw w hw)), va_Nc.of (hg _ gv_sl.2.2.2.2)⟩, fun q hq => va_Nw.of rfl (hts _ (tb_ns q hq))⟩
  · dsimp only
    rw [e1 i (hlen ▸ hi)]
    exact hE.1 i hi
  · dsimp only at e
    rw [e1 i (hlen ▸ hi), e1 j (hlen ▸ hj)] at e
    exact hE.2 i j hi hj e
theorem ty_of {args : Array Value} {s : State} {t : FieldType} (h : (Cond.arrayClass t).before args s = true) (ht : t = .int ∨ t = .long) : ∃ cA : ClassId, ArrOfT s cA t ∧ va_RA s cA t := by
  obtain ⟨cA, kA, comp, h1, h2, h3⟩ := Cond.arrayClass_spec h
  refine ⟨cA, fun n z => ⟨fun k h => (by cases h), kA, h2, comp, h3⟩, ?_⟩
  rcases ht with rfl | rfl <;> exact h1
theorem va_K_of {args : Array Value} {s : State} (hts : ∀ w ∈ xtb, w.before args s = true) (hi : ∀ (k : Nat) (q : vw_C), vwCl[k]? = some q → (Cond.instantiable q.1 q.2.2).before args s = true) : ∃ (D : va_G) (ty : Nat → Nat), va_K D vwCl (xtys ty) s := by
  have h0 : ∀ k : Nat, ∃ x : ClassId × (Nat → Nat), ∀ q : vw_C, vwCl[k]? = some q → u_Kn s q.1 q.2.1 q.2.2 x.1 x.2 := by
    intro k
    cases hq : vwCl[k]? with
    | none => exact ⟨(0, fun _ => 0), fun q h => by cases h⟩
    | some q =>
      obtain ⟨c, iS, hKn⟩ := u_known (n := q.2.2) hts (cl_ok k q hq).1 (hi k q hq)
      exact ⟨(c, iS), fun q' h => by cases h; exact hKn⟩
  obtain ⟨D, hD⟩ := Classical.axiomOfChoice h0
  obtain ⟨t0, a0, b0⟩ := ty_of (hts _ wA_int) (Or.inl rfl)
  obtain ⟨t1, a1, b1⟩ := ty_of (hts _ wA_long) (Or.inr rfl)
  refine ⟨(fun k => (D k).1, fun k => (D k).2), fun i => if i = 0 then t0 else t1, fun k q hq => hD k q hq, fun k q hq => ?_⟩
  match k, hq with
  | 0, hq => cases hq; exact ⟨a0, b0⟩
  | 1, hq => cases hq; exact ⟨a1, b1⟩
  | k + 2, hq => simp [xtys] at hq
theorem tb_in : ∀ q ∈ vwCl, Cond.instantiable q.1 q.2.2 ∈ lw_tbl := by decide +kernel
