/-! the statics: the constants of Op by their ordinals, the table of the switches -/
def opN : List String := ["MOVE", "ADD", "ADD_CHAIN", "ADD_TENS", "SUBTRACT", "SUBTRACT_CHAIN", "SUBTRACT_TENS", "COMPARE", "AND", "OR", "EXCLUSIVE", "MOVE_ADDRESS", "ADD_ADDRESS", "SUBTRACT_ADDRESS", "COMPARE_ADDRESS", "EXCHANGE", "MULTIPLY", "DIVIDE", "CHECK_BOUNDS", "ADD_QUICK", "SUBTRACT_QUICK", "MOVE_QUICK", "BITS_BY_REGISTER", "BITS_BY_NUMBER", "MOVE_BYTES", "NUMBER_TO_FLAGS", "NUMBER_TO_STATUS", "SHIFT_REGISTER", "SHIFT_MEMORY", "NEGATE", "NEGATE_CHAIN", "NEGATE_TENS", "CLEAR", "TURN", "TEST", "TEST_AND_SET", "SET_BY_CONDITION", "STORE_STATUS", "LOAD_FLAGS", "LOAD_STATUS", "SWAP", "EXTEND", "STORE_MANY", "LOAD_MANY", "LOAD_ADDRESS", "PUSH_ADDRESS", "CALL", "JUMP", "BRANCH", "COUNT_DOWN", "RETURN", "RETURN_WITH_FLAGS", "RETURN_FROM_EXCEPTION", "CALL_SUPERVISOR", "CALL_IF_OVERFLOW", "LINK", "UNLINK", "STORE_OTHER", "LOAD_OTHER", "QUIET_TIMER", "NOTHING", "STOP", "NOT_THERE_TEN", "NOT_THERE_FIFTEEN", "WITHOUT_PRIVILEGE", "UNTOLD"]
def opP : List Int32 := [0, 0, 0, 0, 0, 0, 0, 0, 0, 0, 0, 0, 0, 0, 0, 0, 0, 0, 0, 0, 0, 0, 0, 0, 0, 0, 1, 0, 0, 0, 0, 0, 0, 0, 0, 0, 0, 0, 0, 1, 0, 0, 0, 0, 0, 0, 0, 0, 0, 0, 0, 0, 1, 0, 0, 0, 0, 1, 1, 1, 0, 1, 0, 0, 0, 0]
def opO : List Int32 := [0, 1, 2, 3, 4, 5, 6, 7, 8, 9, 10, 11, 12, 13, 14, 15, 16, 17, 18, 19, 20, 21, 22, 23, 24, 25, 26, 27, 28, 29, 30, 31, 32, 33, 34, 35, 36, 37, 38, 39, 40, 41, 42, 43, 44, 45, 46, 47, 48, 49, 50, 51, 52, 53, 54, 55, 56, 57, 58, 59, 60, 61, 62, 63, 64, 65]
def opS : List Int32 := [11, 1, 2, 3, 4, 5, 6, 7, 8, 9, 10, 12, 13, 14, 15, 46, 16, 17, 18, 19, 20, 47, 21, 22, 45, 48, 49, 23, 24, 25, 26, 27, 28, 29, 31, 32, 33, 34, 35, 36, 50, 30, 37, 38, 39, 40, 41, 42, 43, 44, 51, 52, 53, 54, 55, 56, 57, 58, 59, 60, 0, 61, 62, 63, 64, 65]
def opF : List (String × String × String × List Int32) := [("java/lang/Enum", "ordinal", "I", opO), (RX5, "isPrivileged", "Z", opP)]
/-- links to private methods of nest mates -/
def nst : List (String × Nat × MethodName × String) := [(RX7, 44, yX3_init, RX10), (RX2, 26, yX10_bytesOf, RX10), (RX6, 65, yX10_bytesOf, RX10), (RX6, 48, yX10_extended, RX10), (RX6, 58, yX10_maskOf, RX10), (RX1, 60, yX10_extended, RX10), (RX1, 67, yX10_withoutSign, RX10), (RX1, 57, yX10_maskOf, RX10), (RX4, 97, yX10_extended, RX10), (RX4, 273, yX10_withoutSign, RX10), (RX4, 282, yX10_bitsOf, RX10), (RX1, 50, yX10_bitsOf, RX10), (RX4, 298, yX10_bytesOf, RX10), (RX4, 310, yX10_maskOf, RX10)]
def XNw (U : State) : Prop := ∀ q ∈ nst, va_Nw (.methodLinkNest q.1 q.2.1 q.2.2.1 q.2.2.2) U
theorem XNw.warm {s U : State} (hW : s.WarmedH U.vm) (h : XNw s) : XNw U := fun q hq => va_Nw.warmM hW (h q hq)
theorem XNw.same {s U : State} (hv : s.vm = U.vm) (h : XNw s) : XNw U := fun q hq => va_Nw.same rfl hv (h q hq)
/-- words of the exceptions that no good word tells -/
def xdw : List Cond := [.declares ⟨"java/lang/RuntimeException", "<init>", "()V"⟩, .declares ⟨"java/lang/Exception", "<init>", "()V"⟩, .declares ⟨"java/lang/Throwable", "<init>", "()V"⟩, .castable "java/lang/IndexOutOfBoundsException" "java/lang/IndexOutOfBoundsException", .castable "java/lang/IllegalArgumentException" "java/lang/IllegalArgumentException", .castable "java/lang/IllegalStateException" "java/lang/IllegalStateException"]
def XDw (U : State) : Prop := (∀ w ∈ xdw, va_Nw w U) ∧ va_Nc "java/lang/IndexOutOfBoundsException" "java/lang/IllegalArgumentException" U
theorem dw_D {x : MethodName} {u U : State} (hvm : u.vm.Alike U.vm) (h : va_Nw (.declares x) u) : va_Nw (.declares x) U := va_tabs rfl (rfl : (u.setVm U.vm).vm = U.vm) (by rw [Cond.declares_setVm hvm]; exact h)
theorem dw_C {C T : String} {u U : State} (hvm : u.vm.Alike U.vm) (h : va_Nw (.castable C T) u) : va_Nw (.castable C T) U := va_tabs rfl (rfl : (u.setVm U.vm).vm = U.vm) (by rw [Cond.castable_setVm hvm]; exact h)
theorem XDw.moved {u U : State} (hvm : u.vm.Alike U.vm) (h : XDw u) : XDw U := by
  refine ⟨fun w hw => ?_, h.2.moved hvm⟩
  have h1 := h.1 w hw
  simp only [xdw, List.mem_cons, List.not_mem_nil, or_false] at hw
  rcases hw with rfl | rfl | rfl | rfl | rfl | rfl
  · exact dw_D hvm h1
  · exact dw_D hvm h1
  · exact dw_D hvm h1
  · exact dw_C hvm h1
  · exact dw_C hvm h1
  · exact dw_C hvm h1
def XZ0 (ad : Nat → Nat) (A : Nat → Prop) (U : State) (H : Heap) : Prop := va_En RX5 "LSupervisorMachine$Op;" opN opF (fun i => ad (1000 + i)) A U H ∧ va_Z RX0 "$SwitchMap$SupervisorMachine$Op" "[I" (.ref (ad 2000)) A U H ∧ va_T .int (ad 2000) 66 (fun j => .int (opS.getD j 0)) A U H ∧ vx_Zq "java/lang/Throwable" "UNASSIGNED_STACK" "[Ljava/lang/StackTraceElement;" A U H ∧ vx_Zq "java/lang/Throwable" "SUPPRESSED_SENTINEL" "Ljava/util/List;" A U H ∧ XDw U
theorem XZ0.moved {ad : Nat → Nat} {A : Nat → Prop} {u U : State} {H : Heap} (hvm : u.vm.Alike U.vm) (h : XZ0 ad A u H) : XZ0 ad A U H := ⟨va_En.moved hvm h.1, va_Z.moved hvm h.2.1, va_T.moved hvm h.2.2.1, vx_Zq.moved hvm h.2.2.2.1, vx_Zq.moved hvm h.2.2.2.2.1, h.2.2.2.2.2.moved hvm⟩
theorem XZ0.kept {ad : Nat → Nat} {A : Nat → Prop} {U : State} {H H1 : Heap} (h : XZ0 ad A U H) (hq : ∀ a : Nat, a < H.size → ¬ A a → H1[a]? = H[a]?) : XZ0 ad A U H1 := ⟨h.1.kept hq, h.2.1.kept hq, h.2.2.1.kept hq, h.2.2.2.1.kept hq, h.2.2.2.2.1.kept hq, h.2.2.2.2.2⟩
theorem XZ0.narrow {ad : Nat → Nat} {A B : Nat → Prop} {U : State} {H : Heap} (h : XZ0 ad A U H) (hAB : ∀ q, B q → A q) : XZ0 ad B U H := ⟨h.1.narrow hAB, h.2.1.narrow hAB, h.2.2.1.narrow hAB, h.2.2.2.1.narrow hAB, h.2.2.2.2.1.narrow hAB, h.2.2.2.2.2⟩
theorem XZ0.ad {ad ad' : Nat → Nat} {A : Nat → Prop} {U : State} {H : Heap} (h : XZ0 ad A U H) (e : ∀ i, 1000 ≤ i → ad' i = ad i) : XZ0 ad' A U H := by
  have e1 : (fun i => ad' (1000 + i)) = (fun i => ad (1000 + i)) := funext fun i => e _ (Nat.le_add_right _ _)
  unfold XZ0
  rw [e1, e 2000 (by decide)]
  exact h
def XZ (ad : Nat → Nat) (A : Nat → Prop) (U : State) (H : Heap) : Prop := XZ0 ad A U H ∧ XNw U
theorem XZ.warm {ad : Nat → Nat} {A : Nat → Prop} {u U : State} {H : Heap} (hW : u.WarmedH U.vm) (h : XZ ad A u H) : XZ ad A U H := ⟨h.1.moved hW.alike, h.2.warm hW⟩
theorem XZ.same {ad : Nat → Nat} {A : Nat → Prop} {u U : State} {H : Heap} (hv : u.vm = U.vm) (h : XZ ad A u H) : XZ ad A U H := ⟨h.1.moved (by rw [hv]; exact Vm.Alike.refl _), h.2.same hv⟩
theorem XZ.kept {ad : Nat → Nat} {A : Nat → Prop} {U : State} {H H1 : Heap} (h : XZ ad A U H) (hq : ∀ a : Nat, a < H.size → ¬ A a → H1[a]? = H[a]?) : XZ ad A U H1 := ⟨h.1.kept hq, h.2⟩
theorem XZ.narrow {ad : Nat → Nat} {A B : Nat → Prop} {U : State} {H : Heap} (h : XZ ad A U H) (hAB : ∀ q, B q → A q) : XZ ad B U H := ⟨h.1.narrow hAB, h.2⟩
theorem XZ.ad {ad ad' : Nat → Nat} {A : Nat → Prop} {U : State} {H : Heap} (h : XZ ad A U H) (e : ∀ i, 1000 ≤ i → ad' i = ad i) : XZ ad' A U H := ⟨h.1.ad e, h.2⟩
