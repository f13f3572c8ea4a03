/-! methods that may throw -/
def xNm : List String := ["java/lang/RuntimeException", "java/lang/Exception"]
theorem vn0 : ∀ w ∈ (vx_at0 RX10 40 "java/lang/IndexOutOfBoundsException" xNm).filter (fun w => !goodWord w), w ∈ xdw := by decide +kernel
theorem vn1 : ∀ w ∈ (vx_at0 RX10 47 "java/lang/IllegalArgumentException" xNm).filter (fun w => !goodWord w), w ∈ xdw := by decide +kernel
theorem vn2 : ∀ w ∈ (vx_at0 RX10 61 "java/lang/IllegalStateException" xNm).filter (fun w => !goodWord w), w ∈ xdw := by decide +kernel
theorem vt0 : ∀ w ∈ Cond.classLink RX10 38 "java/lang/IndexOutOfBoundsException" :: Cond.initialized "java/lang/IndexOutOfBoundsException" :: vx_at0 RX10 40 "java/lang/IndexOutOfBoundsException" xNm, w ∈ lw_tbl ∧ vx_ot w = true := by decide +kernel
theorem vt1 : ∀ w ∈ Cond.classLink RX10 45 "java/lang/IllegalArgumentException" :: Cond.initialized "java/lang/IllegalArgumentException" :: vx_at0 RX10 47 "java/lang/IllegalArgumentException" xNm, w ∈ lw_tbl ∧ vx_ot w = true := by decide +kernel
theorem vt2 : ∀ w ∈ Cond.classLink RX10 59 "java/lang/IllegalStateException" :: Cond.initialized "java/lang/IllegalStateException" :: vx_at0 RX10 61 "java/lang/IllegalStateException" xNm, w ∈ lw_tbl ∧ vx_ot w = true := by decide +kernel
theorem vf0 : Bundle.fit "java/lang/IndexOutOfBoundsException" = true ∧ Bundle.fit "java/lang/IllegalArgumentException" = true ∧ Bundle.fit "java/lang/IllegalStateException" = true ∧ ∀ n ∈ xNm, Bundle.fit n = true := by decide +kernel
