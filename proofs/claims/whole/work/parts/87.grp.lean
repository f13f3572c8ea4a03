/-! groups of words on the reference's side -/
theorem pfm {g r d z m l : Nat} {B : St} (h : wB g r d z m l) : f_X11_perform (wd g r d z m l) B = f_X11_perform_34 (wd g r d z m l) (eB m l) (nI z) (nI r) (nI d) B := by
  have h256 := wd_256 h
  unfold f_X11_perform
  rw [wd_e h, (wd_z h).2, (wd_r h).2]
  rcases (show d = 0 ∨ d = 1 by unfold wB at h; omega) with rfl | rfl
  · rw [if_pos (h256.mpr rfl)]; rfl
  · rw [if_neg (fun e => by have := h256.mp e; omega)]; rfl
theorem lgm {g r d z m l : Nat} (h : wB g r d z m l) : f_X11_isLegal (wd g r d z m l) = f_X11_isLegal_47 (wd g r d z m l) (eB m l) (nI m) (nI z) (nI (8 * r + (4 * d + z))) (nI r) (nI d) := by
  have h256 := wd_256 h
  have hm := eB_m ⟨m, h.2.2.2.2.1⟩ ⟨l, h.2.2.2.2.2⟩
  dsimp only at hm
  unfold f_X11_isLegal
  rw [wd_e h, (wd_z h).2, (wd_r h).2, (wd_c h).2, hm]
  rcases (show d = 0 ∨ d = 1 by unfold wB at h; omega) with rfl | rfl
  · rw [if_pos (h256.mpr rfl)]; rfl
  · rw [if_neg (fun e => by have := h256.mp e; omega)]; rfl
theorem pvm {g r d z m l : Nat} (h : wB g r d z m l) (h3 : g ≠ 3) (h12 : g ≠ 12) : f_X11_isPrivileged (wd g r d z m l) = 0 := by
  unfold f_X11_isPrivileged
  rw [(wd_g h).2, if_neg (show ¬ nI g = 3 from fun e => h3 ((nI_eq (a := g) (b := 3) (by have := h.1; omega) (by decide)).mp e)), if_neg (show ¬ nI g = 12 from fun e => h12 ((nI_eq (a := g) (b := 12) (by have := h.1; omega) (by decide)).mp e))]
theorem pg_0 {r d z m l : Nat} {B : St} (h : wB 0 r d z m l) : f_X11_perform (wd 0 r d z m l) B = f_X11_move (nI 0) (eB m l) (nI (8 * r + (4 * d + z))) B := by
  rw [pfm h]
  unfold f_X11_perform_34
  rw [(wd_g h).2, if_pos (by decide)]
  unfold f_X11_perform_112
  rw [xb_l, (wd_g h).2, (wd_c h).2]
theorem pg_1 {r d z m l : Nat} {B : St} (h : wB 1 r d z m l) : f_X11_perform (wd 1 r d z m l) B = f_X11_move (nI 1) (eB m l) (nI (8 * r + (4 * d + z))) B := by
  rw [pfm h]
  unfold f_X11_perform_34
  rw [(wd_g h).2, if_neg (by decide), if_pos (by decide)]
  unfold f_X11_perform_112
  rw [xb_l, (wd_g h).2, (wd_c h).2]
theorem pg_2 {r d z m l : Nat} {B : St} (h : wB 2 r d z m l) : f_X11_perform (wd 2 r d z m l) B = f_X11_move (nI 2) (eB m l) (nI (8 * r + (4 * d + z))) B := by
  rw [pfm h]
  unfold f_X11_perform_34
  rw [(wd_g h).2, if_neg (by decide), if_neg (by decide), if_pos (by decide)]
  unfold f_X11_perform_112
  rw [xb_l, (wd_g h).2, (wd_c h).2]
theorem pg_3 {r d z m l : Nat} {B : St} (h : wB 3 r d z m l) : f_X11_perform (wd 3 r d z m l) B = f_X11_three (nI (8 * r + (4 * d + z))) (eB m l) B := by
  rw [pfm h]
  unfold f_X11_perform_34
  rw [(wd_g h).2, if_neg (by decide), if_neg (by decide), if_neg (by decide), if_pos (by decide)]
  rw [xb_l, (wd_c h).2]
theorem pg_4 {r d z m l : Nat} {B : St} (h : wB 4 r d z m l) : f_X11_perform (wd 4 r d z m l) B = f_X11_addOrTake (eB m l) (nI z) (nI r) (nI d) 0 B := by
  rw [pfm h]
  unfold f_X11_perform_34
  rw [(wd_g h).2, if_neg (by decide), if_neg (by decide), if_neg (by decide), if_neg (by decide), if_pos (by decide)]
  unfold f_X11_perform_146 f_X11_perform_166
  rw [(wd_g h).2, if_neg (by decide), xb_l]
theorem pg_5 {r d z m l : Nat} {B : St} (h : wB 5 r d z m l) : f_X11_perform (wd 5 r d z m l) B = f_X11_addOrTake (eB m l) (nI z) (nI r) (nI d) 1 B := by
  rw [pfm h]
  unfold f_X11_perform_34
  rw [(wd_g h).2, if_neg (by decide), if_neg (by decide), if_neg (by decide), if_neg (by decide), if_neg (by decide), if_pos (by decide)]
  unfold f_X11_perform_146 f_X11_perform_166
  rw [(wd_g h).2, if_pos (by decide), xb_l]
theorem pg_6 {r d z m l : Nat} {B : St} (h : wB 6 r d z m l) : f_X11_perform (wd 6 r d z m l) B = f_X11_compare (eB m l) (nI z) (nI r) (nI d) B := by
  rw [pfm h]
  unfold f_X11_perform_34
  rw [(wd_g h).2, if_neg (by decide), if_neg (by decide), if_neg (by decide), if_neg (by decide), if_neg (by decide), if_neg (by decide), if_pos (by decide)]
  rw [xb_l]
theorem pg_7 {r d z m l : Nat} {B : St} (h : wB 7 r d z m l) : f_X11_perform (wd 7 r d z m l) B = f_X11_logic (eB m l) (nI z) (nI r) (nI d) 1 B := by
  rw [pfm h]
  unfold f_X11_perform_34
  rw [(wd_g h).2, if_neg (by decide), if_neg (by decide), if_neg (by decide), if_neg (by decide), if_neg (by decide), if_neg (by decide), if_neg (by decide), if_pos (by decide)]
  unfold f_X11_perform_185 f_X11_perform_206
  rw [(wd_g h).2, if_pos (by decide), xb_l]
theorem pg_8 {r d z m l : Nat} {B : St} (h : wB 8 r d z m l) : f_X11_perform (wd 8 r d z m l) B = f_X11_logic (eB m l) (nI z) (nI r) (nI d) 0 B := by
  rw [pfm h]
  unfold f_X11_perform_34
  rw [(wd_g h).2, if_neg (by decide), if_neg (by decide), if_neg (by decide), if_neg (by decide), if_neg (by decide), if_neg (by decide), if_neg (by decide), if_neg (by decide), if_pos (by decide)]
  unfold f_X11_perform_185 f_X11_perform_206
  rw [(wd_g h).2, if_neg (by decide), xb_l]
theorem pg_9 {r d z m l : Nat} {B : St} (h : wB 9 r d z m l) : f_X11_perform (wd 9 r d z m l) B = f_X11_quick (eB m l) (nI z) (nI r) (nI d) B := by
  rw [pfm h]
  unfold f_X11_perform_34
  rw [(wd_g h).2, if_neg (by decide), if_neg (by decide), if_neg (by decide), if_neg (by decide), if_neg (by decide), if_neg (by decide), if_neg (by decide), if_neg (by decide), if_neg (by decide), if_pos (by decide)]
  rw [xb_l]
theorem pg_11 {r d z m l : Nat} {B : St} (h : wB 11 r d z m l) : f_X11_perform (wd 11 r d z m l) B = f_X11_branch (wd 11 r d z m l) B := by
  rw [pfm h]
  unfold f_X11_perform_34
  rw [(wd_g h).2, if_neg (by decide), if_neg (by decide), if_neg (by decide), if_neg (by decide), if_neg (by decide), if_neg (by decide), if_neg (by decide), if_neg (by decide), if_neg (by decide), if_neg (by decide), if_neg (by decide), if_pos (by decide)]
  rw [xb_l]
theorem pg_12 {r d z m l : Nat} {B : St} (h : wB 12 r d z m l) : f_X11_perform (wd 12 r d z m l) B = f_X11_twelve (eB m l) (nI z) (nI r) (nI d) B := by
  rw [pfm h]
  unfold f_X11_perform_34
  rw [(wd_g h).2, if_neg (by decide), if_neg (by decide), if_neg (by decide), if_neg (by decide), if_neg (by decide), if_neg (by decide), if_neg (by decide), if_neg (by decide), if_neg (by decide), if_neg (by decide), if_neg (by decide), if_neg (by decide), if_pos (by decide)]
  rw [xb_l]
theorem pg_13 {r d z m l : Nat} {B : St} (h : wB 13 r d z m l) : f_X11_perform (wd 13 r d z m l) B = f_X11_shifts (eB m l) (nI z) (nI r) (nI d) B := by
  rw [pfm h]
  unfold f_X11_perform_34
  rw [(wd_g h).2, if_neg (by decide), if_neg (by decide), if_neg (by decide), if_neg (by decide), if_neg (by decide), if_neg (by decide), if_neg (by decide), if_neg (by decide), if_neg (by decide), if_neg (by decide), if_neg (by decide), if_neg (by decide), if_neg (by decide), if_pos (by decide)]
  rw [xb_l]
theorem pg_14 {r d z m l : Nat} {B : St} (h : wB 14 r d z m l) : f_X11_perform (wd 14 r d z m l) B = f_X11_fourteen (wd 14 r d z m l) (eB m l) (nI z) (nI r) (nI d) B := by
  rw [pfm h]
  unfold f_X11_perform_34
  rw [(wd_g h).2, if_neg (by decide), if_neg (by decide), if_neg (by decide), if_neg (by decide), if_neg (by decide), if_neg (by decide), if_neg (by decide), if_neg (by decide), if_neg (by decide), if_neg (by decide), if_neg (by decide), if_neg (by decide), if_neg (by decide), if_neg (by decide)]
  unfold f_X11_perform_259
  rw [xb_l]
theorem lg_0 {r d z m l : Nat} (h : wB 0 r d z m l) : f_X11_isLegal (wd 0 r d z m l) = f_X11_isLegal_128 (wd 0 r d z m l) (eB m l) (nI (8 * r + (4 * d + z))) := by
  rw [lgm h]
  unfold f_X11_isLegal_47
  rw [(wd_g h).2, if_pos (by decide)]
theorem lg_1 {r d z m l : Nat} (h : wB 1 r d z m l) : f_X11_isLegal (wd 1 r d z m l) = f_X11_isLegal_128 (wd 1 r d z m l) (eB m l) (nI (8 * r + (4 * d + z))) := by
  rw [lgm h]
  unfold f_X11_isLegal_47
  rw [(wd_g h).2, if_neg (by decide), if_pos (by decide)]
theorem lg_2 {r d z m l : Nat} (h : wB 2 r d z m l) : f_X11_isLegal (wd 2 r d z m l) = f_X11_isLegal_128 (wd 2 r d z m l) (eB m l) (nI (8 * r + (4 * d + z))) := by
  rw [lgm h]
  unfold f_X11_isLegal_47
  rw [(wd_g h).2, if_neg (by decide), if_neg (by decide), if_pos (by decide)]
theorem lg_3 {r d z m l : Nat} (h : wB 3 r d z m l) : f_X11_isLegal (wd 3 r d z m l) = f_X11_isLegalThree (nI (8 * r + (4 * d + z))) (eB m l) := by
  rw [lgm h]
  unfold f_X11_isLegal_47
  rw [(wd_g h).2, if_neg (by decide), if_neg (by decide), if_neg (by decide), if_pos (by decide)]
theorem lg_4 {r d z m l : Nat} (h : wB 4 r d z m l) : f_X11_isLegal (wd 4 r d z m l) = f_X11_isLegal_167 (eB m l) (nI m) (nI z) (nI d) := by
  rw [lgm h]
  unfold f_X11_isLegal_47
  rw [(wd_g h).2, if_neg (by decide), if_neg (by decide), if_neg (by decide), if_neg (by decide), if_pos (by decide)]
theorem lg_5 {r d z m l : Nat} (h : wB 5 r d z m l) : f_X11_isLegal (wd 5 r d z m l) = f_X11_isLegal_167 (eB m l) (nI m) (nI z) (nI d) := by
  rw [lgm h]
  unfold f_X11_isLegal_47
  rw [(wd_g h).2, if_neg (by decide), if_neg (by decide), if_neg (by decide), if_neg (by decide), if_neg (by decide), if_pos (by decide)]
theorem lg_6 {r d z m l : Nat} (h : wB 6 r d z m l) : f_X11_isLegal (wd 6 r d z m l) = (if nI z = 3 then (if nI d = 0 then f_X11_isLegal_241 1 (eB m l) else f_X11_isLegal_241 2 (eB m l)) else (if nI d = 0 then (f_X11_fits (eB m l) (nI z) 0) else (if nI m = 1 then 1 else (if (f_X11_fits (eB m l) (nI z) 9) = 0 then 0 else 1)))) := by
  rw [lgm h]
  unfold f_X11_isLegal_47
  rw [(wd_g h).2, if_neg (by decide), if_neg (by decide), if_neg (by decide), if_neg (by decide), if_neg (by decide), if_neg (by decide), if_pos (by decide)]
theorem lg_7 {r d z m l : Nat} (h : wB 7 r d z m l) : f_X11_isLegal (wd 7 r d z m l) = f_X11_isLegal_283 (wd 7 r d z m l) (eB m l) (nI m) (nI z) (nI d) := by
  rw [lgm h]
  unfold f_X11_isLegal_47
  rw [(wd_g h).2, if_neg (by decide), if_neg (by decide), if_neg (by decide), if_neg (by decide), if_neg (by decide), if_neg (by decide), if_neg (by decide), if_pos (by decide)]
theorem lg_8 {r d z m l : Nat} (h : wB 8 r d z m l) : f_X11_isLegal (wd 8 r d z m l) = f_X11_isLegal_283 (wd 8 r d z m l) (eB m l) (nI m) (nI z) (nI d) := by
  rw [lgm h]
  unfold f_X11_isLegal_47
  rw [(wd_g h).2, if_neg (by decide), if_neg (by decide), if_neg (by decide), if_neg (by decide), if_neg (by decide), if_neg (by decide), if_neg (by decide), if_neg (by decide), if_pos (by decide)]
theorem lg_9 {r d z m l : Nat} (h : wB 9 r d z m l) : f_X11_isLegal (wd 9 r d z m l) = (if 3 ≤ nI z then (if nI m = 1 then 1 else (if (f_X11_fits (eB m l) 0 9) = 0 then 0 else 1)) else (f_X11_fits (eB m l) (nI z) 8)) := by
  rw [lgm h]
  unfold f_X11_isLegal_47
  rw [(wd_g h).2, if_neg (by decide), if_neg (by decide), if_neg (by decide), if_neg (by decide), if_neg (by decide), if_neg (by decide), if_neg (by decide), if_neg (by decide), if_neg (by decide), if_pos (by decide)]
theorem lg_10 {r d z m l : Nat} (h : wB 10 r d z m l) : f_X11_isLegal (wd 10 r d z m l) = 1 := by
  rw [lgm h]
  unfold f_X11_isLegal_47
  rw [(wd_g h).2, if_neg (by decide), if_neg (by decide), if_neg (by decide), if_neg (by decide), if_neg (by decide), if_neg (by decide), if_neg (by decide), if_neg (by decide), if_neg (by decide), if_neg (by decide), if_pos (by decide)]
theorem lg_11 {r d z m l : Nat} (h : wB 11 r d z m l) : f_X11_isLegal (wd 11 r d z m l) = 1 := by
  rw [lgm h]
  unfold f_X11_isLegal_47
  rw [(wd_g h).2, if_neg (by decide), if_neg (by decide), if_neg (by decide), if_neg (by decide), if_neg (by decide), if_neg (by decide), if_neg (by decide), if_neg (by decide), if_neg (by decide), if_neg (by decide), if_neg (by decide), if_pos (by decide)]
theorem lg_12 {r d z m l : Nat} (h : wB 12 r d z m l) : f_X11_isLegal (wd 12 r d z m l) = f_X11_isLegalTwelve (eB m l) (nI z) (nI r) (nI d) := by
  rw [lgm h]
  unfold f_X11_isLegal_47
  rw [(wd_g h).2, if_neg (by decide), if_neg (by decide), if_neg (by decide), if_neg (by decide), if_neg (by decide), if_neg (by decide), if_neg (by decide), if_neg (by decide), if_neg (by decide), if_neg (by decide), if_neg (by decide), if_neg (by decide), if_pos (by decide)]
theorem lg_13 {r d z m l : Nat} (h : wB 13 r d z m l) : f_X11_isLegal (wd 13 r d z m l) = (if nI z < 3 then 1 else (if 4 ≤ nI r then 0 else (if (f_X11_fits (eB m l) 1 10) = 0 then 0 else 1))) := by
  rw [lgm h]
  unfold f_X11_isLegal_47
  rw [(wd_g h).2, if_neg (by decide), if_neg (by decide), if_neg (by decide), if_neg (by decide), if_neg (by decide), if_neg (by decide), if_neg (by decide), if_neg (by decide), if_neg (by decide), if_neg (by decide), if_neg (by decide), if_neg (by decide), if_neg (by decide), if_pos (by decide)]
theorem lg_14 {r d z m l : Nat} (h : wB 14 r d z m l) : f_X11_isLegal (wd 14 r d z m l) = (if nI d = 0 then 1 else (if nI z = 0 then (if (f_X11_fits (eB m l) 2 4) = 0 then f_X11_isLegal_444 (eB m l) (nI z) else 1) else f_X11_isLegal_444 (eB m l) (nI z))) := by
  rw [lgm h]
  unfold f_X11_isLegal_47
  rw [(wd_g h).2, if_neg (by decide), if_neg (by decide), if_neg (by decide), if_neg (by decide), if_neg (by decide), if_neg (by decide), if_neg (by decide), if_neg (by decide), if_neg (by decide), if_neg (by decide), if_neg (by decide), if_neg (by decide), if_neg (by decide), if_neg (by decide), if_pos (by decide)]
theorem dc_0 {r d z m l : Nat} {M : St} (h : wB 0 r d z m l) : f_X3_decode (wd 0 r d z m l) M = f_X3_moving (xup M 11 0 (wd 0 r d z m l)) := by
  unfold f_X3_decode
  rw [(wd_g h).1, if_pos (by decide)]
  unfold f_X3_decode_88
  rw [xb_eta]
theorem dc_1 {r d z m l : Nat} {M : St} (h : wB 1 r d z m l) : f_X3_decode (wd 1 r d z m l) M = f_X3_moving (xup M 11 0 (wd 1 r d z m l)) := by
  unfold f_X3_decode
  rw [(wd_g h).1, if_neg (by decide), if_pos (by decide)]
  unfold f_X3_decode_88
  rw [xb_eta]
theorem dc_2 {r d z m l : Nat} {M : St} (h : wB 2 r d z m l) : f_X3_decode (wd 2 r d z m l) M = f_X3_moving (xup M 11 0 (wd 2 r d z m l)) := by
  unfold f_X3_decode
  rw [(wd_g h).1, if_neg (by decide), if_neg (by decide), if_pos (by decide)]
  unfold f_X3_decode_88
  rw [xb_eta]
theorem dc_3 {r d z m l : Nat} {M : St} (h : wB 3 r d z m l) : f_X3_decode (wd 3 r d z m l) M = f_X3_ofGroupThree (xup M 11 0 (wd 3 r d z m l)) := by
  unfold f_X3_decode
  rw [(wd_g h).1, if_neg (by decide), if_neg (by decide), if_neg (by decide), if_pos (by decide)]
  rw [xb_eta]
theorem dc_4 {r d z m l : Nat} {M : St} (h : wB 4 r d z m l) : f_X3_decode (wd 4 r d z m l) M = f_X3_summing 1 2 12 (xup M 11 0 (wd 4 r d z m l)) := by
  unfold f_X3_decode
  rw [(wd_g h).1, if_neg (by decide), if_neg (by decide), if_neg (by decide), if_neg (by decide), if_pos (by decide)]
  rw [xb_eta]
theorem dc_5 {r d z m l : Nat} {M : St} (h : wB 5 r d z m l) : f_X3_decode (wd 5 r d z m l) M = f_X3_summing 4 5 13 (xup M 11 0 (wd 5 r d z m l)) := by
  unfold f_X3_decode
  rw [(wd_g h).1, if_neg (by decide), if_neg (by decide), if_neg (by decide), if_neg (by decide), if_neg (by decide), if_pos (by decide)]
  rw [xb_eta]
theorem dc_6 {r d z m l : Nat} {M : St} (h : wB 6 r d z m l) : f_X3_decode (wd 6 r d z m l) M = f_X3_comparing (xup M 11 0 (wd 6 r d z m l)) := by
  unfold f_X3_decode
  rw [(wd_g h).1, if_neg (by decide), if_neg (by decide), if_neg (by decide), if_neg (by decide), if_neg (by decide), if_neg (by decide), if_pos (by decide)]
  rw [xb_eta]
theorem dc_7 {r d z m l : Nat} {M : St} (h : wB 7 r d z m l) : f_X3_decode (wd 7 r d z m l) M = f_X3_joining 8 16 3 (xup M 11 0 (wd 7 r d z m l)) := by
  unfold f_X3_decode
  rw [(wd_g h).1, if_neg (by decide), if_neg (by decide), if_neg (by decide), if_neg (by decide), if_neg (by decide), if_neg (by decide), if_neg (by decide), if_pos (by decide)]
  rw [xb_eta]
theorem dc_8 {r d z m l : Nat} {M : St} (h : wB 8 r d z m l) : f_X3_decode (wd 8 r d z m l) M = f_X3_joining 9 17 6 (xup M 11 0 (wd 8 r d z m l)) := by
  unfold f_X3_decode
  rw [(wd_g h).1, if_neg (by decide), if_neg (by decide), if_neg (by decide), if_neg (by decide), if_neg (by decide), if_neg (by decide), if_neg (by decide), if_neg (by decide), if_pos (by decide)]
  rw [xb_eta]
theorem dc_9 {r d z m l : Nat} {M : St} (h : wB 9 r d z m l) : f_X3_decode (wd 9 r d z m l) M = f_X3_quick (xup M 11 0 (wd 9 r d z m l)) := by
  unfold f_X3_decode
  rw [(wd_g h).1, if_neg (by decide), if_neg (by decide), if_neg (by decide), if_neg (by decide), if_neg (by decide), if_neg (by decide), if_neg (by decide), if_neg (by decide), if_neg (by decide), if_pos (by decide)]
  rw [xb_eta]
theorem dc_10 {r d z m l : Nat} {M : St} (h : wB 10 r d z m l) : f_X3_decode (wd 10 r d z m l) M = (62, (xup M 11 0 (wd 10 r d z m l))) := by
  unfold f_X3_decode
  rw [(wd_g h).1, if_neg (by decide), if_neg (by decide), if_neg (by decide), if_neg (by decide), if_neg (by decide), if_neg (by decide), if_neg (by decide), if_neg (by decide), if_neg (by decide), if_neg (by decide), if_pos (by decide)]
theorem dc_11 {r d z m l : Nat} {M : St} (h : wB 11 r d z m l) : f_X3_decode (wd 11 r d z m l) M = (48, (xup M 11 0 (wd 11 r d z m l))) := by
  unfold f_X3_decode
  rw [(wd_g h).1, if_neg (by decide), if_neg (by decide), if_neg (by decide), if_neg (by decide), if_neg (by decide), if_neg (by decide), if_neg (by decide), if_neg (by decide), if_neg (by decide), if_neg (by decide), if_neg (by decide), if_pos (by decide)]
theorem dc_12 {r d z m l : Nat} {M : St} (h : wB 12 r d z m l) : f_X3_decode (wd 12 r d z m l) M = (if f_X3_bit8 (xup M 11 0 (wd 12 r d z m l)) = 1 then f_X3_byRegister (xup M 11 0 (wd 12 r d z m l)) else f_X3_byNumber (xup M 11 0 (wd 12 r d z m l))) := by
  unfold f_X3_decode
  rw [(wd_g h).1, if_neg (by decide), if_neg (by decide), if_neg (by decide), if_neg (by decide), if_neg (by decide), if_neg (by decide), if_neg (by decide), if_neg (by decide), if_neg (by decide), if_neg (by decide), if_neg (by decide), if_neg (by decide), if_pos (by decide)]
  rw [xb_eta, xb_eta]
theorem dc_13 {r d z m l : Nat} {M : St} (h : wB 13 r d z m l) : f_X3_decode (wd 13 r d z m l) M = f_X3_shifting (xup M 11 0 (wd 13 r d z m l)) := by
  unfold f_X3_decode
  rw [(wd_g h).1, if_neg (by decide), if_neg (by decide), if_neg (by decide), if_neg (by decide), if_neg (by decide), if_neg (by decide), if_neg (by decide), if_neg (by decide), if_neg (by decide), if_neg (by decide), if_neg (by decide), if_neg (by decide), if_neg (by decide), if_pos (by decide)]
  rw [xb_eta]
theorem dc_14 {r d z m l : Nat} {M : St} (h : wB 14 r d z m l) : f_X3_decode (wd 14 r d z m l) M = f_X3_ofGroupFourteen (xup M 11 0 (wd 14 r d z m l)) := by
  unfold f_X3_decode
  rw [(wd_g h).1, if_neg (by decide), if_neg (by decide), if_neg (by decide), if_neg (by decide), if_neg (by decide), if_neg (by decide), if_neg (by decide), if_neg (by decide), if_neg (by decide), if_neg (by decide), if_neg (by decide), if_neg (by decide), if_neg (by decide), if_neg (by decide), if_pos (by decide)]
  rw [xb_eta]
theorem dc_15 {r d z m l : Nat} {M : St} (h : wB 15 r d z m l) : f_X3_decode (wd 15 r d z m l) M = (63, (xup M 11 0 (wd 15 r d z m l))) := by
  unfold f_X3_decode
  rw [(wd_g h).1, if_neg (by decide), if_neg (by decide), if_neg (by decide), if_neg (by decide), if_neg (by decide), if_neg (by decide), if_neg (by decide), if_neg (by decide), if_neg (by decide), if_neg (by decide), if_neg (by decide), if_neg (by decide), if_neg (by decide), if_neg (by decide), if_neg (by decide)]
/-! the decoder's parts of its word -/
theorem q_op {g r d z m l : Nat} {N : St} (h : wB g r d z m l) (hw : N 11 0 = wd g r d z m l) : f_X3_operand N = eB m l := by unfold f_X3_operand; rw [hw, wd_e h]
theorem q_r {g r d z m l : Nat} {N : St} (h : wB g r d z m l) (hw : N 11 0 = wd g r d z m l) : f_X3_upperRegister N = nI r := by unfold f_X3_upperRegister; rw [hw, (wd_r h).1]
theorem q_l {g r d z m l : Nat} {N : St} (h : wB g r d z m l) (hw : N 11 0 = wd g r d z m l) : f_X3_lowerRegister N = nI l := by unfold f_X3_lowerRegister; rw [hw, wd_l h]
theorem q_d {g r d z m l : Nat} {N : St} (h : wB g r d z m l) (hw : N 11 0 = wd g r d z m l) : f_X3_bit8 N = nI d := by unfold f_X3_bit8; rw [hw, wd_d h]
theorem q_z {g r d z m l : Nat} {N : St} (h : wB g r d z m l) (hw : N 11 0 = wd g r d z m l) : f_X3_z N = nI z := by unfold f_X3_z; rw [hw, (wd_z h).1]
theorem q_m {g r d z m l : Nat} {N : St} (h : wB g r d z m l) (hw : N 11 0 = wd g r d z m l) : f_X3_mode N = nI m := by unfold f_X3_mode; rw [hw, wd_m h]
theorem q_c {g r d z m l : Nat} {N : St} (h : wB g r d z m l) (hw : N 11 0 = wd g r d z m l) : f_X3_condition N = nI (2 * r + d) := by unfold f_X3_condition; rw [hw, (wd_cc h).1]
theorem w11 {M : St} {w : Int32} : (xup M 11 0 w) 11 0 = w := by rw [xs4]
