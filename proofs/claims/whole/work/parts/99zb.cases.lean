/-! THE LAW: its cases -/
abbrev FinL : Option Value → List xL → xG → Prop := fun v _ _ => v = some (.int 1)
abbrev C_L (l : Launch) (nm : String) (V : XJ) : Prop := XC l RL nm cL_law 7 room_1 1057 12791 [] kc_L 0 FinL V
/-- the script's rows -/
def XLs (V : XJ) (n : Nat) (xs : Nat → Int32) : Prop := (∀ (cells slots pc : Nat) (lv : List (Nat × Value)) (st : List Value) (lay : List xL) (σ : xG) (i : Int32), decode cL_law pc = .ok (.iaload, 1) → vp_in i n → V cells slots (pc + 1) lv (.int (xs i.toNatClampNeg) :: st) lay σ → V cells slots pc lv (.int i :: .ref 3000 :: st) lay σ) ∧
  ∀ (cells slots pc : Nat) (lv : List (Nat × Value)) (st : List Value) (lay : List xL) (σ : xG), decode cL_law pc = .ok (.arraylength, 1) → V cells slots (pc + 1) lv (.int (Int32.ofNat n) :: st) lay σ → V cells slots pc lv (.ref 3000 :: st) lay σ
theorem x_wid {l : Launch} {nm : String} {V : XJ} (C : C_L l nm V) {cells slots c' s' pc : Nat} {lv : List (Nat × Value)} {st : List Value} {lay : List xL} {σ : xG} (hc : cells ≤ c') (hs : slots ≤ s') (k : V c' s' pc lv st lay σ) : V cells slots pc lv st lay σ := by
  obtain ⟨p, e, s, m, args, below, meth, c, Q, D, ty, ad0, A, rfl, B, -⟩ := C
  intro ad hag H locs ls hP hD hS hl
  exact W.widen hc hs (k ad hag H locs ls hP hD hS hl)
theorem x_ab {l : Launch} {nm : String} {V : XJ} {cells slots pc : Nat} {lv : List (Nat × Value)} {st : List Value} {lay : List xL} {σ : xG} (h : False) (_ : C_L l nm V) : V cells slots pc lv st lay σ := h.elim
set_option maxRecDepth 20000 in
set_option maxHeartbeats 4000000 in
theorem c_L_0 {l : Launch} {nm : String} {V : XJ} {n : Nat} {xs : Nat → Int32} (C : C_L l nm V) (S : XLs V n xs) (hst : l.stackTraces = false) {i : Int32} (h1 : vp_in (i + 1) n) (h2 : vp_in (i + 2) n) (h3 : vp_in (i + 3) n) (h4 : vp_in (i + 4) n) {M : St} {Lg : Nat → Nat → Int64} (h : LI M) {cells slots : Nat} (hc : cells + 1 ≤ 1057) (hs : slots + 6 ≤ 12791) (next : ∀ M' L', LI M' → V (cells + 1) (slots + 6) 708 [(0, .ref 3000), (1, .ref 0), (2, .ref 14), (3, .ref 22), (4, .int i)] [] LAY (M', L')) : V cells slots 112 [(0, .ref 3000), (1, .ref 0), (2, .ref 14), (3, .ref 22), (4, .int i)] [] LAY (M, Lg) := by
  refine x_run C [(112, .aload_n 1, 1, .null), (113, .aload_n 0, 1, .null), (114, .iload 4, 2, .null), (116, .iconst 1, 1, .int 1), (117, .iadd, 1, .null)] (by decide +kernel) (pc' := 118) (lv' := [(0, .ref 3000), (1, .ref 0), (2, .ref 14), (3, .ref 22), (4, .int i)]) (st' := [.int (i + 1), .ref 3000, .ref 0]) (σ' := (M, Lg)) rfl ⟨trivial, trivial, trivial, trivial, trivial, trivial⟩ ?_
  refine S.1 _ _ 118 _ _ _ _ (i + 1) (by decide +kernel) h1 ?_
  refine x_run C [(119, .aload_n 0, 1, .null), (120, .iload 4, 2, .null), (122, .iconst 2, 1, .int 2), (123, .iadd, 1, .null)] (by decide +kernel) (pc' := 124) (lv' := [(0, .ref 3000), (1, .ref 0), (2, .ref 14), (3, .ref 22), (4, .int i)]) (st' := [.int (i + 2), .ref 3000, .int (xs ((i + 1)).toNatClampNeg), .ref 0]) (σ' := (M, Lg)) rfl ⟨trivial, trivial, trivial, trivial, trivial⟩ ?_
  refine S.1 _ _ 124 _ _ _ _ (i + 2) (by decide +kernel) h2 ?_
  refine x_callSW C (rest := []) (k_L_put l hst ((xs ((i + 1)).toNatClampNeg)) ((xs ((i + 2)).toNatClampNeg)) M Lg h.2.2) yo_L_put ml_L_51 ⟨by decide, by decide, by decide⟩ ⟨hc, hs⟩ (show decode cL_law 125 = .ok (.invokestatic 51, 3) from by decide +kernel) rfl (fun v σ' hPo => ?_)
  obtain ⟨rfl, rfl, hK⟩ := hPo
  have hm := LI.mid h (M1 := (f_X10_put ((xs ((i + 1)).toNatClampNeg)) ((xs ((i + 2)).toNatClampNeg)) M).2) (fun p hp => hi_put hp)
  have hq := putR2 (a := (xs ((i + 1)).toNatClampNeg)) (w := (xs ((i + 2)).toNatClampNeg)) hm.1
  generalize hr : f_X10_put ((xs ((i + 1)).toNatClampNeg)) ((xs ((i + 2)).toNatClampNeg)) M = r at hK hm hq ⊢
  show V (cells + 1) (slots + 6) 128 [(0, .ref 3000), (1, .ref 0), (2, .ref 14), (3, .ref 22), (4, .int i)] [.int r.1] LAY (r.2, Lg)
  refine x_run C [(128, .istore 5, 2, .null), (130, .aload_n 2, 1, .null), (131, .aload_n 0, 1, .null), (132, .iload 4, 2, .null), (134, .iconst 1, 1, .int 1), (135, .iadd, 1, .null)] (by decide +kernel) (pc' := 136) (lv' := [(5, .int r.1), (0, .ref 3000), (1, .ref 0), (2, .ref 14), (3, .ref 22), (4, .int i)]) (st' := [.int (i + 1), .ref 3000, .ref 14]) (σ' := (r.2, Lg)) rfl ⟨trivial, trivial, trivial, trivial, trivial, trivial, trivial⟩ ?_
  refine S.1 _ _ 136 _ _ _ _ (i + 1) (by decide +kernel) h1 ?_
  refine x_run C [(137, .aload_n 0, 1, .null), (138, .iload 4, 2, .null), (140, .iconst 2, 1, .int 2), (141, .iadd, 1, .null)] (by decide +kernel) (pc' := 142) (lv' := [(5, .int r.1), (0, .ref 3000), (1, .ref 0), (2, .ref 14), (3, .ref 22), (4, .int i)]) (st' := [.int (i + 2), .ref 3000, .int (xs ((i + 1)).toNatClampNeg), .ref 14]) (σ' := (r.2, Lg)) rfl ⟨trivial, trivial, trivial, trivial, trivial⟩ ?_
  refine S.1 _ _ 142 _ _ _ _ (i + 2) (by decide +kernel) h2 ?_
  refine x_callV C (k := 14) (ci := 8) (rest := []) (avs := [.int ((xs ((i + 1)).toNatClampNeg)), .int ((xs ((i + 2)).toNatClampNeg))]) (k_X11_put l ((xs ((i + 1)).toNatClampNeg)) ((xs ((i + 2)).toNatClampNeg)) r.2 Lg hm.2) yoX11_put ml_L_56 rfl rfl rfl rfl ⟨hc, hs⟩ (show decode cL_law 143 = .ok (.invokevirtual 56, 3) from by decide +kernel) rfl (fun v σ' hPo => ?_)
  obtain ⟨⟨rfl, rfl⟩, hI2⟩ := hPo
  have hlo : ∀ p, p < 14 → (f_X11_put ((xs ((i + 1)).toNatClampNeg)) ((xs ((i + 2)).toNatClampNeg)) r.2) p = (r.2) p := fun p hp => fr_X11_put (xn_lo hp (by decide))
  generalize f_X11_put ((xs ((i + 1)).toNatClampNeg)) ((xs ((i + 2)).toNatClampNeg)) r.2 = q at hI2 hq hlo ⊢
  show V (cells + 1) (slots + 6) 146 [(5, .int r.1), (0, .ref 3000), (1, .ref 0), (2, .ref 14), (3, .ref 22), (4, .int i)] [] LAY (q, Lg)
  refine x_run C [(146, .aload_n 2, 1, .null)] (by decide +kernel) (pc' := 147) (lv' := [(5, .int r.1), (0, .ref 3000), (1, .ref 0), (2, .ref 14), (3, .ref 22), (4, .int i)]) (st' := [.ref 14]) (σ' := (q, Lg)) rfl ⟨trivial, trivial⟩ ?_
  refine x_callV C (k := 14) (ci := 8) (rest := []) (avs := []) (k_X11_thrown l q Lg hI2) yoX11_thrown ml_L_57 rfl rfl rfl rfl ⟨hc, hs⟩ (show decode cL_law 147 = .ok (.invokevirtual 57, 3) from by decide +kernel) rfl (fun v σ' hPo => ?_)
  obtain ⟨⟨rfl, rfl⟩, -, -⟩ := hPo
  show V (cells + 1) (slots + 6) 150 [(5, .int r.1), (0, .ref 3000), (1, .ref 0), (2, .ref 14), (3, .ref 22), (4, .int i)] [.int (q 14 0)] LAY (q, Lg)
  refine x_run C [(150, .iload 5, 2, .null)] (by decide +kernel) (pc' := 152) (lv' := [(5, .int r.1), (0, .ref 3000), (1, .ref 0), (2, .ref 14), (3, .ref 22), (4, .int i)]) (st' := [.int r.1, .int (q 14 0)]) (σ' := (q, Lg)) rfl ⟨trivial, trivial⟩ ?_
  refine x_icmp_eq C (show decode cL_law 152 = .ok (.if_icmp .eq 5, 3) from by decide +kernel) (tgt := 157) (by decide) (fun _ => ?_) (fun c0 => x_ab (c0 hq.1.symm) C)
  refine x_goto C (tgt := 708) (show decode cL_law 157 = .ok (.goto 551, 3) from by decide +kernel) (by decide) ?_
  refine x_lv C [1, 2, 3, 4, 5] rfl ?_
  exact next _ _ (LI.go h hK hI2 hlo hq.2)
set_option maxRecDepth 20000 in
set_option maxHeartbeats 4000000 in
theorem c_L_1 {l : Launch} {nm : String} {V : XJ} {n : Nat} {xs : Nat → Int32} (C : C_L l nm V) (S : XLs V n xs) (hst : l.stackTraces = false) {i : Int32} (h1 : vp_in (i + 1) n) (h2 : vp_in (i + 2) n) (h3 : vp_in (i + 3) n) (h4 : vp_in (i + 4) n) {M : St} {Lg : Nat → Nat → Int64} (h : LI M) {cells slots : Nat} (hc : cells + 1 ≤ 1057) (hs : slots + 6 ≤ 12791) (next : ∀ M' L', LI M' → V (cells + 1) (slots + 6) 708 [(0, .ref 3000), (1, .ref 0), (2, .ref 14), (3, .ref 22), (4, .int i)] [] LAY (M', L')) : V cells slots 160 [(0, .ref 3000), (1, .ref 0), (2, .ref 14), (3, .ref 22), (4, .int i)] [] LAY (M, Lg) := by
  refine x_run C [(160, .aload_n 1, 1, .null), (161, .aload_n 0, 1, .null), (162, .iload 4, 2, .null), (164, .iconst 1, 1, .int 1), (165, .iadd, 1, .null)] (by decide +kernel) (pc' := 166) (lv' := [(0, .ref 3000), (1, .ref 0), (2, .ref 14), (3, .ref 22), (4, .int i)]) (st' := [.int (i + 1), .ref 3000, .ref 0]) (σ' := (M, Lg)) rfl ⟨trivial, trivial, trivial, trivial, trivial, trivial⟩ ?_
  refine S.1 _ _ 166 _ _ _ _ (i + 1) (by decide +kernel) h1 ?_
  refine x_run C [(167, .aload_n 0, 1, .null), (168, .iload 4, 2, .null), (170, .iconst 2, 1, .int 2), (171, .iadd, 1, .null)] (by decide +kernel) (pc' := 172) (lv' := [(0, .ref 3000), (1, .ref 0), (2, .ref 14), (3, .ref 22), (4, .int i)]) (st' := [.int (i + 2), .ref 3000, .int (xs ((i + 1)).toNatClampNeg), .ref 0]) (σ' := (M, Lg)) rfl ⟨trivial, trivial, trivial, trivial, trivial⟩ ?_
  refine S.1 _ _ 172 _ _ _ _ (i + 2) (by decide +kernel) h2 ?_
  refine x_run C [(173, .aload_n 0, 1, .null), (174, .iload 4, 2, .null), (176, .iconst 3, 1, .int 3), (177, .iadd, 1, .null)] (by decide +kernel) (pc' := 178) (lv' := [(0, .ref 3000), (1, .ref 0), (2, .ref 14), (3, .ref 22), (4, .int i)]) (st' := [.int (i + 3), .ref 3000, .int (xs ((i + 2)).toNatClampNeg), .int (xs ((i + 1)).toNatClampNeg), .ref 0]) (σ' := (M, Lg)) rfl ⟨trivial, trivial, trivial, trivial, trivial⟩ ?_
  refine S.1 _ _ 178 _ _ _ _ (i + 3) (by decide +kernel) h3 ?_
  refine x_run C [(179, .i2l, 1, .null), (180, .bipush 32, 2, .int 32), (182, .lshl, 1, .null), (183, .aload_n 0, 1, .null), (184, .iload 4, 2, .null), (186, .iconst 4, 1, .int 4), (187, .iadd, 1, .null)] (by decide +kernel) (pc' := 188) (lv' := [(0, .ref 3000), (1, .ref 0), (2, .ref 14), (3, .ref 22), (4, .int i)]) (st' := [.int (i + 4), .ref 3000, .long (((xs ((i + 3)).toNatClampNeg)).toInt64 <<< (Int32.toInt64 32 &&& 63)), .int (xs ((i + 2)).toNatClampNeg), .int (xs ((i + 1)).toNatClampNeg), .ref 0]) (σ' := (M, Lg)) rfl ⟨trivial, trivial, trivial, trivial, trivial, trivial, trivial, trivial⟩ ?_
  refine S.1 _ _ 188 _ _ _ _ (i + 4) (by decide +kernel) h4 ?_
  refine x_run C [(189, .i2l, 1, .null), (190, .ldc2_w 60, 3, .null), (193, .land, 1, .null), (194, .lor, 1, .null)] (by decide +kernel) (pc' := 195) (lv' := [(0, .ref 3000), (1, .ref 0), (2, .ref 14), (3, .ref 22), (4, .int i)]) (st' := [.long ((((xs ((i + 3)).toNatClampNeg)).toInt64 <<< (Int32.toInt64 32 &&& 63)) ||| (((xs ((i + 4)).toNatClampNeg)).toInt64 &&& 4294967295)), .int (xs ((i + 2)).toNatClampNeg), .int (xs ((i + 1)).toNatClampNeg), .ref 0]) (σ' := (M, Lg)) rfl ⟨trivial, trivial, trivial, trivial, trivial⟩ ?_
  refine x_callSW C (rest := []) (k_L_fill l hst ((xs ((i + 1)).toNatClampNeg)) ((xs ((i + 2)).toNatClampNeg)) (((((xs ((i + 3)).toNatClampNeg)).toInt64 <<< (Int32.toInt64 32 &&& 63)) ||| (((xs ((i + 4)).toNatClampNeg)).toInt64 &&& 4294967295))) M Lg h.2.2) yo_L_fill ml_L_62 ⟨by decide, by decide, by decide⟩ ⟨hc, hs⟩ (show decode cL_law 195 = .ok (.invokestatic 62, 3) from by decide +kernel) rfl (fun v σ' hPo => ?_)
  obtain ⟨rfl, rfl, hK⟩ := hPo
  have hm := LI.mid h (M1 := (f_X10_fill ((xs ((i + 1)).toNatClampNeg)) ((xs ((i + 2)).toNatClampNeg)) (((((xs ((i + 3)).toNatClampNeg)).toInt64 <<< (Int32.toInt64 32 &&& 63)) ||| (((xs ((i + 4)).toNatClampNeg)).toInt64 &&& 4294967295))) M).2) (fun p hp => hi_fill hp)
  have hq := fillR2 (a := (xs ((i + 1)).toNatClampNeg)) (n := (xs ((i + 2)).toNatClampNeg)) (v := ((((xs ((i + 3)).toNatClampNeg)).toInt64 <<< (Int32.toInt64 32 &&& 63)) ||| (((xs ((i + 4)).toNatClampNeg)).toInt64 &&& 4294967295))) hm.1
  generalize hr : f_X10_fill ((xs ((i + 1)).toNatClampNeg)) ((xs ((i + 2)).toNatClampNeg)) (((((xs ((i + 3)).toNatClampNeg)).toInt64 <<< (Int32.toInt64 32 &&& 63)) ||| (((xs ((i + 4)).toNatClampNeg)).toInt64 &&& 4294967295))) M = r at hK hm hq ⊢
  show V (cells + 1) (slots + 6) 198 [(0, .ref 3000), (1, .ref 0), (2, .ref 14), (3, .ref 22), (4, .int i)] [.int r.1] LAY (r.2, Lg)
  refine x_run C [(198, .istore 5, 2, .null), (200, .aload_n 2, 1, .null), (201, .aload_n 0, 1, .null), (202, .iload 4, 2, .null), (204, .iconst 1, 1, .int 1), (205, .iadd, 1, .null)] (by decide +kernel) (pc' := 206) (lv' := [(5, .int r.1), (0, .ref 3000), (1, .ref 0), (2, .ref 14), (3, .ref 22), (4, .int i)]) (st' := [.int (i + 1), .ref 3000, .ref 14]) (σ' := (r.2, Lg)) rfl ⟨trivial, trivial, trivial, trivial, trivial, trivial, trivial⟩ ?_
  refine S.1 _ _ 206 _ _ _ _ (i + 1) (by decide +kernel) h1 ?_
  refine x_run C [(207, .aload_n 0, 1, .null), (208, .iload 4, 2, .null), (210, .iconst 2, 1, .int 2), (211, .iadd, 1, .null)] (by decide +kernel) (pc' := 212) (lv' := [(5, .int r.1), (0, .ref 3000), (1, .ref 0), (2, .ref 14), (3, .ref 22), (4, .int i)]) (st' := [.int (i + 2), .ref 3000, .int (xs ((i + 1)).toNatClampNeg), .ref 14]) (σ' := (r.2, Lg)) rfl ⟨trivial, trivial, trivial, trivial, trivial⟩ ?_
  refine S.1 _ _ 212 _ _ _ _ (i + 2) (by decide +kernel) h2 ?_
  refine x_run C [(213, .aload_n 0, 1, .null), (214, .iload 4, 2, .null), (216, .iconst 3, 1, .int 3), (217, .iadd, 1, .null)] (by decide +kernel) (pc' := 218) (lv' := [(5, .int r.1), (0, .ref 3000), (1, .ref 0), (2, .ref 14), (3, .ref 22), (4, .int i)]) (st' := [.int (i + 3), .ref 3000, .int (xs ((i + 2)).toNatClampNeg), .int (xs ((i + 1)).toNatClampNeg), .ref 14]) (σ' := (r.2, Lg)) rfl ⟨trivial, trivial, trivial, trivial, trivial⟩ ?_
  refine S.1 _ _ 218 _ _ _ _ (i + 3) (by decide +kernel) h3 ?_
  refine x_run C [(219, .i2l, 1, .null), (220, .bipush 32, 2, .int 32), (222, .lshl, 1, .null), (223, .aload_n 0, 1, .null), (224, .iload 4, 2, .null), (226, .iconst 4, 1, .int 4), (227, .iadd, 1, .null)] (by decide +kernel) (pc' := 228) (lv' := [(5, .int r.1), (0, .ref 3000), (1, .ref 0), (2, .ref 14), (3, .ref 22), (4, .int i)]) (st' := [.int (i + 4), .ref 3000, .long (((xs ((i + 3)).toNatClampNeg)).toInt64 <<< (Int32.toInt64 32 &&& 63)), .int (xs ((i + 2)).toNatClampNeg), .int (xs ((i + 1)).toNatClampNeg), .ref 14]) (σ' := (r.2, Lg)) rfl ⟨trivial, trivial, trivial, trivial, trivial, trivial, trivial, trivial⟩ ?_
  refine S.1 _ _ 228 _ _ _ _ (i + 4) (by decide +kernel) h4 ?_
  refine x_run C [(229, .i2l, 1, .null), (230, .ldc2_w 60, 3, .null), (233, .land, 1, .null), (234, .lor, 1, .null)] (by decide +kernel) (pc' := 235) (lv' := [(5, .int r.1), (0, .ref 3000), (1, .ref 0), (2, .ref 14), (3, .ref 22), (4, .int i)]) (st' := [.long ((((xs ((i + 3)).toNatClampNeg)).toInt64 <<< (Int32.toInt64 32 &&& 63)) ||| (((xs ((i + 4)).toNatClampNeg)).toInt64 &&& 4294967295)), .int (xs ((i + 2)).toNatClampNeg), .int (xs ((i + 1)).toNatClampNeg), .ref 14]) (σ' := (r.2, Lg)) rfl ⟨trivial, trivial, trivial, trivial, trivial⟩ ?_
  refine x_callV C (k := 14) (ci := 8) (rest := []) (avs := [.int ((xs ((i + 1)).toNatClampNeg)), .int ((xs ((i + 2)).toNatClampNeg)), .long (((((xs ((i + 3)).toNatClampNeg)).toInt64 <<< (Int32.toInt64 32 &&& 63)) ||| (((xs ((i + 4)).toNatClampNeg)).toInt64 &&& 4294967295)))]) (k_X11_fill l ((xs ((i + 1)).toNatClampNeg)) ((xs ((i + 2)).toNatClampNeg)) (((((xs ((i + 3)).toNatClampNeg)).toInt64 <<< (Int32.toInt64 32 &&& 63)) ||| (((xs ((i + 4)).toNatClampNeg)).toInt64 &&& 4294967295))) r.2 Lg hm.2) yoX11_fill ml_L_65 rfl rfl rfl rfl ⟨hc, hs⟩ (show decode cL_law 235 = .ok (.invokevirtual 65, 3) from by decide +kernel) rfl (fun v σ' hPo => ?_)
  obtain ⟨⟨rfl, rfl⟩, hI2⟩ := hPo
  have hlo : ∀ p, p < 14 → (f_X11_fill ((xs ((i + 1)).toNatClampNeg)) ((xs ((i + 2)).toNatClampNeg)) (((((xs ((i + 3)).toNatClampNeg)).toInt64 <<< (Int32.toInt64 32 &&& 63)) ||| (((xs ((i + 4)).toNatClampNeg)).toInt64 &&& 4294967295))) r.2) p = (r.2) p := fun p hp => lo_fill hp
  generalize f_X11_fill ((xs ((i + 1)).toNatClampNeg)) ((xs ((i + 2)).toNatClampNeg)) (((((xs ((i + 3)).toNatClampNeg)).toInt64 <<< (Int32.toInt64 32 &&& 63)) ||| (((xs ((i + 4)).toNatClampNeg)).toInt64 &&& 4294967295))) r.2 = q at hI2 hq hlo ⊢
  show V (cells + 1) (slots + 6) 238 [(5, .int r.1), (0, .ref 3000), (1, .ref 0), (2, .ref 14), (3, .ref 22), (4, .int i)] [] LAY (q, Lg)
  refine x_run C [(238, .aload_n 2, 1, .null)] (by decide +kernel) (pc' := 239) (lv' := [(5, .int r.1), (0, .ref 3000), (1, .ref 0), (2, .ref 14), (3, .ref 22), (4, .int i)]) (st' := [.ref 14]) (σ' := (q, Lg)) rfl ⟨trivial, trivial⟩ ?_
  refine x_callV C (k := 14) (ci := 8) (rest := []) (avs := []) (k_X11_thrown l q Lg hI2) yoX11_thrown ml_L_57 rfl rfl rfl rfl ⟨hc, hs⟩ (show decode cL_law 239 = .ok (.invokevirtual 57, 3) from by decide +kernel) rfl (fun v σ' hPo => ?_)
  obtain ⟨⟨rfl, rfl⟩, -, -⟩ := hPo
  show V (cells + 1) (slots + 6) 242 [(5, .int r.1), (0, .ref 3000), (1, .ref 0), (2, .ref 14), (3, .ref 22), (4, .int i)] [.int (q 14 0)] LAY (q, Lg)
  refine x_run C [(242, .iload 5, 2, .null)] (by decide +kernel) (pc' := 244) (lv' := [(5, .int r.1), (0, .ref 3000), (1, .ref 0), (2, .ref 14), (3, .ref 22), (4, .int i)]) (st' := [.int r.1, .int (q 14 0)]) (σ' := (q, Lg)) rfl ⟨trivial, trivial⟩ ?_
  refine x_icmp_eq C (show decode cL_law 244 = .ok (.if_icmp .eq 5, 3) from by decide +kernel) (tgt := 249) (by decide) (fun _ => ?_) (fun c0 => x_ab (c0 hq.1.symm) C)
  refine x_goto C (tgt := 708) (show decode cL_law 249 = .ok (.goto 459, 3) from by decide +kernel) (by decide) ?_
  refine x_lv C [1, 2, 3, 4, 5] rfl ?_
  exact next _ _ (LI.go h hK hI2 hlo hq.2)
set_option maxRecDepth 20000 in
set_option maxHeartbeats 4000000 in
theorem c_L_2 {l : Launch} {nm : String} {V : XJ} {n : Nat} {xs : Nat → Int32} (C : C_L l nm V) (S : XLs V n xs) (hst : l.stackTraces = false) {i : Int32} (h1 : vp_in (i + 1) n) (h2 : vp_in (i + 2) n) (h3 : vp_in (i + 3) n) (h4 : vp_in (i + 4) n) {M : St} {Lg : Nat → Nat → Int64} (h : LI M) {cells slots : Nat} (hc : cells + 1 ≤ 1057) (hs : slots + 6 ≤ 12791) (next : ∀ M' L', LI M' → V (cells + 1) (slots + 6) 708 [(0, .ref 3000), (1, .ref 0), (2, .ref 14), (3, .ref 22), (4, .int i)] [] LAY (M', L')) : V cells slots 252 [(0, .ref 3000), (1, .ref 0), (2, .ref 14), (3, .ref 22), (4, .int i)] [] LAY (M, Lg) := by
  refine x_run C [(252, .aload_n 1, 1, .null), (253, .aload_n 0, 1, .null), (254, .iload 4, 2, .null), (256, .iconst 1, 1, .int 1), (257, .iadd, 1, .null)] (by decide +kernel) (pc' := 258) (lv' := [(0, .ref 3000), (1, .ref 0), (2, .ref 14), (3, .ref 22), (4, .int i)]) (st' := [.int (i + 1), .ref 3000, .ref 0]) (σ' := (M, Lg)) rfl ⟨trivial, trivial, trivial, trivial, trivial, trivial⟩ ?_
  refine S.1 _ _ 258 _ _ _ _ (i + 1) (by decide +kernel) h1 ?_
  refine x_callSW C (rest := []) (k_L_fence l hst ((xs ((i + 1)).toNatClampNeg)) M Lg h.2.2) yo_L_fence ml_L_66 ⟨by decide, by decide, by decide⟩ ⟨hc, hs⟩ (show decode cL_law 259 = .ok (.invokestatic 66, 3) from by decide +kernel) rfl (fun v σ' hPo => ?_)
  obtain ⟨rfl, rfl, hK⟩ := hPo
  have hm := LI.mid h (M1 := (f_X10_fence ((xs ((i + 1)).toNatClampNeg)) M).2) (fun p hp => hi_fence hp)
  have hq := fenceR2 (a := (xs ((i + 1)).toNatClampNeg)) hm.1
  generalize hr : f_X10_fence ((xs ((i + 1)).toNatClampNeg)) M = r at hK hm hq ⊢
  show V (cells + 1) (slots + 6) 262 [(0, .ref 3000), (1, .ref 0), (2, .ref 14), (3, .ref 22), (4, .int i)] [.int r.1] LAY (r.2, Lg)
  refine x_run C [(262, .istore 5, 2, .null), (264, .aload_n 2, 1, .null), (265, .aload_n 0, 1, .null), (266, .iload 4, 2, .null), (268, .iconst 1, 1, .int 1), (269, .iadd, 1, .null)] (by decide +kernel) (pc' := 270) (lv' := [(5, .int r.1), (0, .ref 3000), (1, .ref 0), (2, .ref 14), (3, .ref 22), (4, .int i)]) (st' := [.int (i + 1), .ref 3000, .ref 14]) (σ' := (r.2, Lg)) rfl ⟨trivial, trivial, trivial, trivial, trivial, trivial, trivial⟩ ?_
  refine S.1 _ _ 270 _ _ _ _ (i + 1) (by decide +kernel) h1 ?_
  refine x_callV C (k := 14) (ci := 8) (rest := []) (avs := [.int ((xs ((i + 1)).toNatClampNeg))]) (k_X11_fence l ((xs ((i + 1)).toNatClampNeg)) r.2 Lg hm.2) yoX11_fence ml_L_69 rfl rfl rfl rfl ⟨hc, hs⟩ (show decode cL_law 271 = .ok (.invokevirtual 69, 3) from by decide +kernel) rfl (fun v σ' hPo => ?_)
  obtain ⟨⟨rfl, rfl⟩, hI2⟩ := hPo
  have hlo : ∀ p, p < 14 → (f_X11_fence ((xs ((i + 1)).toNatClampNeg)) r.2) p = (r.2) p := fun p hp => fr_X11_fence (xn_lo hp (by decide))
  generalize f_X11_fence ((xs ((i + 1)).toNatClampNeg)) r.2 = q at hI2 hq hlo ⊢
  show V (cells + 1) (slots + 6) 274 [(5, .int r.1), (0, .ref 3000), (1, .ref 0), (2, .ref 14), (3, .ref 22), (4, .int i)] [] LAY (q, Lg)
  refine x_run C [(274, .aload_n 2, 1, .null)] (by decide +kernel) (pc' := 275) (lv' := [(5, .int r.1), (0, .ref 3000), (1, .ref 0), (2, .ref 14), (3, .ref 22), (4, .int i)]) (st' := [.ref 14]) (σ' := (q, Lg)) rfl ⟨trivial, trivial⟩ ?_
  refine x_callV C (k := 14) (ci := 8) (rest := []) (avs := []) (k_X11_thrown l q Lg hI2) yoX11_thrown ml_L_57 rfl rfl rfl rfl ⟨hc, hs⟩ (show decode cL_law 275 = .ok (.invokevirtual 57, 3) from by decide +kernel) rfl (fun v σ' hPo => ?_)
  obtain ⟨⟨rfl, rfl⟩, -, -⟩ := hPo
  show V (cells + 1) (slots + 6) 278 [(5, .int r.1), (0, .ref 3000), (1, .ref 0), (2, .ref 14), (3, .ref 22), (4, .int i)] [.int (q 14 0)] LAY (q, Lg)
  refine x_run C [(278, .iload 5, 2, .null)] (by decide +kernel) (pc' := 280) (lv' := [(5, .int r.1), (0, .ref 3000), (1, .ref 0), (2, .ref 14), (3, .ref 22), (4, .int i)]) (st' := [.int r.1, .int (q 14 0)]) (σ' := (q, Lg)) rfl ⟨trivial, trivial⟩ ?_
  refine x_icmp_eq C (show decode cL_law 280 = .ok (.if_icmp .eq 5, 3) from by decide +kernel) (tgt := 285) (by decide) (fun _ => ?_) (fun c0 => x_ab (c0 hq.1.symm) C)
  refine x_goto C (tgt := 708) (show decode cL_law 285 = .ok (.goto 423, 3) from by decide +kernel) (by decide) ?_
  refine x_lv C [1, 2, 3, 4, 5] rfl ?_
  exact next _ _ (LI.go h hK hI2 hlo hq.2)
set_option maxRecDepth 20000 in
set_option maxHeartbeats 4000000 in
theorem c_L_3 {l : Launch} {nm : String} {V : XJ} {n : Nat} {xs : Nat → Int32} (C : C_L l nm V) (S : XLs V n xs) (hst : l.stackTraces = false) {i : Int32} (h1 : vp_in (i + 1) n) (h2 : vp_in (i + 2) n) (h3 : vp_in (i + 3) n) (h4 : vp_in (i + 4) n) {M : St} {Lg : Nat → Nat → Int64} (h : LI M) {cells slots : Nat} (hc : cells + 1 ≤ 1057) (hs : slots + 6 ≤ 12791) (next : ∀ M' L', LI M' → V (cells + 1) (slots + 6) 708 [(0, .ref 3000), (1, .ref 0), (2, .ref 14), (3, .ref 22), (4, .int i)] [] LAY (M', L')) : V cells slots 288 [(0, .ref 3000), (1, .ref 0), (2, .ref 14), (3, .ref 22), (4, .int i)] [] LAY (M, Lg) := by
  refine x_run C [(288, .aload_n 1, 1, .null)] (by decide +kernel) (pc' := 289) (lv' := [(0, .ref 3000), (1, .ref 0), (2, .ref 14), (3, .ref 22), (4, .int i)]) (st' := [.ref 0]) (σ' := (M, Lg)) rfl ⟨trivial, trivial⟩ ?_
  refine x_callV C (k := 0) (ci := 7) (rest := []) (avs := []) (k_X10_reset l  M Lg h.2.2) yoX10_reset ml_L_70 rfl rfl rfl rfl ⟨Nat.le_of_succ_le hc, Nat.le_trans (Nat.le_add_right _ 6) hs⟩ (show decode cL_law 289 = .ok (.invokevirtual 70, 3) from by decide +kernel) rfl (fun v σ' hPo => ?_)
  obtain ⟨⟨rfl, rfl⟩, hK⟩ := hPo
  have hm := LI.mid h (M1 := (f_X10_reset M)) (fun p hp => fr_X10_reset (xn_hi hp (by decide)))
  have hq := resetR hm.1
  show V cells slots 292 [(0, .ref 3000), (1, .ref 0), (2, .ref 14), (3, .ref 22), (4, .int i)] [] LAY ((f_X10_reset M), Lg)
  refine x_run C [(292, .aload_n 2, 1, .null)] (by decide +kernel) (pc' := 293) (lv' := [(0, .ref 3000), (1, .ref 0), (2, .ref 14), (3, .ref 22), (4, .int i)]) (st' := [.ref 14]) (σ' := ((f_X10_reset M), Lg)) rfl ⟨trivial, trivial⟩ ?_
  refine x_callV C (k := 14) (ci := 8) (rest := []) (avs := []) (k_X11_reset l  (f_X10_reset M) Lg hm.2) yoX11_reset ml_L_73 rfl rfl rfl rfl ⟨Nat.le_of_succ_le hc, Nat.le_trans (Nat.le_add_right _ 6) hs⟩ (show decode cL_law 293 = .ok (.invokevirtual 73, 3) from by decide +kernel) rfl (fun v σ' hPo => ?_)
  obtain ⟨⟨rfl, rfl⟩, hI2⟩ := hPo
  show V cells slots 296 [(0, .ref 3000), (1, .ref 0), (2, .ref 14), (3, .ref 22), (4, .int i)] [] LAY ((f_X11_reset (f_X10_reset M)), Lg)
  refine x_goto C (tgt := 708) (show decode cL_law 296 = .ok (.goto 412, 3) from by decide +kernel) (by decide) ?_
  refine x_wid C (Nat.le_add_right _ 1) (Nat.le_add_right _ 6) ?_
  exact next _ _ (LI.go h hK hI2 (fun p hp => fr_X11_reset (xn_lo hp (by decide))) hq)
set_option maxRecDepth 20000 in
set_option maxHeartbeats 4000000 in
theorem c_L_4 {l : Launch} {nm : String} {V : XJ} {n : Nat} {xs : Nat → Int32} (C : C_L l nm V) (S : XLs V n xs) (hst : l.stackTraces = false) {i : Int32} (h1 : vp_in (i + 1) n) (h2 : vp_in (i + 2) n) (h3 : vp_in (i + 3) n) (h4 : vp_in (i + 4) n) {M : St} {Lg : Nat → Nat → Int64} (h : LI M) {cells slots : Nat} (hc : cells + 1 ≤ 1057) (hs : slots + 6 ≤ 12791) (next : ∀ M' L', LI M' → V (cells + 1) (slots + 6) 708 [(0, .ref 3000), (1, .ref 0), (2, .ref 14), (3, .ref 22), (4, .int i)] [] LAY (M', L')) : V cells slots 299 [(0, .ref 3000), (1, .ref 0), (2, .ref 14), (3, .ref 22), (4, .int i)] [] LAY (M, Lg) := by
  refine x_run C [(299, .aload_n 1, 1, .null), (300, .aload_n 3, 1, .null)] (by decide +kernel) (pc' := 301) (lv' := [(0, .ref 3000), (1, .ref 0), (2, .ref 14), (3, .ref 22), (4, .int i)]) (st' := [.ref 22, .ref 0]) (σ' := (M, Lg)) rfl ⟨trivial, trivial, trivial⟩ ?_
  refine x_callSW C (rest := []) (k_L_step l hst  M Lg h.2.2) yo_L_step ml_L_74 ⟨by decide, by decide, by decide⟩ ⟨hc, hs⟩ (show decode cL_law 301 = .ok (.invokestatic 74, 3) from by decide +kernel) rfl (fun v σ' hPo => ?_)
  obtain ⟨rfl, rfl, hK⟩ := hPo
  have hm := LI.mid h (M1 := (f_X10_step  M).2.2) (fun p hp => hi_step hp)
  have hq := stepR2  hm.1
  generalize hr : f_X10_step  M = r at hK hm hq ⊢
  generalize hL : (if r.1 = 0 then xupL Lg 22 0 r.2.1.toInt64 else Lg) = L1
  show V (cells + 1) (slots + 6) 304 [(0, .ref 3000), (1, .ref 0), (2, .ref 14), (3, .ref 22), (4, .int i)] [.int r.1] LAY (r.2.2, L1)
  refine x_run C [(304, .istore 5, 2, .null), (306, .aload_n 2, 1, .null)] (by decide +kernel) (pc' := 307) (lv' := [(5, .int r.1), (0, .ref 3000), (1, .ref 0), (2, .ref 14), (3, .ref 22), (4, .int i)]) (st' := [.ref 14]) (σ' := (r.2.2, L1)) rfl ⟨trivial, trivial, trivial⟩ ?_
  refine x_callV C (k := 14) (ci := 8) (rest := []) (avs := []) (k_X11_step l  r.2.2 L1 hm.2) yoX11_step ml_L_77 rfl rfl rfl rfl ⟨hc, hs⟩ (show decode cL_law 307 = .ok (.invokevirtual 77, 3) from by decide +kernel) rfl (fun v σ' hPo => ?_)
  obtain ⟨⟨rfl, rfl⟩, -, hI2⟩ := hPo
  have hlo : ∀ p, p < 14 → (f_X11_step  r.2.2).2 p = (r.2.2) p := fun p hp => fr_X11_step (xn_lo hp (by decide))
  generalize f_X11_step  r.2.2 = q at hI2 hq hlo ⊢
  show V (cells + 1) (slots + 6) 310 [(5, .int r.1), (0, .ref 3000), (1, .ref 0), (2, .ref 14), (3, .ref 22), (4, .int i)] [.int q.1] LAY (q.2, L1)
  refine x_run C [(310, .istore 6, 2, .null), (312, .aload_n 2, 1, .null)] (by decide +kernel) (pc' := 313) (lv' := [(6, .int q.1), (5, .int r.1), (0, .ref 3000), (1, .ref 0), (2, .ref 14), (3, .ref 22), (4, .int i)]) (st' := [.ref 14]) (σ' := (q.2, L1)) rfl ⟨trivial, trivial, trivial⟩ ?_
  refine x_callV C (k := 14) (ci := 8) (rest := []) (avs := []) (k_X11_thrown l q.2 L1 hI2) yoX11_thrown ml_L_57 rfl rfl rfl rfl ⟨hc, hs⟩ (show decode cL_law 313 = .ok (.invokevirtual 57, 3) from by decide +kernel) rfl (fun v σ' hPo => ?_)
  obtain ⟨⟨rfl, rfl⟩, -, -⟩ := hPo
  show V (cells + 1) (slots + 6) 316 [(6, .int q.1), (5, .int r.1), (0, .ref 3000), (1, .ref 0), (2, .ref 14), (3, .ref 22), (4, .int i)] [.int (q.2 14 0)] LAY (q.2, L1)
  refine x_run C [(316, .iload 5, 2, .null)] (by decide +kernel) (pc' := 318) (lv' := [(6, .int q.1), (5, .int r.1), (0, .ref 3000), (1, .ref 0), (2, .ref 14), (3, .ref 22), (4, .int i)]) (st' := [.int r.1, .int (q.2 14 0)]) (σ' := (q.2, L1)) rfl ⟨trivial, trivial⟩ ?_
  refine x_icmp_eq C (show decode cL_law 318 = .ok (.if_icmp .eq 5, 3) from by decide +kernel) (tgt := 323) (by decide) (fun _ => ?_) (fun c0 => x_ab (c0 hq.1.symm) C)
  show V (cells + 1) (slots + 6) 323 [(6, .int q.1), (5, .int r.1), (0, .ref 3000), (1, .ref 0), (2, .ref 14), (3, .ref 22), (4, .int i)] [] LAY (q.2, L1)
  refine x_run C [(323, .iload 5, 2, .null)] (by decide +kernel) (pc' := 325) (lv' := [(6, .int q.1), (5, .int r.1), (0, .ref 3000), (1, .ref 0), (2, .ref 14), (3, .ref 22), (4, .int i)]) (st' := [.int r.1]) (σ' := (q.2, L1)) rfl ⟨trivial, trivial⟩ ?_
  have fin : V (cells + 1) (slots + 6) 340 [(6, .int q.1), (5, .int r.1), (0, .ref 3000), (1, .ref 0), (2, .ref 14), (3, .ref 22), (4, .int i)] [] LAY (q.2, L1) := by
    refine x_goto C (tgt := 708) (show decode cL_law 340 = .ok (.goto 368, 3) from by decide +kernel) (by decide) ?_
    refine x_lv C [2, 3, 4, 5, 6] rfl ?_
    exact next _ _ (LI.go h hK hI2 hlo hq.2.2)
  refine x_if_ne C (show decode cL_law 325 = .ok (.ifCond .ne 15, 3) from by decide +kernel) (tgt := 340) (by decide) (fun _ => fin) (fun c1 => ?_)
  have hL1 : L1 22 0 = q.1.toInt64 := by rw [← hL, if_pos c1, ← hq.2.1 c1]; rfl
  refine x_run C [(328, .aload_n 3, 1, .null), (329, .iconst 0, 1, .int 0), (330, .laload, 1, .null), (331, .iload 6, 2, .null), (333, .i2l, 1, .null), (334, .lcmp, 1, .null)] (by decide +kernel) (pc' := 335) (lv' := [(6, .int q.1), (5, .int r.1), (0, .ref 3000), (1, .ref 0), (2, .ref 14), (3, .ref 22), (4, .int i)]) (st' := [.int (lg_cmp (L1 22 0) (q.1).toInt64)]) (σ' := (q.2, L1)) rfl ⟨trivial, trivial, (vpi (by decide)), trivial, trivial, trivial, trivial⟩ ?_
  exact x_if_eq C (show decode cL_law 335 = .ok (.ifCond .eq 5, 3) from by decide +kernel) (tgt := 340) (by decide) (fun _ => fin) (fun c2 => x_ab (c2 (by rw [hL1]; exact (lg_cmp_eq _ _).mpr rfl)) C)
set_option maxRecDepth 20000 in
set_option maxHeartbeats 4000000 in
theorem c_L_5 {l : Launch} {nm : String} {V : XJ} {n : Nat} {xs : Nat → Int32} (C : C_L l nm V) (S : XLs V n xs) (hst : l.stackTraces = false) {i : Int32} (h1 : vp_in (i + 1) n) (h2 : vp_in (i + 2) n) (h3 : vp_in (i + 3) n) (h4 : vp_in (i + 4) n) {M : St} {Lg : Nat → Nat → Int64} (h : LI M) {cells slots : Nat} (hc : cells + 1 ≤ 1057) (hs : slots + 6 ≤ 12791) (next : ∀ M' L', LI M' → V (cells + 1) (slots + 6) 708 [(0, .ref 3000), (1, .ref 0), (2, .ref 14), (3, .ref 22), (4, .int i)] [] LAY (M', L')) : V cells slots 343 [(0, .ref 3000), (1, .ref 0), (2, .ref 14), (3, .ref 22), (4, .int i)] [] LAY (M, Lg) := by
  refine x_run C [(343, .aload_n 1, 1, .null), (344, .aload_n 0, 1, .null), (345, .iload 4, 2, .null), (347, .iconst 1, 1, .int 1), (348, .iadd, 1, .null)] (by decide +kernel) (pc' := 349) (lv' := [(0, .ref 3000), (1, .ref 0), (2, .ref 14), (3, .ref 22), (4, .int i)]) (st' := [.int (i + 1), .ref 3000, .ref 0]) (σ' := (M, Lg)) rfl ⟨trivial, trivial, trivial, trivial, trivial, trivial⟩ ?_
  refine S.1 _ _ 349 _ _ _ _ (i + 1) (by decide +kernel) h1 ?_
  refine x_run C [(350, .aload_n 3, 1, .null)] (by decide +kernel) (pc' := 351) (lv' := [(0, .ref 3000), (1, .ref 0), (2, .ref 14), (3, .ref 22), (4, .int i)]) (st' := [.ref 22, .int (xs ((i + 1)).toNatClampNeg), .ref 0]) (σ' := (M, Lg)) rfl ⟨trivial, trivial⟩ ?_
  refine x_callSW C (rest := []) (k_L_run l hst ((xs ((i + 1)).toNatClampNeg)) M Lg h.2.2) yo_L_run ml_L_78 ⟨by decide, by decide, by decide⟩ ⟨hc, hs⟩ (show decode cL_law 351 = .ok (.invokestatic 78, 3) from by decide +kernel) rfl (fun v σ' hPo => ?_)
  obtain ⟨rfl, rfl, hK⟩ := hPo
  have hm := LI.mid h (M1 := (f_X10_run ((xs ((i + 1)).toNatClampNeg)) M).2.2) (fun p hp => hi_run hp)
  have hq := runR (a := (xs ((i + 1)).toNatClampNeg)) hm.1
  generalize hr : f_X10_run ((xs ((i + 1)).toNatClampNeg)) M = r at hK hm hq ⊢
  generalize hL : (if r.1 = 0 then xupL Lg 22 0 r.2.1.toInt64 else Lg) = L1
  show V (cells + 1) (slots + 6) 354 [(0, .ref 3000), (1, .ref 0), (2, .ref 14), (3, .ref 22), (4, .int i)] [.int r.1] LAY (r.2.2, L1)
  refine x_run C [(354, .istore 5, 2, .null), (356, .aload_n 2, 1, .null), (357, .aload_n 0, 1, .null), (358, .iload 4, 2, .null), (360, .iconst 1, 1, .int 1), (361, .iadd, 1, .null)] (by decide +kernel) (pc' := 362) (lv' := [(5, .int r.1), (0, .ref 3000), (1, .ref 0), (2, .ref 14), (3, .ref 22), (4, .int i)]) (st' := [.int (i + 1), .ref 3000, .ref 14]) (σ' := (r.2.2, L1)) rfl ⟨trivial, trivial, trivial, trivial, trivial, trivial, trivial⟩ ?_
  refine S.1 _ _ 362 _ _ _ _ (i + 1) (by decide +kernel) h1 ?_
  refine x_callV C (k := 14) (ci := 8) (rest := []) (avs := [.int ((xs ((i + 1)).toNatClampNeg))]) (k_X11_run l ((xs ((i + 1)).toNatClampNeg)) r.2.2 L1 hm.2) yoX11_run ml_L_81 rfl rfl rfl rfl ⟨hc, hs⟩ (show decode cL_law 363 = .ok (.invokevirtual 81, 3) from by decide +kernel) rfl (fun v σ' hPo => ?_)
  obtain ⟨⟨rfl, rfl⟩, -, hI2⟩ := hPo
  have hlo : ∀ p, p < 14 → (f_X11_run ((xs ((i + 1)).toNatClampNeg)) r.2.2).2 p = (r.2.2) p := fun p hp => fr_X11_run (xn_lo hp (by decide))
  generalize f_X11_run ((xs ((i + 1)).toNatClampNeg)) r.2.2 = q at hI2 hq hlo ⊢
  show V (cells + 1) (slots + 6) 366 [(5, .int r.1), (0, .ref 3000), (1, .ref 0), (2, .ref 14), (3, .ref 22), (4, .int i)] [.int q.1] LAY (q.2, L1)
  refine x_run C [(366, .istore 6, 2, .null), (368, .aload_n 2, 1, .null)] (by decide +kernel) (pc' := 369) (lv' := [(6, .int q.1), (5, .int r.1), (0, .ref 3000), (1, .ref 0), (2, .ref 14), (3, .ref 22), (4, .int i)]) (st' := [.ref 14]) (σ' := (q.2, L1)) rfl ⟨trivial, trivial, trivial⟩ ?_
  refine x_callV C (k := 14) (ci := 8) (rest := []) (avs := []) (k_X11_thrown l q.2 L1 hI2) yoX11_thrown ml_L_57 rfl rfl rfl rfl ⟨hc, hs⟩ (show decode cL_law 369 = .ok (.invokevirtual 57, 3) from by decide +kernel) rfl (fun v σ' hPo => ?_)
  obtain ⟨⟨rfl, rfl⟩, -, -⟩ := hPo
  show V (cells + 1) (slots + 6) 372 [(6, .int q.1), (5, .int r.1), (0, .ref 3000), (1, .ref 0), (2, .ref 14), (3, .ref 22), (4, .int i)] [.int (q.2 14 0)] LAY (q.2, L1)
  refine x_run C [(372, .iload 5, 2, .null)] (by decide +kernel) (pc' := 374) (lv' := [(6, .int q.1), (5, .int r.1), (0, .ref 3000), (1, .ref 0), (2, .ref 14), (3, .ref 22), (4, .int i)]) (st' := [.int r.1, .int (q.2 14 0)]) (σ' := (q.2, L1)) rfl ⟨trivial, trivial⟩ ?_
  refine x_icmp_eq C (show decode cL_law 374 = .ok (.if_icmp .eq 5, 3) from by decide +kernel) (tgt := 379) (by decide) (fun _ => ?_) (fun c0 => x_ab (c0 hq.1.symm) C)
  show V (cells + 1) (slots + 6) 379 [(6, .int q.1), (5, .int r.1), (0, .ref 3000), (1, .ref 0), (2, .ref 14), (3, .ref 22), (4, .int i)] [] LAY (q.2, L1)
  refine x_run C [(379, .iload 5, 2, .null)] (by decide +kernel) (pc' := 381) (lv' := [(6, .int q.1), (5, .int r.1), (0, .ref 3000), (1, .ref 0), (2, .ref 14), (3, .ref 22), (4, .int i)]) (st' := [.int r.1]) (σ' := (q.2, L1)) rfl ⟨trivial, trivial⟩ ?_
  have fin : V (cells + 1) (slots + 6) 396 [(6, .int q.1), (5, .int r.1), (0, .ref 3000), (1, .ref 0), (2, .ref 14), (3, .ref 22), (4, .int i)] [] LAY (q.2, L1) := by
    refine x_goto C (tgt := 708) (show decode cL_law 396 = .ok (.goto 312, 3) from by decide +kernel) (by decide) ?_
    refine x_lv C [2, 3, 4, 5, 6] rfl ?_
    exact next _ _ (LI.go h hK hI2 hlo hq.2.2.2)
  refine x_if_ne C (show decode cL_law 381 = .ok (.ifCond .ne 15, 3) from by decide +kernel) (tgt := 396) (by decide) (fun _ => fin) (fun c1 => ?_)
  have hL1 : L1 22 0 = q.1.toInt64 := by rw [← hL, if_pos c1, ← hq.2.1 c1]; rfl
  refine x_run C [(384, .aload_n 3, 1, .null), (385, .iconst 0, 1, .int 0), (386, .laload, 1, .null), (387, .iload 6, 2, .null), (389, .i2l, 1, .null), (390, .lcmp, 1, .null)] (by decide +kernel) (pc' := 391) (lv' := [(6, .int q.1), (5, .int r.1), (0, .ref 3000), (1, .ref 0), (2, .ref 14), (3, .ref 22), (4, .int i)]) (st' := [.int (lg_cmp (L1 22 0) (q.1).toInt64)]) (σ' := (q.2, L1)) rfl ⟨trivial, trivial, (vpi (by decide)), trivial, trivial, trivial, trivial⟩ ?_
  exact x_if_eq C (show decode cL_law 391 = .ok (.ifCond .eq 5, 3) from by decide +kernel) (tgt := 396) (by decide) (fun _ => fin) (fun c2 => x_ab (c2 (by rw [hL1]; exact (lg_cmp_eq _ _).mpr rfl)) C)
set_option maxRecDepth 20000 in
set_option maxHeartbeats 4000000 in
theorem c_L_6 {l : Launch} {nm : String} {V : XJ} {n : Nat} {xs : Nat → Int32} (C : C_L l nm V) (S : XLs V n xs) (hst : l.stackTraces = false) {i : Int32} (h1 : vp_in (i + 1) n) (h2 : vp_in (i + 2) n) (h3 : vp_in (i + 3) n) (h4 : vp_in (i + 4) n) {M : St} {Lg : Nat → Nat → Int64} (h : LI M) {cells slots : Nat} (hc : cells + 1 ≤ 1057) (hs : slots + 6 ≤ 12791) (next : ∀ M' L', LI M' → V (cells + 1) (slots + 6) 708 [(0, .ref 3000), (1, .ref 0), (2, .ref 14), (3, .ref 22), (4, .int i)] [] LAY (M', L')) : V cells slots 399 [(0, .ref 3000), (1, .ref 0), (2, .ref 14), (3, .ref 22), (4, .int i)] [] LAY (M, Lg) := by
  refine x_run C [(399, .aload_n 1, 1, .null), (400, .aload_n 0, 1, .null), (401, .iload 4, 2, .null), (403, .iconst 1, 1, .int 1), (404, .iadd, 1, .null)] (by decide +kernel) (pc' := 405) (lv' := [(0, .ref 3000), (1, .ref 0), (2, .ref 14), (3, .ref 22), (4, .int i)]) (st' := [.int (i + 1), .ref 3000, .ref 0]) (σ' := (M, Lg)) rfl ⟨trivial, trivial, trivial, trivial, trivial, trivial⟩ ?_
  refine S.1 _ _ 405 _ _ _ _ (i + 1) (by decide +kernel) h1 ?_
  refine x_callSW C (rest := []) (k_L_level l hst ((xs ((i + 1)).toNatClampNeg)) M Lg h.2.2) yo_L_level ml_L_82 ⟨by decide, by decide, by decide⟩ ⟨hc, hs⟩ (show decode cL_law 406 = .ok (.invokestatic 82, 3) from by decide +kernel) rfl (fun v σ' hPo => ?_)
  obtain ⟨rfl, rfl, hK⟩ := hPo
  have hm := LI.mid h (M1 := (f_X10_level ((xs ((i + 1)).toNatClampNeg)) M).2) (fun p hp => hi_level hp)
  have hq := levelR2 (a := (xs ((i + 1)).toNatClampNeg)) hm.1
  generalize hr : f_X10_level ((xs ((i + 1)).toNatClampNeg)) M = r at hK hm hq ⊢
  show V (cells + 1) (slots + 6) 409 [(0, .ref 3000), (1, .ref 0), (2, .ref 14), (3, .ref 22), (4, .int i)] [.int r.1] LAY (r.2, Lg)
  refine x_run C [(409, .istore 5, 2, .null), (411, .aload_n 2, 1, .null), (412, .aload_n 0, 1, .null), (413, .iload 4, 2, .null), (415, .iconst 1, 1, .int 1), (416, .iadd, 1, .null)] (by decide +kernel) (pc' := 417) (lv' := [(5, .int r.1), (0, .ref 3000), (1, .ref 0), (2, .ref 14), (3, .ref 22), (4, .int i)]) (st' := [.int (i + 1), .ref 3000, .ref 14]) (σ' := (r.2, Lg)) rfl ⟨trivial, trivial, trivial, trivial, trivial, trivial, trivial⟩ ?_
  refine S.1 _ _ 417 _ _ _ _ (i + 1) (by decide +kernel) h1 ?_
  refine x_callV C (k := 14) (ci := 8) (rest := []) (avs := [.int ((xs ((i + 1)).toNatClampNeg))]) (k_X11_level l ((xs ((i + 1)).toNatClampNeg)) r.2 Lg hm.2) yoX11_level ml_L_84 rfl rfl rfl rfl ⟨hc, hs⟩ (show decode cL_law 418 = .ok (.invokevirtual 84, 3) from by decide +kernel) rfl (fun v σ' hPo => ?_)
  obtain ⟨⟨rfl, rfl⟩, hI2⟩ := hPo
  have hlo : ∀ p, p < 14 → (f_X11_level ((xs ((i + 1)).toNatClampNeg)) r.2) p = (r.2) p := fun p hp => fr_X11_level (xn_lo hp (by decide))
  generalize f_X11_level ((xs ((i + 1)).toNatClampNeg)) r.2 = q at hI2 hq hlo ⊢
  show V (cells + 1) (slots + 6) 421 [(5, .int r.1), (0, .ref 3000), (1, .ref 0), (2, .ref 14), (3, .ref 22), (4, .int i)] [] LAY (q, Lg)
  refine x_run C [(421, .aload_n 2, 1, .null)] (by decide +kernel) (pc' := 422) (lv' := [(5, .int r.1), (0, .ref 3000), (1, .ref 0), (2, .ref 14), (3, .ref 22), (4, .int i)]) (st' := [.ref 14]) (σ' := (q, Lg)) rfl ⟨trivial, trivial⟩ ?_
  refine x_callV C (k := 14) (ci := 8) (rest := []) (avs := []) (k_X11_thrown l q Lg hI2) yoX11_thrown ml_L_57 rfl rfl rfl rfl ⟨hc, hs⟩ (show decode cL_law 422 = .ok (.invokevirtual 57, 3) from by decide +kernel) rfl (fun v σ' hPo => ?_)
  obtain ⟨⟨rfl, rfl⟩, -, -⟩ := hPo
  show V (cells + 1) (slots + 6) 425 [(5, .int r.1), (0, .ref 3000), (1, .ref 0), (2, .ref 14), (3, .ref 22), (4, .int i)] [.int (q 14 0)] LAY (q, Lg)
  refine x_run C [(425, .iload 5, 2, .null)] (by decide +kernel) (pc' := 427) (lv' := [(5, .int r.1), (0, .ref 3000), (1, .ref 0), (2, .ref 14), (3, .ref 22), (4, .int i)]) (st' := [.int r.1, .int (q 14 0)]) (σ' := (q, Lg)) rfl ⟨trivial, trivial⟩ ?_
  refine x_icmp_eq C (show decode cL_law 427 = .ok (.if_icmp .eq 5, 3) from by decide +kernel) (tgt := 432) (by decide) (fun _ => ?_) (fun c0 => x_ab (c0 hq.1.symm) C)
  refine x_goto C (tgt := 708) (show decode cL_law 432 = .ok (.goto 276, 3) from by decide +kernel) (by decide) ?_
  refine x_lv C [1, 2, 3, 4, 5] rfl ?_
  exact next _ _ (LI.go h hK hI2 hlo hq.2)
set_option maxRecDepth 20000 in
set_option maxHeartbeats 4000000 in
theorem c_L_7 {l : Launch} {nm : String} {V : XJ} {n : Nat} {xs : Nat → Int32} (C : C_L l nm V) (S : XLs V n xs) (hst : l.stackTraces = false) {i : Int32} (h1 : vp_in (i + 1) n) (h2 : vp_in (i + 2) n) (h3 : vp_in (i + 3) n) (h4 : vp_in (i + 4) n) {M : St} {Lg : Nat → Nat → Int64} (h : LI M) {cells slots : Nat} (hc : cells + 1 ≤ 1057) (hs : slots + 6 ≤ 12791) (next : ∀ M' L', LI M' → V (cells + 1) (slots + 6) 708 [(0, .ref 3000), (1, .ref 0), (2, .ref 14), (3, .ref 22), (4, .int i)] [] LAY (M', L')) : V cells slots 435 [(0, .ref 3000), (1, .ref 0), (2, .ref 14), (3, .ref 22), (4, .int i)] [] LAY (M, Lg) := by
  refine x_run C [(435, .aload_n 1, 1, .null), (436, .aload_n 0, 1, .null), (437, .iload 4, 2, .null), (439, .iconst 1, 1, .int 1), (440, .iadd, 1, .null)] (by decide +kernel) (pc' := 441) (lv' := [(0, .ref 3000), (1, .ref 0), (2, .ref 14), (3, .ref 22), (4, .int i)]) (st' := [.int (i + 1), .ref 3000, .ref 0]) (σ' := (M, Lg)) rfl ⟨trivial, trivial, trivial, trivial, trivial, trivial⟩ ?_
  refine S.1 _ _ 441 _ _ _ _ (i + 1) (by decide +kernel) h1 ?_
  refine x_callV C (k := 0) (ci := 7) (rest := []) (avs := [.int ((xs ((i + 1)).toNatClampNeg))]) (k_X10_type l ((xs ((i + 1)).toNatClampNeg)) M Lg h.2.2) yoX10_type ml_L_85 rfl rfl rfl rfl ⟨Nat.le_of_succ_le hc, Nat.le_trans (Nat.le_add_right _ 6) hs⟩ (show decode cL_law 442 = .ok (.invokevirtual 85, 3) from by decide +kernel) rfl (fun v σ' hPo => ?_)
  obtain ⟨⟨rfl, rfl⟩, -, hK⟩ := hPo
  have hm := LI.mid h (M1 := (f_X10_type ((xs ((i + 1)).toNatClampNeg)) M).2) (fun p hp => fr_X10_type (xn_hi hp (by decide)))
  have hq := typeR (a := (xs ((i + 1)).toNatClampNeg)) hm.1
  show V cells slots 445 [(0, .ref 3000), (1, .ref 0), (2, .ref 14), (3, .ref 22), (4, .int i)] [.int (f_X10_type ((xs ((i + 1)).toNatClampNeg)) M).1] LAY ((f_X10_type ((xs ((i + 1)).toNatClampNeg)) M).2, Lg)
  refine x_run C [(445, .aload_n 2, 1, .null), (446, .aload_n 0, 1, .null), (447, .iload 4, 2, .null), (449, .iconst 1, 1, .int 1), (450, .iadd, 1, .null)] (by decide +kernel) (pc' := 451) (lv' := [(0, .ref 3000), (1, .ref 0), (2, .ref 14), (3, .ref 22), (4, .int i)]) (st' := [.int (i + 1), .ref 3000, .ref 14, .int (f_X10_type ((xs ((i + 1)).toNatClampNeg)) M).1]) (σ' := ((f_X10_type ((xs ((i + 1)).toNatClampNeg)) M).2, Lg)) rfl ⟨trivial, trivial, trivial, trivial, trivial, trivial⟩ ?_
  refine S.1 _ _ 451 _ _ _ _ (i + 1) (by decide +kernel) h1 ?_
  refine x_callV C (k := 14) (ci := 8) (rest := [.int (f_X10_type ((xs ((i + 1)).toNatClampNeg)) M).1]) (avs := [.int ((xs ((i + 1)).toNatClampNeg))]) (k_X11_type l ((xs ((i + 1)).toNatClampNeg)) (f_X10_type ((xs ((i + 1)).toNatClampNeg)) M).2 Lg hm.2) yoX11_type ml_L_89 rfl rfl rfl rfl ⟨Nat.le_of_succ_le hc, Nat.le_trans (Nat.le_add_right _ 6) hs⟩ (show decode cL_law 452 = .ok (.invokevirtual 89, 3) from by decide +kernel) rfl (fun v σ' hPo => ?_)
  obtain ⟨⟨rfl, rfl⟩, -, hI2⟩ := hPo
  show V cells slots 455 [(0, .ref 3000), (1, .ref 0), (2, .ref 14), (3, .ref 22), (4, .int i)] [.int (f_X11_type ((xs ((i + 1)).toNatClampNeg)) (f_X10_type ((xs ((i + 1)).toNatClampNeg)) M).2).1, .int (f_X10_type ((xs ((i + 1)).toNatClampNeg)) M).1] LAY ((f_X11_type ((xs ((i + 1)).toNatClampNeg)) (f_X10_type ((xs ((i + 1)).toNatClampNeg)) M).2).2, Lg)
  refine x_icmp_eq C (show decode cL_law 455 = .ok (.if_icmp .eq 253, 3) from by decide +kernel) (tgt := 708) (by decide) (fun _ => ?_) (fun c0 => x_ab (c0 hq.1) C)
  refine x_wid C (Nat.le_add_right _ 1) (Nat.le_add_right _ 6) ?_
  exact next _ _ (LI.go h hK hI2 (fun p hp => fr_X11_type (xn_lo hp (by decide))) hq.2)
set_option maxRecDepth 20000 in
set_option maxHeartbeats 4000000 in
theorem c_L_8 {l : Launch} {nm : String} {V : XJ} {n : Nat} {xs : Nat → Int32} (C : C_L l nm V) (S : XLs V n xs) (hst : l.stackTraces = false) {i : Int32} (h1 : vp_in (i + 1) n) (h2 : vp_in (i + 2) n) (h3 : vp_in (i + 3) n) (h4 : vp_in (i + 4) n) {M : St} {Lg : Nat → Nat → Int64} (h : LI M) {cells slots : Nat} (hc : cells + 1 ≤ 1057) (hs : slots + 6 ≤ 12791) (next : ∀ M' L', LI M' → V (cells + 1) (slots + 6) 708 [(0, .ref 3000), (1, .ref 0), (2, .ref 14), (3, .ref 22), (4, .int i)] [] LAY (M', L')) : V cells slots 460 [(0, .ref 3000), (1, .ref 0), (2, .ref 14), (3, .ref 22), (4, .int i)] [] LAY (M, Lg) := by
  refine x_run C [(460, .aload_n 1, 1, .null), (461, .aload_n 0, 1, .null), (462, .iload 4, 2, .null), (464, .iconst 1, 1, .int 1), (465, .iadd, 1, .null)] (by decide +kernel) (pc' := 466) (lv' := [(0, .ref 3000), (1, .ref 0), (2, .ref 14), (3, .ref 22), (4, .int i)]) (st' := [.int (i + 1), .ref 3000, .ref 0]) (σ' := (M, Lg)) rfl ⟨trivial, trivial, trivial, trivial, trivial, trivial⟩ ?_
  refine S.1 _ _ 466 _ _ _ _ (i + 1) (by decide +kernel) h1 ?_
  refine x_callV C (k := 0) (ci := 7) (rest := []) (avs := [.int ((xs ((i + 1)).toNatClampNeg))]) (k_X10_said l ((xs ((i + 1)).toNatClampNeg)) M Lg h.2.2) yoX10_said ml_L_90 rfl rfl rfl rfl ⟨Nat.le_of_succ_le hc, Nat.le_trans (Nat.le_add_right _ 6) hs⟩ (show decode cL_law 467 = .ok (.invokevirtual 90, 3) from by decide +kernel) rfl (fun v σ' hPo => ?_)
  obtain ⟨⟨rfl, rfl⟩, -, hK⟩ := hPo
  have hq := saidR (a := (xs ((i + 1)).toNatClampNeg)) h.1
  show V cells slots 470 [(0, .ref 3000), (1, .ref 0), (2, .ref 14), (3, .ref 22), (4, .int i)] [.int (f_X10_said ((xs ((i + 1)).toNatClampNeg)) M)] LAY (M, Lg)
  refine x_run C [(470, .aload_n 2, 1, .null), (471, .aload_n 0, 1, .null), (472, .iload 4, 2, .null), (474, .iconst 1, 1, .int 1), (475, .iadd, 1, .null)] (by decide +kernel) (pc' := 476) (lv' := [(0, .ref 3000), (1, .ref 0), (2, .ref 14), (3, .ref 22), (4, .int i)]) (st' := [.int (i + 1), .ref 3000, .ref 14, .int (f_X10_said ((xs ((i + 1)).toNatClampNeg)) M)]) (σ' := (M, Lg)) rfl ⟨trivial, trivial, trivial, trivial, trivial, trivial⟩ ?_
  refine S.1 _ _ 476 _ _ _ _ (i + 1) (by decide +kernel) h1 ?_
  refine x_callV C (k := 14) (ci := 8) (rest := [.int (f_X10_said ((xs ((i + 1)).toNatClampNeg)) M)]) (avs := [.int ((xs ((i + 1)).toNatClampNeg))]) (k_X11_said l ((xs ((i + 1)).toNatClampNeg)) M Lg h.2.1) yoX11_said ml_L_93 rfl rfl rfl rfl ⟨Nat.le_of_succ_le hc, Nat.le_trans (Nat.le_add_right _ 6) hs⟩ (show decode cL_law 477 = .ok (.invokevirtual 93, 3) from by decide +kernel) rfl (fun v σ' hPo => ?_)
  obtain ⟨⟨rfl, rfl⟩, -, hI2⟩ := hPo
  show V cells slots 480 [(0, .ref 3000), (1, .ref 0), (2, .ref 14), (3, .ref 22), (4, .int i)] [.int (f_X11_said ((xs ((i + 1)).toNatClampNeg)) M).1, .int (f_X10_said ((xs ((i + 1)).toNatClampNeg)) M)] LAY ((f_X11_said ((xs ((i + 1)).toNatClampNeg)) M).2, Lg)
  refine x_icmp_eq C (show decode cL_law 480 = .ok (.if_icmp .eq 228, 3) from by decide +kernel) (tgt := 708) (by decide) (fun _ => ?_) (fun c0 => x_ab (c0 hq.1) C)
  refine x_wid C (Nat.le_add_right _ 1) (Nat.le_add_right _ 6) ?_
  exact next _ _ (LI.go h hK hI2 (fun p hp => fr_X11_said (xn_lo hp (by decide))) hq.2)
set_option maxRecDepth 20000 in
set_option maxHeartbeats 4000000 in
theorem c_L_9 {l : Launch} {nm : String} {V : XJ} {n : Nat} {xs : Nat → Int32} (C : C_L l nm V) (S : XLs V n xs) (hst : l.stackTraces = false) {i : Int32} (h1 : vp_in (i + 1) n) (h2 : vp_in (i + 2) n) (h3 : vp_in (i + 3) n) (h4 : vp_in (i + 4) n) {M : St} {Lg : Nat → Nat → Int64} (h : LI M) {cells slots : Nat} (hc : cells + 1 ≤ 1057) (hs : slots + 6 ≤ 12791) (next : ∀ M' L', LI M' → V (cells + 1) (slots + 6) 708 [(0, .ref 3000), (1, .ref 0), (2, .ref 14), (3, .ref 22), (4, .int i)] [] LAY (M', L')) : V cells slots 485 [(0, .ref 3000), (1, .ref 0), (2, .ref 14), (3, .ref 22), (4, .int i)] [] LAY (M, Lg) := by
  refine x_run C [(485, .aload_n 1, 1, .null), (486, .aload_n 0, 1, .null), (487, .iload 4, 2, .null), (489, .iconst 1, 1, .int 1), (490, .iadd, 1, .null)] (by decide +kernel) (pc' := 491) (lv' := [(0, .ref 3000), (1, .ref 0), (2, .ref 14), (3, .ref 22), (4, .int i)]) (st' := [.int (i + 1), .ref 3000, .ref 0]) (σ' := (M, Lg)) rfl ⟨trivial, trivial, trivial, trivial, trivial, trivial⟩ ?_
  refine S.1 _ _ 491 _ _ _ _ (i + 1) (by decide +kernel) h1 ?_
  refine x_run C [(492, .aload_n 3, 1, .null)] (by decide +kernel) (pc' := 493) (lv' := [(0, .ref 3000), (1, .ref 0), (2, .ref 14), (3, .ref 22), (4, .int i)]) (st' := [.ref 22, .int (xs ((i + 1)).toNatClampNeg), .ref 0]) (σ' := (M, Lg)) rfl ⟨trivial, trivial⟩ ?_
  refine x_callSW C (rest := []) (k_L_get l hst ((xs ((i + 1)).toNatClampNeg)) M Lg h.2.2) yo_L_get ml_L_94 ⟨by decide, by decide, by decide⟩ ⟨hc, hs⟩ (show decode cL_law 493 = .ok (.invokestatic 94, 3) from by decide +kernel) rfl (fun v σ' hPo => ?_)
  obtain ⟨rfl, rfl, hK⟩ := hPo
  have hm := LI.mid h (M1 := (f_X10_get ((xs ((i + 1)).toNatClampNeg)) M).2.2) (fun p hp => hi_get hp)
  have hq := getR2 (a := (xs ((i + 1)).toNatClampNeg)) hm.1
  generalize hr : f_X10_get ((xs ((i + 1)).toNatClampNeg)) M = r at hK hm hq ⊢
  generalize hL : (if r.1 = 0 then xupL Lg 22 0 r.2.1.toInt64 else Lg) = L1
  show V (cells + 1) (slots + 6) 496 [(0, .ref 3000), (1, .ref 0), (2, .ref 14), (3, .ref 22), (4, .int i)] [.int r.1] LAY (r.2.2, L1)
  refine x_run C [(496, .istore 5, 2, .null), (498, .aload_n 2, 1, .null), (499, .aload_n 0, 1, .null), (500, .iload 4, 2, .null), (502, .iconst 1, 1, .int 1), (503, .iadd, 1, .null)] (by decide +kernel) (pc' := 504) (lv' := [(5, .int r.1), (0, .ref 3000), (1, .ref 0), (2, .ref 14), (3, .ref 22), (4, .int i)]) (st' := [.int (i + 1), .ref 3000, .ref 14]) (σ' := (r.2.2, L1)) rfl ⟨trivial, trivial, trivial, trivial, trivial, trivial, trivial⟩ ?_
  refine S.1 _ _ 504 _ _ _ _ (i + 1) (by decide +kernel) h1 ?_
  refine x_callV C (k := 14) (ci := 8) (rest := []) (avs := [.int ((xs ((i + 1)).toNatClampNeg))]) (k_X11_get l ((xs ((i + 1)).toNatClampNeg)) r.2.2 L1 hm.2) yoX11_get ml_L_96 rfl rfl rfl rfl ⟨hc, hs⟩ (show decode cL_law 505 = .ok (.invokevirtual 96, 3) from by decide +kernel) rfl (fun v σ' hPo => ?_)
  obtain ⟨⟨rfl, rfl⟩, -, hI2⟩ := hPo
  have hlo : ∀ p, p < 14 → (f_X11_get ((xs ((i + 1)).toNatClampNeg)) r.2.2).2 p = (r.2.2) p := fun p hp => fr_X11_get (xn_lo hp (by decide))
  generalize f_X11_get ((xs ((i + 1)).toNatClampNeg)) r.2.2 = q at hI2 hq hlo ⊢
  show V (cells + 1) (slots + 6) 508 [(5, .int r.1), (0, .ref 3000), (1, .ref 0), (2, .ref 14), (3, .ref 22), (4, .int i)] [.int q.1] LAY (q.2, L1)
  refine x_run C [(508, .istore 6, 2, .null), (510, .aload_n 2, 1, .null)] (by decide +kernel) (pc' := 511) (lv' := [(6, .int q.1), (5, .int r.1), (0, .ref 3000), (1, .ref 0), (2, .ref 14), (3, .ref 22), (4, .int i)]) (st' := [.ref 14]) (σ' := (q.2, L1)) rfl ⟨trivial, trivial, trivial⟩ ?_
  refine x_callV C (k := 14) (ci := 8) (rest := []) (avs := []) (k_X11_thrown l q.2 L1 hI2) yoX11_thrown ml_L_57 rfl rfl rfl rfl ⟨hc, hs⟩ (show decode cL_law 511 = .ok (.invokevirtual 57, 3) from by decide +kernel) rfl (fun v σ' hPo => ?_)
  obtain ⟨⟨rfl, rfl⟩, -, -⟩ := hPo
  show V (cells + 1) (slots + 6) 514 [(6, .int q.1), (5, .int r.1), (0, .ref 3000), (1, .ref 0), (2, .ref 14), (3, .ref 22), (4, .int i)] [.int (q.2 14 0)] LAY (q.2, L1)
  refine x_run C [(514, .iload 5, 2, .null)] (by decide +kernel) (pc' := 516) (lv' := [(6, .int q.1), (5, .int r.1), (0, .ref 3000), (1, .ref 0), (2, .ref 14), (3, .ref 22), (4, .int i)]) (st' := [.int r.1, .int (q.2 14 0)]) (σ' := (q.2, L1)) rfl ⟨trivial, trivial⟩ ?_
  refine x_icmp_eq C (show decode cL_law 516 = .ok (.if_icmp .eq 5, 3) from by decide +kernel) (tgt := 521) (by decide) (fun _ => ?_) (fun c0 => x_ab (c0 hq.1.symm) C)
  show V (cells + 1) (slots + 6) 521 [(6, .int q.1), (5, .int r.1), (0, .ref 3000), (1, .ref 0), (2, .ref 14), (3, .ref 22), (4, .int i)] [] LAY (q.2, L1)
  refine x_run C [(521, .iload 5, 2, .null)] (by decide +kernel) (pc' := 523) (lv' := [(6, .int q.1), (5, .int r.1), (0, .ref 3000), (1, .ref 0), (2, .ref 14), (3, .ref 22), (4, .int i)]) (st' := [.int r.1]) (σ' := (q.2, L1)) rfl ⟨trivial, trivial⟩ ?_
  have fin : V (cells + 1) (slots + 6) 538 [(6, .int q.1), (5, .int r.1), (0, .ref 3000), (1, .ref 0), (2, .ref 14), (3, .ref 22), (4, .int i)] [] LAY (q.2, L1) := by
    refine x_goto C (tgt := 708) (show decode cL_law 538 = .ok (.goto 170, 3) from by decide +kernel) (by decide) ?_
    refine x_lv C [2, 3, 4, 5, 6] rfl ?_
    exact next _ _ (LI.go h hK hI2 hlo hq.2.2)
  refine x_if_ne C (show decode cL_law 523 = .ok (.ifCond .ne 15, 3) from by decide +kernel) (tgt := 538) (by decide) (fun _ => fin) (fun c1 => ?_)
  have hL1 : L1 22 0 = q.1.toInt64 := by rw [← hL, if_pos c1, ← hq.2.1 c1]; rfl
  refine x_run C [(526, .aload_n 3, 1, .null), (527, .iconst 0, 1, .int 0), (528, .laload, 1, .null), (529, .iload 6, 2, .null), (531, .i2l, 1, .null), (532, .lcmp, 1, .null)] (by decide +kernel) (pc' := 533) (lv' := [(6, .int q.1), (5, .int r.1), (0, .ref 3000), (1, .ref 0), (2, .ref 14), (3, .ref 22), (4, .int i)]) (st' := [.int (lg_cmp (L1 22 0) (q.1).toInt64)]) (σ' := (q.2, L1)) rfl ⟨trivial, trivial, (vpi (by decide)), trivial, trivial, trivial, trivial⟩ ?_
  exact x_if_eq C (show decode cL_law 533 = .ok (.ifCond .eq 5, 3) from by decide +kernel) (tgt := 538) (by decide) (fun _ => fin) (fun c2 => x_ab (c2 (by rw [hL1]; exact (lg_cmp_eq _ _).mpr rfl)) C)
set_option maxRecDepth 20000 in
set_option maxHeartbeats 4000000 in
theorem c_L_10 {l : Launch} {nm : String} {V : XJ} {n : Nat} {xs : Nat → Int32} (C : C_L l nm V) (S : XLs V n xs) (hst : l.stackTraces = false) {i : Int32} (h1 : vp_in (i + 1) n) (h2 : vp_in (i + 2) n) (h3 : vp_in (i + 3) n) (h4 : vp_in (i + 4) n) {M : St} {Lg : Nat → Nat → Int64} (h : LI M) {cells slots : Nat} (hc : cells + 1 ≤ 1057) (hs : slots + 6 ≤ 12791) (next : ∀ M' L', LI M' → V (cells + 1) (slots + 6) 708 [(0, .ref 3000), (1, .ref 0), (2, .ref 14), (3, .ref 22), (4, .int i)] [] LAY (M', L')) : V cells slots 541 [(0, .ref 3000), (1, .ref 0), (2, .ref 14), (3, .ref 22), (4, .int i)] [] LAY (M, Lg) := by
  refine x_run C [(541, .aload_n 1, 1, .null), (542, .aload_n 0, 1, .null), (543, .iload 4, 2, .null), (545, .iconst 1, 1, .int 1), (546, .iadd, 1, .null)] (by decide +kernel) (pc' := 547) (lv' := [(0, .ref 3000), (1, .ref 0), (2, .ref 14), (3, .ref 22), (4, .int i)]) (st' := [.int (i + 1), .ref 3000, .ref 0]) (σ' := (M, Lg)) rfl ⟨trivial, trivial, trivial, trivial, trivial, trivial⟩ ?_
  refine S.1 _ _ 547 _ _ _ _ (i + 1) (by decide +kernel) h1 ?_
  refine x_run C [(548, .aload_n 0, 1, .null), (549, .iload 4, 2, .null), (551, .iconst 2, 1, .int 2), (552, .iadd, 1, .null)] (by decide +kernel) (pc' := 553) (lv' := [(0, .ref 3000), (1, .ref 0), (2, .ref 14), (3, .ref 22), (4, .int i)]) (st' := [.int (i + 2), .ref 3000, .int (xs ((i + 1)).toNatClampNeg), .ref 0]) (σ' := (M, Lg)) rfl ⟨trivial, trivial, trivial, trivial, trivial⟩ ?_
  refine S.1 _ _ 553 _ _ _ _ (i + 2) (by decide +kernel) h2 ?_
  refine x_callSW C (rest := []) (k_L_set l hst ((xs ((i + 1)).toNatClampNeg)) ((xs ((i + 2)).toNatClampNeg)) M Lg h.2.2) yo_L_set ml_L_97 ⟨by decide, by decide, by decide⟩ ⟨hc, hs⟩ (show decode cL_law 554 = .ok (.invokestatic 97, 3) from by decide +kernel) rfl (fun v σ' hPo => ?_)
  obtain ⟨rfl, rfl, hK⟩ := hPo
  have hm := LI.mid h (M1 := (f_X10_set ((xs ((i + 1)).toNatClampNeg)) ((xs ((i + 2)).toNatClampNeg)) M).2) (fun p hp => hi_set hp)
  have hq := setR2 (a := (xs ((i + 1)).toNatClampNeg)) (v := (xs ((i + 2)).toNatClampNeg)) hm.1
  generalize hr : f_X10_set ((xs ((i + 1)).toNatClampNeg)) ((xs ((i + 2)).toNatClampNeg)) M = r at hK hm hq ⊢
  show V (cells + 1) (slots + 6) 557 [(0, .ref 3000), (1, .ref 0), (2, .ref 14), (3, .ref 22), (4, .int i)] [.int r.1] LAY (r.2, Lg)
  refine x_run C [(557, .istore 5, 2, .null), (559, .aload_n 2, 1, .null), (560, .aload_n 0, 1, .null), (561, .iload 4, 2, .null), (563, .iconst 1, 1, .int 1), (564, .iadd, 1, .null)] (by decide +kernel) (pc' := 565) (lv' := [(5, .int r.1), (0, .ref 3000), (1, .ref 0), (2, .ref 14), (3, .ref 22), (4, .int i)]) (st' := [.int (i + 1), .ref 3000, .ref 14]) (σ' := (r.2, Lg)) rfl ⟨trivial, trivial, trivial, trivial, trivial, trivial, trivial⟩ ?_
  refine S.1 _ _ 565 _ _ _ _ (i + 1) (by decide +kernel) h1 ?_
  refine x_run C [(566, .aload_n 0, 1, .null), (567, .iload 4, 2, .null), (569, .iconst 2, 1, .int 2), (570, .iadd, 1, .null)] (by decide +kernel) (pc' := 571) (lv' := [(5, .int r.1), (0, .ref 3000), (1, .ref 0), (2, .ref 14), (3, .ref 22), (4, .int i)]) (st' := [.int (i + 2), .ref 3000, .int (xs ((i + 1)).toNatClampNeg), .ref 14]) (σ' := (r.2, Lg)) rfl ⟨trivial, trivial, trivial, trivial, trivial⟩ ?_
  refine S.1 _ _ 571 _ _ _ _ (i + 2) (by decide +kernel) h2 ?_
  refine x_callV C (k := 14) (ci := 8) (rest := []) (avs := [.int ((xs ((i + 1)).toNatClampNeg)), .int ((xs ((i + 2)).toNatClampNeg))]) (k_X11_set l ((xs ((i + 1)).toNatClampNeg)) ((xs ((i + 2)).toNatClampNeg)) r.2 Lg hm.2) yoX11_set ml_L_99 rfl rfl rfl rfl ⟨hc, hs⟩ (show decode cL_law 572 = .ok (.invokevirtual 99, 3) from by decide +kernel) rfl (fun v σ' hPo => ?_)
  obtain ⟨⟨rfl, rfl⟩, hI2⟩ := hPo
  have hlo : ∀ p, p < 14 → (f_X11_set ((xs ((i + 1)).toNatClampNeg)) ((xs ((i + 2)).toNatClampNeg)) r.2) p = (r.2) p := fun p hp => fr_X11_set (xn_lo hp (by decide))
  generalize f_X11_set ((xs ((i + 1)).toNatClampNeg)) ((xs ((i + 2)).toNatClampNeg)) r.2 = q at hI2 hq hlo ⊢
  show V (cells + 1) (slots + 6) 575 [(5, .int r.1), (0, .ref 3000), (1, .ref 0), (2, .ref 14), (3, .ref 22), (4, .int i)] [] LAY (q, Lg)
  refine x_run C [(575, .aload_n 2, 1, .null)] (by decide +kernel) (pc' := 576) (lv' := [(5, .int r.1), (0, .ref 3000), (1, .ref 0), (2, .ref 14), (3, .ref 22), (4, .int i)]) (st' := [.ref 14]) (σ' := (q, Lg)) rfl ⟨trivial, trivial⟩ ?_
  refine x_callV C (k := 14) (ci := 8) (rest := []) (avs := []) (k_X11_thrown l q Lg hI2) yoX11_thrown ml_L_57 rfl rfl rfl rfl ⟨hc, hs⟩ (show decode cL_law 576 = .ok (.invokevirtual 57, 3) from by decide +kernel) rfl (fun v σ' hPo => ?_)
  obtain ⟨⟨rfl, rfl⟩, -, -⟩ := hPo
  show V (cells + 1) (slots + 6) 579 [(5, .int r.1), (0, .ref 3000), (1, .ref 0), (2, .ref 14), (3, .ref 22), (4, .int i)] [.int (q 14 0)] LAY (q, Lg)
  refine x_run C [(579, .iload 5, 2, .null)] (by decide +kernel) (pc' := 581) (lv' := [(5, .int r.1), (0, .ref 3000), (1, .ref 0), (2, .ref 14), (3, .ref 22), (4, .int i)]) (st' := [.int r.1, .int (q 14 0)]) (σ' := (q, Lg)) rfl ⟨trivial, trivial⟩ ?_
  refine x_icmp_eq C (show decode cL_law 581 = .ok (.if_icmp .eq 5, 3) from by decide +kernel) (tgt := 586) (by decide) (fun _ => ?_) (fun c0 => x_ab (c0 hq.1.symm) C)
  refine x_goto C (tgt := 708) (show decode cL_law 586 = .ok (.goto 122, 3) from by decide +kernel) (by decide) ?_
  refine x_lv C [1, 2, 3, 4, 5] rfl ?_
  exact next _ _ (LI.go h hK hI2 hlo hq.2)
set_option maxRecDepth 20000 in
set_option maxHeartbeats 4000000 in
theorem c_L_11 {l : Launch} {nm : String} {V : XJ} {n : Nat} {xs : Nat → Int32} (C : C_L l nm V) (S : XLs V n xs) (hst : l.stackTraces = false) {i : Int32} (h1 : vp_in (i + 1) n) (h2 : vp_in (i + 2) n) (h3 : vp_in (i + 3) n) (h4 : vp_in (i + 4) n) {M : St} {Lg : Nat → Nat → Int64} (h : LI M) {cells slots : Nat} (hc : cells + 1 ≤ 1057) (hs : slots + 6 ≤ 12791) (next : ∀ M' L', LI M' → V (cells + 1) (slots + 6) 708 [(0, .ref 3000), (1, .ref 0), (2, .ref 14), (3, .ref 22), (4, .int i)] [] LAY (M', L')) : V cells slots 589 [(0, .ref 3000), (1, .ref 0), (2, .ref 14), (3, .ref 22), (4, .int i)] [] LAY (M, Lg) := by
  refine x_run C [(589, .aload_n 1, 1, .null), (590, .aload_n 0, 1, .null), (591, .iload 4, 2, .null), (593, .iconst 1, 1, .int 1), (594, .iadd, 1, .null)] (by decide +kernel) (pc' := 595) (lv' := [(0, .ref 3000), (1, .ref 0), (2, .ref 14), (3, .ref 22), (4, .int i)]) (st' := [.int (i + 1), .ref 3000, .ref 0]) (σ' := (M, Lg)) rfl ⟨trivial, trivial, trivial, trivial, trivial, trivial⟩ ?_
  refine S.1 _ _ 595 _ _ _ _ (i + 1) (by decide +kernel) h1 ?_
  refine x_callV C (k := 0) (ci := 7) (rest := []) (avs := [.int ((xs ((i + 1)).toNatClampNeg))]) (k_X10_memory l ((xs ((i + 1)).toNatClampNeg)) M Lg h.2.2) yoX10_memory ml_L_100 rfl rfl rfl rfl ⟨Nat.le_of_succ_le hc, Nat.le_trans (Nat.le_add_right _ 6) hs⟩ (show decode cL_law 596 = .ok (.invokevirtual 100, 3) from by decide +kernel) rfl (fun v σ' hPo => ?_)
  obtain ⟨⟨rfl, rfl⟩, -, hK⟩ := hPo
  have hq := memoryR (a := (xs ((i + 1)).toNatClampNeg)) h.1
  show V cells slots 599 [(0, .ref 3000), (1, .ref 0), (2, .ref 14), (3, .ref 22), (4, .int i)] [.int (f_X10_memory ((xs ((i + 1)).toNatClampNeg)) M)] LAY (M, Lg)
  refine x_run C [(599, .aload_n 2, 1, .null), (600, .aload_n 0, 1, .null), (601, .iload 4, 2, .null), (603, .iconst 1, 1, .int 1), (604, .iadd, 1, .null)] (by decide +kernel) (pc' := 605) (lv' := [(0, .ref 3000), (1, .ref 0), (2, .ref 14), (3, .ref 22), (4, .int i)]) (st' := [.int (i + 1), .ref 3000, .ref 14, .int (f_X10_memory ((xs ((i + 1)).toNatClampNeg)) M)]) (σ' := (M, Lg)) rfl ⟨trivial, trivial, trivial, trivial, trivial, trivial⟩ ?_
  refine S.1 _ _ 605 _ _ _ _ (i + 1) (by decide +kernel) h1 ?_
  refine x_callV C (k := 14) (ci := 8) (rest := [.int (f_X10_memory ((xs ((i + 1)).toNatClampNeg)) M)]) (avs := [.int ((xs ((i + 1)).toNatClampNeg))]) (k_X11_memory l ((xs ((i + 1)).toNatClampNeg)) M Lg h.2.1) yoX11_memory ml_L_103 rfl rfl rfl rfl ⟨Nat.le_of_succ_le hc, Nat.le_trans (Nat.le_add_right _ 6) hs⟩ (show decode cL_law 606 = .ok (.invokevirtual 103, 3) from by decide +kernel) rfl (fun v σ' hPo => ?_)
  obtain ⟨⟨rfl, rfl⟩, -, hI2⟩ := hPo
  show V cells slots 609 [(0, .ref 3000), (1, .ref 0), (2, .ref 14), (3, .ref 22), (4, .int i)] [.int (f_X11_memory ((xs ((i + 1)).toNatClampNeg)) M).1, .int (f_X10_memory ((xs ((i + 1)).toNatClampNeg)) M)] LAY ((f_X11_memory ((xs ((i + 1)).toNatClampNeg)) M).2, Lg)
  refine x_icmp_eq C (show decode cL_law 609 = .ok (.if_icmp .eq 99, 3) from by decide +kernel) (tgt := 708) (by decide) (fun _ => ?_) (fun c0 => x_ab (c0 hq.1) C)
  refine x_wid C (Nat.le_add_right _ 1) (Nat.le_add_right _ 6) ?_
  exact next _ _ (LI.go h hK hI2 (fun p hp => fr_X11_memory (xn_lo hp (by decide))) hq.2)
set_option maxRecDepth 20000 in
set_option maxHeartbeats 4000000 in
theorem c_L_12 {l : Launch} {nm : String} {V : XJ} {n : Nat} {xs : Nat → Int32} (C : C_L l nm V) (S : XLs V n xs) (hst : l.stackTraces = false) {i : Int32} (h1 : vp_in (i + 1) n) (h2 : vp_in (i + 2) n) (h3 : vp_in (i + 3) n) (h4 : vp_in (i + 4) n) {M : St} {Lg : Nat → Nat → Int64} (h : LI M) {cells slots : Nat} (hc : cells + 1 ≤ 1057) (hs : slots + 6 ≤ 12791) (next : ∀ M' L', LI M' → V (cells + 1) (slots + 6) 708 [(0, .ref 3000), (1, .ref 0), (2, .ref 14), (3, .ref 22), (4, .int i)] [] LAY (M', L')) : V cells slots 614 [(0, .ref 3000), (1, .ref 0), (2, .ref 14), (3, .ref 22), (4, .int i)] [] LAY (M, Lg) := by
  refine x_run C [(614, .aload_n 1, 1, .null), (615, .aload_n 0, 1, .null), (616, .iload 4, 2, .null), (618, .iconst 1, 1, .int 1), (619, .iadd, 1, .null)] (by decide +kernel) (pc' := 620) (lv' := [(0, .ref 3000), (1, .ref 0), (2, .ref 14), (3, .ref 22), (4, .int i)]) (st' := [.int (i + 1), .ref 3000, .ref 0]) (σ' := (M, Lg)) rfl ⟨trivial, trivial, trivial, trivial, trivial, trivial⟩ ?_
  refine S.1 _ _ 620 _ _ _ _ (i + 1) (by decide +kernel) h1 ?_
  refine x_run C [(621, .aload_n 3, 1, .null)] (by decide +kernel) (pc' := 622) (lv' := [(0, .ref 3000), (1, .ref 0), (2, .ref 14), (3, .ref 22), (4, .int i)]) (st' := [.ref 22, .int (xs ((i + 1)).toNatClampNeg), .ref 0]) (σ' := (M, Lg)) rfl ⟨trivial, trivial⟩ ?_
  refine x_callSW C (rest := []) (k_L_device l hst ((xs ((i + 1)).toNatClampNeg)) M Lg h.2.2) yo_L_device ml_L_104 ⟨by decide, by decide, by decide⟩ ⟨hc, hs⟩ (show decode cL_law 622 = .ok (.invokestatic 104, 3) from by decide +kernel) rfl (fun v σ' hPo => ?_)
  obtain ⟨rfl, rfl, hK⟩ := hPo
  have hm := LI.mid h (M1 := (f_X10_device ((xs ((i + 1)).toNatClampNeg)) M).2.2) (fun p hp => hi_device hp)
  have hq := deviceR2 (a := (xs ((i + 1)).toNatClampNeg)) hm.1
  generalize hr : f_X10_device ((xs ((i + 1)).toNatClampNeg)) M = r at hK hm hq ⊢
  generalize hL : (if r.1 = 0 then xupL Lg 22 0 r.2.1.toInt64 else Lg) = L1
  show V (cells + 1) (slots + 6) 625 [(0, .ref 3000), (1, .ref 0), (2, .ref 14), (3, .ref 22), (4, .int i)] [.int r.1] LAY (r.2.2, L1)
  refine x_run C [(625, .istore 5, 2, .null), (627, .aload_n 2, 1, .null), (628, .aload_n 0, 1, .null), (629, .iload 4, 2, .null), (631, .iconst 1, 1, .int 1), (632, .iadd, 1, .null)] (by decide +kernel) (pc' := 633) (lv' := [(5, .int r.1), (0, .ref 3000), (1, .ref 0), (2, .ref 14), (3, .ref 22), (4, .int i)]) (st' := [.int (i + 1), .ref 3000, .ref 14]) (σ' := (r.2.2, L1)) rfl ⟨trivial, trivial, trivial, trivial, trivial, trivial, trivial⟩ ?_
  refine S.1 _ _ 633 _ _ _ _ (i + 1) (by decide +kernel) h1 ?_
  refine x_callV C (k := 14) (ci := 8) (rest := []) (avs := [.int ((xs ((i + 1)).toNatClampNeg))]) (k_X11_device l ((xs ((i + 1)).toNatClampNeg)) r.2.2 L1 hm.2) yoX11_device ml_L_106 rfl rfl rfl rfl ⟨hc, hs⟩ (show decode cL_law 634 = .ok (.invokevirtual 106, 3) from by decide +kernel) rfl (fun v σ' hPo => ?_)
  obtain ⟨⟨rfl, rfl⟩, -, hI2⟩ := hPo
  have hlo : ∀ p, p < 14 → (f_X11_device ((xs ((i + 1)).toNatClampNeg)) r.2.2).2 p = (r.2.2) p := fun p hp => fr_X11_device (xn_lo hp (by decide))
  generalize f_X11_device ((xs ((i + 1)).toNatClampNeg)) r.2.2 = q at hI2 hq hlo ⊢
  show V (cells + 1) (slots + 6) 637 [(5, .int r.1), (0, .ref 3000), (1, .ref 0), (2, .ref 14), (3, .ref 22), (4, .int i)] [.int q.1] LAY (q.2, L1)
  refine x_run C [(637, .istore 6, 2, .null), (639, .aload_n 2, 1, .null)] (by decide +kernel) (pc' := 640) (lv' := [(6, .int q.1), (5, .int r.1), (0, .ref 3000), (1, .ref 0), (2, .ref 14), (3, .ref 22), (4, .int i)]) (st' := [.ref 14]) (σ' := (q.2, L1)) rfl ⟨trivial, trivial, trivial⟩ ?_
  refine x_callV C (k := 14) (ci := 8) (rest := []) (avs := []) (k_X11_thrown l q.2 L1 hI2) yoX11_thrown ml_L_57 rfl rfl rfl rfl ⟨hc, hs⟩ (show decode cL_law 640 = .ok (.invokevirtual 57, 3) from by decide +kernel) rfl (fun v σ' hPo => ?_)
  obtain ⟨⟨rfl, rfl⟩, -, -⟩ := hPo
  show V (cells + 1) (slots + 6) 643 [(6, .int q.1), (5, .int r.1), (0, .ref 3000), (1, .ref 0), (2, .ref 14), (3, .ref 22), (4, .int i)] [.int (q.2 14 0)] LAY (q.2, L1)
  refine x_run C [(643, .iload 5, 2, .null)] (by decide +kernel) (pc' := 645) (lv' := [(6, .int q.1), (5, .int r.1), (0, .ref 3000), (1, .ref 0), (2, .ref 14), (3, .ref 22), (4, .int i)]) (st' := [.int r.1, .int (q.2 14 0)]) (σ' := (q.2, L1)) rfl ⟨trivial, trivial⟩ ?_
  refine x_icmp_eq C (show decode cL_law 645 = .ok (.if_icmp .eq 5, 3) from by decide +kernel) (tgt := 650) (by decide) (fun _ => ?_) (fun c0 => x_ab (c0 hq.1.symm) C)
  show V (cells + 1) (slots + 6) 650 [(6, .int q.1), (5, .int r.1), (0, .ref 3000), (1, .ref 0), (2, .ref 14), (3, .ref 22), (4, .int i)] [] LAY (q.2, L1)
  refine x_run C [(650, .iload 5, 2, .null)] (by decide +kernel) (pc' := 652) (lv' := [(6, .int q.1), (5, .int r.1), (0, .ref 3000), (1, .ref 0), (2, .ref 14), (3, .ref 22), (4, .int i)]) (st' := [.int r.1]) (σ' := (q.2, L1)) rfl ⟨trivial, trivial⟩ ?_
  have fin : V (cells + 1) (slots + 6) 667 [(6, .int q.1), (5, .int r.1), (0, .ref 3000), (1, .ref 0), (2, .ref 14), (3, .ref 22), (4, .int i)] [] LAY (q.2, L1) := by
    refine x_goto C (tgt := 708) (show decode cL_law 667 = .ok (.goto 41, 3) from by decide +kernel) (by decide) ?_
    refine x_lv C [2, 3, 4, 5, 6] rfl ?_
    exact next _ _ (LI.go h hK hI2 hlo hq.2.2)
  refine x_if_ne C (show decode cL_law 652 = .ok (.ifCond .ne 15, 3) from by decide +kernel) (tgt := 667) (by decide) (fun _ => fin) (fun c1 => ?_)
  have hL1 : L1 22 0 = q.1.toInt64 := by rw [← hL, if_pos c1, ← hq.2.1 c1]; rfl
  refine x_run C [(655, .aload_n 3, 1, .null), (656, .iconst 0, 1, .int 0), (657, .laload, 1, .null), (658, .iload 6, 2, .null), (660, .i2l, 1, .null), (661, .lcmp, 1, .null)] (by decide +kernel) (pc' := 662) (lv' := [(6, .int q.1), (5, .int r.1), (0, .ref 3000), (1, .ref 0), (2, .ref 14), (3, .ref 22), (4, .int i)]) (st' := [.int (lg_cmp (L1 22 0) (q.1).toInt64)]) (σ' := (q.2, L1)) rfl ⟨trivial, trivial, (vpi (by decide)), trivial, trivial, trivial, trivial⟩ ?_
  exact x_if_eq C (show decode cL_law 662 = .ok (.ifCond .eq 5, 3) from by decide +kernel) (tgt := 667) (by decide) (fun _ => fin) (fun c2 => x_ab (c2 (by rw [hL1]; exact (lg_cmp_eq _ _).mpr rfl)) C)
set_option maxRecDepth 20000 in
set_option maxHeartbeats 4000000 in
theorem c_L_13 {l : Launch} {nm : String} {V : XJ} {n : Nat} {xs : Nat → Int32} (C : C_L l nm V) (S : XLs V n xs) (hst : l.stackTraces = false) {i : Int32} (h1 : vp_in (i + 1) n) (h2 : vp_in (i + 2) n) (h3 : vp_in (i + 3) n) (h4 : vp_in (i + 4) n) {M : St} {Lg : Nat → Nat → Int64} (h : LI M) {cells slots : Nat} (hc : cells + 1 ≤ 1057) (hs : slots + 6 ≤ 12791) (next : ∀ M' L', LI M' → V (cells + 1) (slots + 6) 708 [(0, .ref 3000), (1, .ref 0), (2, .ref 14), (3, .ref 22), (4, .int i)] [] LAY (M', L')) : V cells slots 670 [(0, .ref 3000), (1, .ref 0), (2, .ref 14), (3, .ref 22), (4, .int i)] [] LAY (M, Lg) := by
  refine x_run C [(670, .aload_n 1, 1, .null)] (by decide +kernel) (pc' := 671) (lv' := [(0, .ref 3000), (1, .ref 0), (2, .ref 14), (3, .ref 22), (4, .int i)]) (st' := [.ref 0]) (σ' := (M, Lg)) rfl ⟨trivial, trivial⟩ ?_
  refine x_callV C (k := 0) (ci := 7) (rest := []) (avs := []) (k_X10_state l  M Lg h.2.2) yoX10_state ml_L_107 rfl rfl rfl rfl ⟨Nat.le_of_succ_le hc, Nat.le_trans (Nat.le_add_right _ 6) hs⟩ (show decode cL_law 671 = .ok (.invokevirtual 107, 3) from by decide +kernel) rfl (fun v σ' hPo => ?_)
  obtain ⟨⟨rfl, rfl⟩, -, hK⟩ := hPo
  have hq := stateR h.1
  show V cells slots 674 [(0, .ref 3000), (1, .ref 0), (2, .ref 14), (3, .ref 22), (4, .int i)] [.int (f_X10_state M)] LAY (M, Lg)
  refine x_run C [(674, .aload_n 2, 1, .null)] (by decide +kernel) (pc' := 675) (lv' := [(0, .ref 3000), (1, .ref 0), (2, .ref 14), (3, .ref 22), (4, .int i)]) (st' := [.ref 14, .int (f_X10_state M)]) (σ' := (M, Lg)) rfl ⟨trivial, trivial⟩ ?_
  refine x_callV C (k := 14) (ci := 8) (rest := [.int (f_X10_state M)]) (avs := []) (k_X11_state l  M Lg h.2.1) yoX11_state ml_L_110 rfl rfl rfl rfl ⟨Nat.le_of_succ_le hc, Nat.le_trans (Nat.le_add_right _ 6) hs⟩ (show decode cL_law 675 = .ok (.invokevirtual 110, 3) from by decide +kernel) rfl (fun v σ' hPo => ?_)
  obtain ⟨⟨rfl, rfl⟩, -, hI2⟩ := hPo
  show V cells slots 678 [(0, .ref 3000), (1, .ref 0), (2, .ref 14), (3, .ref 22), (4, .int i)] [.int (f_X11_state M).1, .int (f_X10_state M)] LAY ((f_X11_state M).2, Lg)
  refine x_icmp_eq C (show decode cL_law 678 = .ok (.if_icmp .eq 30, 3) from by decide +kernel) (tgt := 708) (by decide) (fun _ => ?_) (fun c0 => x_ab (c0 hq.1) C)
  refine x_wid C (Nat.le_add_right _ 1) (Nat.le_add_right _ 6) ?_
  exact next _ _ (LI.go h hK hI2 (fun p hp => fr_X11_state (xn_lo hp (by decide))) hq.2)
set_option maxRecDepth 20000 in
set_option maxHeartbeats 4000000 in
theorem c_L_14 {l : Launch} {nm : String} {V : XJ} {n : Nat} {xs : Nat → Int32} (C : C_L l nm V) (S : XLs V n xs) (hst : l.stackTraces = false) {i : Int32} (h1 : vp_in (i + 1) n) (h2 : vp_in (i + 2) n) (h3 : vp_in (i + 3) n) (h4 : vp_in (i + 4) n) {M : St} {Lg : Nat → Nat → Int64} (h : LI M) {cells slots : Nat} (hc : cells + 1 ≤ 1057) (hs : slots + 6 ≤ 12791) (next : ∀ M' L', LI M' → V (cells + 1) (slots + 6) 708 [(0, .ref 3000), (1, .ref 0), (2, .ref 14), (3, .ref 22), (4, .int i)] [] LAY (M', L')) : V cells slots 683 [(0, .ref 3000), (1, .ref 0), (2, .ref 14), (3, .ref 22), (4, .int i)] [] LAY (M, Lg) := by
  refine x_run C [(683, .aload_n 1, 1, .null), (684, .aload_n 0, 1, .null), (685, .iload 4, 2, .null), (687, .iconst 1, 1, .int 1), (688, .iadd, 1, .null)] (by decide +kernel) (pc' := 689) (lv' := [(0, .ref 3000), (1, .ref 0), (2, .ref 14), (3, .ref 22), (4, .int i)]) (st' := [.int (i + 1), .ref 3000, .ref 0]) (σ' := (M, Lg)) rfl ⟨trivial, trivial, trivial, trivial, trivial, trivial⟩ ?_
  refine S.1 _ _ 689 _ _ _ _ (i + 1) (by decide +kernel) h1 ?_
  refine x_callV C (k := 0) (ci := 7) (rest := []) (avs := [.int ((xs ((i + 1)).toNatClampNeg))]) (k_X10_counted l ((xs ((i + 1)).toNatClampNeg)) M Lg h.2.2) yoX10_counted ml_L_111 rfl rfl rfl rfl ⟨Nat.le_of_succ_le hc, Nat.le_trans (Nat.le_add_right _ 6) hs⟩ (show decode cL_law 690 = .ok (.invokevirtual 111, 3) from by decide +kernel) rfl (fun v σ' hPo => ?_)
  obtain ⟨⟨rfl, rfl⟩, -, hK⟩ := hPo
  have hq := countedR (a := (xs ((i + 1)).toNatClampNeg)) h.1
  show V cells slots 693 [(0, .ref 3000), (1, .ref 0), (2, .ref 14), (3, .ref 22), (4, .int i)] [.int (f_X10_counted ((xs ((i + 1)).toNatClampNeg)) M)] LAY (M, Lg)
  refine x_run C [(693, .aload_n 2, 1, .null), (694, .aload_n 0, 1, .null), (695, .iload 4, 2, .null), (697, .iconst 1, 1, .int 1), (698, .iadd, 1, .null)] (by decide +kernel) (pc' := 699) (lv' := [(0, .ref 3000), (1, .ref 0), (2, .ref 14), (3, .ref 22), (4, .int i)]) (st' := [.int (i + 1), .ref 3000, .ref 14, .int (f_X10_counted ((xs ((i + 1)).toNatClampNeg)) M)]) (σ' := (M, Lg)) rfl ⟨trivial, trivial, trivial, trivial, trivial, trivial⟩ ?_
  refine S.1 _ _ 699 _ _ _ _ (i + 1) (by decide +kernel) h1 ?_
  refine x_callV C (k := 14) (ci := 8) (rest := [.int (f_X10_counted ((xs ((i + 1)).toNatClampNeg)) M)]) (avs := [.int ((xs ((i + 1)).toNatClampNeg))]) (k_X11_counted l ((xs ((i + 1)).toNatClampNeg)) M Lg h.2.1) yoX11_counted ml_L_114 rfl rfl rfl rfl ⟨Nat.le_of_succ_le hc, Nat.le_trans (Nat.le_add_right _ 6) hs⟩ (show decode cL_law 700 = .ok (.invokevirtual 114, 3) from by decide +kernel) rfl (fun v σ' hPo => ?_)
  obtain ⟨⟨rfl, rfl⟩, -, hI2⟩ := hPo
  show V cells slots 703 [(0, .ref 3000), (1, .ref 0), (2, .ref 14), (3, .ref 22), (4, .int i)] [.int (f_X11_counted ((xs ((i + 1)).toNatClampNeg)) M).1, .int (f_X10_counted ((xs ((i + 1)).toNatClampNeg)) M)] LAY ((f_X11_counted ((xs ((i + 1)).toNatClampNeg)) M).2, Lg)
  refine x_icmp_eq C (show decode cL_law 703 = .ok (.if_icmp .eq 5, 3) from by decide +kernel) (tgt := 708) (by decide) (fun _ => ?_) (fun c0 => x_ab (c0 hq.1) C)
  refine x_wid C (Nat.le_add_right _ 1) (Nat.le_add_right _ 6) ?_
  exact next _ _ (LI.go h hK hI2 (fun p hp => fr_X11_counted (xn_lo hp (by decide))) hq.2)
