/-! switches, loops' measures -/
section XSW
variable {l : Launch} {own nm : String} {cc : ByteArray} {nL : Nat} {R : Room} {mc ms : Nat} {fl : List xFl} {kc : List (Nat × Value)} {n0 : Nat} {Fin : Option Value → List xL → xG → Prop} {V : XJ}
variable {cells slots pc : Nat} {lay : List xL} {lv lv' : List (Nat × Value)} {st st' : List Value} {σ σ' : xG} {O : Prop}
theorem x_tin (C : XC l own nm cc nL R mc ms fl kc n0 Fin V) {dflt lo hi : Int} {offs : Array Int} {len : Nat} {x : Int32} {off : Int} {tgt : Nat} (hd : decode cc pc = .ok (.tableswitch dflt lo hi offs, len)) (k : Int32) (hx : x = k) (h : ¬ k.toInt < lo ∧ ¬ hi < k.toInt ∧ offs[(k.toInt - lo).toNat]? = some off ∧ (pc : Int) + off = (tgt : Int)) (kk : V cells slots tgt lv st lay σ) : V cells slots pc lv (.int x :: st) lay σ := by
  obtain ⟨p, e, s, m, args, below, meth, c, Q, D, ty, ad0, A, rfl, B, -⟩ := C
  subst hx
  exact XV.step (fun ad H locs ls hl w => lv_tableIn B.1 B.2.1 hd h.1 h.2.1 h.2.2.1 h.2.2.2 w) kk
theorem x_tout (C : XC l own nm cc nL R mc ms fl kc n0 Fin V) {dflt lo hi : Int} {offs : Array Int} {len : Nat} {x : Int32} {tgt : Nat} (hd : decode cc pc = .ok (.tableswitch dflt lo hi offs, len)) (h : x.toInt < lo ∨ hi < x.toInt) (ht : (pc : Int) + dflt = (tgt : Int)) (kk : V cells slots tgt lv st lay σ) : V cells slots pc lv (.int x :: st) lay σ := by
  obtain ⟨p, e, s, m, args, below, meth, c, Q, D, ty, ad0, A, rfl, B, -⟩ := C
  exact XV.step (fun ad H locs ls hl w => lv_tableOut B.1 B.2.1 hd h ht w) kk
theorem x_lsw (C : XC l own nm cc nL R mc ms fl kc n0 Fin V) {dflt : Int} {ps : Array (Int × Int)} {len : Nat} {x : Int32} {off : Int} {tgt : Nat} (hd : decode cc pc = .ok (.lookupswitch dflt ps, len)) (hp : (ps.toList.zip (ps.toList.drop 1)).all (fun (a, next) => a.1 < next.1) = true) (ho : Op.lookupswitch.offset ps.toList dflt x.toInt = off) (ht : (pc : Int) + off = (tgt : Int)) (kk : V cells slots tgt lv st lay σ) : V cells slots pc lv (.int x :: st) lay σ := by
  obtain ⟨p, e, s, m, args, below, meth, c, Q, D, ty, ad0, A, rfl, B, -⟩ := C
  exact XV.step (fun ad H locs ls hl w => lv_lookup B.1 B.2.1 hd hp ho ht w) kk
end XSW
theorem x_meas {k b : Int32} {n : Nat} (hlt : k < b) (h : (b.toInt - k.toInt).toNat < n + 1) : (b.toInt - (k + 1).toInt).toNat < n := by
  rw [x_lt] at hlt
  have h1 : (k + 1).toInt = k.toInt + 1 := by
    have := x_rg_toInt_add (x_rgw (x_rgt k) (Int.le_refl _) (Int.le_refl _)) (x_rgt (1 : Int32)) 
    have hk := x_rgt k
    have hb := x_rgt b
    have e1 : (1 : Int32).toInt = 1 := by decide
    rw [Int32.toInt_add, e1]
    obtain ⟨a1, a2⟩ := hk
    obtain ⟨b1, b2⟩ := hb
    apply Int.bmod_eq_of_le <;> omega
  rw [h1]
  omega
theorem x_measd {k : Int32} {n : Nat} (hlt : ¬ k ≤ 0) (h : k.toInt.toNat < n + 1) : (k + (-1)).toInt.toNat < n := by
  rw [x_le] at hlt
  have e0 : (0 : Int32).toInt = 0 := by decide
  rw [e0] at hlt
  have hk := x_rgt k
  obtain ⟨a1, a2⟩ := hk
  have h1 : (k + (-1)).toInt = k.toInt - 1 := by
    have e1 : (-1 : Int32).toInt = -1 := by decide
    rw [Int32.toInt_add, e1]
    have : (k.toInt + -1).bmod (2 ^ 32) = k.toInt + -1 := by apply Int.bmod_eq_of_le <;> omega
    omega
  rw [h1]
  omega
theorem xb_eq {α β : Sort _} {x : α} {f : α → β} {r : β} (h : xb x f = r) : f x = r := h
