/-! the law's own strings and the script, from what stands beside the picture -/
def v_XX (G : vG) (L : Nat) (xs : Nat → Int32) : Prop := v_xl (fun i => G.1 (145 + i)) = L ∧ ∀ j, v_xs (fun i => G.1 (145 + i)) j = xs j
section VX
variable {X : vX} {G : vG} {cc : ByteArray} {own : String} {nL : Nat} {R : Room} {S : vSt} {pc : Nat} {lv : List (Nat × Value)} {st : List Value}
theorem V_qldc (C : v_Cx X G cc own nL R) {i a : Nat} {q : Nat} (hq : q < 13) (hZ : own = (v_srf q).2.1) (hi : i = (v_srf q).1) (ha : a = 145 + (3 + 2 * q)) (hd : decode cc pc = .ok (.ldc i, 2)) (kk : VJ X G S (pc + 2) lv (.ref (G.1 a) :: st)) : VJ X G S pc lv st := fun H locs ls hP hS h => by
  subst hZ; subst hi; subst ha
  exact va_ldcS C.x C.b C.ow (C.EX.1.2.1 q hq) hd (kk H locs ls hP hS h)
theorem V_sld (C : v_Cx X G cc own nL R) {L : Nat} {xs : Nat → Int32} (hX : v_XX G L xs) {i : Int32} (hi : vp_in i L) (hd : decode cc pc = .ok (.iaload, 1)) (kk : VJ X G S (pc + 1) lv (.int (xs i.toNatClampNeg) :: st)) : VJ X G S pc lv (.int i :: .ref (G.1 (145 + 99)) :: st) := fun H locs ls hP hS h =>
  va_ti C.x C.b C.EX.1.2.2.2.2.2 hS (by rw [hX.1]; exact hi) (v := .int (xs i.toNatClampNeg)) (by show Value.int _ = _; rw [hX.2]) hd (kk H locs ls hP hS h)
theorem V_slen (C : v_Cx X G cc own nL R) {L : Nat} {xs : Nat → Int32} (hX : v_XX G L xs) (hd : decode cc pc = .ok (.arraylength, 1)) (kk : VJ X G S (pc + 1) lv (.int (Int32.ofNat L) :: st)) : VJ X G S pc lv (.ref (G.1 (145 + 99)) :: st) := fun H locs ls hP hS h =>
  va_tlen C.x C.b C.EX.1.2.2.2.2.2 hS (by rw [hX.1]) hd (kk H locs ls hP hS h)
end VX
